/-! THE REFERENCE: mapsAll, ends, has, countOf, count -/
def MP (M N : tM) : Prop := ∀ r : Nat, (r : Int) < N 0 5 → N (14 + r) 1 = 1 → MPr M N r
abbrev E9 (M M2 : tM) : Prop := ∀ a : Nat, a ≠ 97 → a ≠ 98 → a ≠ 99 → M2 a = M a
theorem E9.em {M M2 : tM} (h : E9 M M2) : Em M M2 := fun a b _ c2 c3 c4 _ _ => by rw [h a c2 c3 c4]
theorem E9.it {M M2 : tM} (h : E9 M M2) {l : List Nat} (hI : IT M l) : IT M2 l := fun j hj => by rw [h 96 (by decide) (by decide) (by decide)]; exact hI j hj
theorem MPr_keep {M M2 N : tM} {r r2 : Nat} (hE : Emr r M M2) (hne : r2 ≠ r) (hn : nR N (14 + r2) ≤ 30) (h : MPr M N r2) : MPr M2 N r2 := by
  obtain ⟨h1, h2, h3⟩ := h
  refine ⟨fun k hk => ?_, fun p hp => ?_, fun p hp => ?_⟩
  · rw [hE 97 (16 * r2 + k) (by omega) (by omega) (by omega)]; exact h1 k hk
  · rw [hE 98 (30 * r2 + p) (by omega) (by omega) (by omega)]; exact h2 p hp
  · rw [hE 99 (30 * r2 + p) (by omega) (by omega) (by omega)]; exact h3 p hp
/-- the first m items are matched in row i -/
def hasM (N : tM) (i : Nat) (l : List Nat) (m : Nat) : Prop := ∃ b e, chR N i l (m - 1) b e
theorem take_get {l : List Nat} {m j : Nat} (h : j < m) : (l.take m).getD j 0 = l.getD j 0 := by
  simp only [List.getD_eq_getElem?_getD]
  rw [List.getElem?_take_of_lt h]
theorem hasM_take {N : tM} {i : Nat} {l : List Nat} {m : Nat} (h1 : 1 ≤ m) (hm : m ≤ l.length) : hasM N i l m ↔ hasR N i (l.take m) := by
  have hlen : (l.take m).length = m := by rw [List.length_take]; omega
  unfold hasM hasR
  rw [hlen]
  constructor
  · rintro ⟨b, e, h⟩; exact ⟨b, e, ch.congr (fun j hj => take_get (by omega)) h⟩
  · rintro ⟨b, e, h⟩; exact ⟨b, e, ch.congr (fun j hj => (take_get (by omega)).symm) h⟩
theorem sumI_cut {f : Nat → Int} {n : Nat} : ∀ m : Nat, n ≤ m → (∀ r, n ≤ r → r < m → f r = 0) → sumI f m = sumI f n
  | 0, h, _ => by rw [show n = 0 by omega]
  | m + 1, h, hz => by
    by_cases q : n = m + 1
    · rw [q]
    · show sumI f m + f m = _
      rw [sumI_cut m (by omega) (fun r a b => hz r a (by omega)), hz m (by omega) (by omega), Int.add_zero]
theorem MSK.and {x y : Int} {P R : Nat → Prop} (hx : MSK x P) (hy : MSK y R) : MSK (bAnd x y) (fun q => P q ∧ R q) := by
  obtain ⟨a, a1, a2, a3⟩ := hx
  obtain ⟨b, b1, b2, b3⟩ := hy
  refine ⟨a &&& b, ?_, Nat.lt_of_le_of_lt Nat.and_le_left a2, fun q => ?_⟩
  · rw [a1, b1, bAnd_nat (Or.inl (by omega))]
  · rw [Nat.testBit_and, Bool.and_eq_true, a3, b3]
theorem MSK.or {x y : Int} {P R : Nat → Prop} (hx : MSK x P) (hy : MSK y R) : MSK (bOr x y) (fun q => P q ∨ R q) := by
  obtain ⟨a, a1, a2, a3⟩ := hx
  obtain ⟨b, b1, b2, b3⟩ := hy
  refine ⟨a ||| b, ?_, Nat.or_lt_two_pow (n := 30) a2 b2, fun q => ?_⟩
  · rw [a1, b1, bOr_nat (by omega) (by omega)]
  · rw [Nat.testBit_or, Bool.or_eq_true, a3, b3]
theorem MSK.iff {x : Int} {P R : Nat → Prop} (hx : MSK x P) (h : ∀ q, P q ↔ R q) : MSK x R := by
  obtain ⟨a, a1, a2, a3⟩ := hx
  exact ⟨a, a1, a2, fun q => (a3 q).trans (h q)⟩
theorem MSK.r {x : Int} {P : Nat → Prop} (hx : MSK x P) : 0 ≤ x ∧ x < 1073741824 := by
  obtain ⟨a, a1, a2, -⟩ := hx
  omega
theorem MSK.z {x : Int} {P : Nat → Prop} (hx : MSK x P) (h : x = 0) : ∀ q, ¬ P q := by
  obtain ⟨a, a1, a2, a3⟩ := hx
  intro q hq
  have := (a3 q).mpr hq
  rw [show a = 0 by omega, Nat.zero_testBit] at this
  cases this
theorem MSK.nz {x : Int} {P : Nat → Prop} (hx : MSK x P) (h : x ≠ 0) : ∃ q, P q := by
  obtain ⟨a, a1, a2, a3⟩ := hx
  have ha : a ≠ 0 := by omega
  obtain ⟨q, hq⟩ := Nat.exists_testBit_of_ne_zero ha
  exact ⟨q, (a3 q).mp hq⟩
theorem MSK.one {x : Nat} (h : x < 30) : MSK (1 * 2 ^ x) (fun q => q = x) := by
  refine ⟨2 ^ x, by rw [Int.one_mul, Int.natCast_pow]; rfl, (show 2 ^ x < 2 ^ 30 from Nat.pow_lt_pow_right (by omega) h), fun q => ?_⟩
  by_cases z : q = x
  · subst z; rw [Nat.testBit_two_pow_self]; simp
  · rw [Nat.testBit_two_pow_of_ne (by omega)]; simp [z]
theorem MSK.zero : MSK 0 (fun _ => False) := ⟨0, rfl, by omega, fun q => by rw [Nat.zero_testBit]; simp⟩
section
variable {C : tC} {Q : tQ} {d : Nat} {M N : tM}
set_option maxRecDepth 40000 in
set_option maxHeartbeats 4000000 in
theorem c_X6_mapsAll (S : Snd C) (hk : WFk N) (h : WFr N) (hg : WFg N) (hM : RMr M N) (hK : RMk M N) (hG : RMg M N) (k : ∀ M2, E9 M M2 → MP M2 N → Q none M2) : C (d + 2) 94 [vR 86] M Q := by
  have h1 := h.1
  have loop : ∀ (n r : Nat), r + n = (N 0 5).toNat → ∀ M2, E9 M M2 → (∀ r2 : Nat, r2 < r → N (14 + r2) 1 = 1 → MPr M2 N r2) → Runs C (tabF k_X6_mapsAll) (d + 2) Q 2 [some (vR 86), some (vI r)] [] M2 := by
    intro n
    induction n with
    | zero =>
      intro r hr M2 hE hm
      have e0 : M2 86 0 = N 0 5 := by rw [hE 86 (by decide) (by decide) (by decide)]; exact hM.1
      refine Runs.go S.1 mo_X6_mapsAll [2, 24] 19 ?_
      simp only [e_X6_mapsAll_0, e_X6_mapsAll_1, e_X6_mapsAll_2, e_X6_mapsAll_3, e_X6_mapsAll_4, e_X6_mapsAll_7, e_X6_mapsAll_10, e_X6_mapsAll_11, e_X6_mapsAll_14, e_X6_mapsAll_15, e_X6_mapsAll_16, e_X6_mapsAll_19, e_X6_mapsAll_20, e_X6_mapsAll_21, e_X6_mapsAll_24, e_X6_mapsAll_27, e_X6_mapsAll_30, e0, f_callV, f_getI, f_getR, f_goto, f_icmp, f_if0, f_iinc, f_loadI, f_loadR, f_push, f_storeI, f_vret, f_zald, stN, lget, lput, clrL, lputL, lenLe, lenGe, noL, swL, List.elem_cons, List.elem_nil, List.take_succ_cons, List.take_zero, List.take_nil, List.drop_succ_cons, List.drop_zero, List.reverse_cons, List.reverse_nil, List.nil_append, List.cons_append, Option.toList_some, Option.toList_none, Bool.and_true, Bool.or_false, Bool.false_or, Bool.true_or, Bool.and_self, true_and, and_true, Nat.reduceAdd, Nat.reduceBEq, Int.reduceAdd, Int.reduceNeg, Int.reduceLE, Int.reduceLT, Int.reduceSub, Int.reduceMul, Int.reduceToNat, cEq, cNe, cLt, cGe, cGt, cLe, iR, lR, cl_0, cl_1, cl_4, cl_9, cl_86, al_2, al_3, al_5, al_13, al_6, al_7, al_8, al_10, al_11, al_87, al_88, al_90, al_91, al_92, al_93, al_94, al_95, al_96, al_97, al_98, al_99, al_100, ne_eq, not_true_eq_false, not_false_eq_true, upM_eq, upM_ni, upM_nj, upM_24, upM_48, upM_i24, upM_i48, upM_2448, upM_4824, Nat.reduceEqDiff, reduceCtorEq, or_true, true_or, Int.reduceEq, true_implies, false_implies, Int.reducePow, Int.toNat_natCast]
      exact ⟨by omega, by omega, fun _ => k M2 hE (fun r2 a1 a2 => hm r2 (by omega) a2), fun z => by omega⟩
    | succ n ih =>
      intro r hr M2 hE hm
      have e0 : M2 86 0 = N 0 5 := by rw [hE 86 (by decide) (by decide) (by decide)]; exact hM.1
      have e1 : M2 89 r = 1 - N (14 + r) 1 := by rw [hE 89 (by decide) (by decide) (by decide)]; exact (hM.2.1 r (by omega)).2.1
      have hin := (h.2 r (by omega)).2.2
      refine Runs.go S.1 mo_X6_mapsAll [2, 24] 19 ?_
      simp only [e_X6_mapsAll_0, e_X6_mapsAll_1, e_X6_mapsAll_2, e_X6_mapsAll_3, e_X6_mapsAll_4, e_X6_mapsAll_7, e_X6_mapsAll_10, e_X6_mapsAll_11, e_X6_mapsAll_14, e_X6_mapsAll_15, e_X6_mapsAll_16, e_X6_mapsAll_19, e_X6_mapsAll_20, e_X6_mapsAll_21, e_X6_mapsAll_24, e_X6_mapsAll_27, e_X6_mapsAll_30, e0, e1, f_callV, f_getI, f_getR, f_goto, f_icmp, f_if0, f_iinc, f_loadI, f_loadR, f_push, f_storeI, f_vret, f_zald, stN, lget, lput, clrL, lputL, lenLe, lenGe, noL, swL, List.elem_cons, List.elem_nil, List.take_succ_cons, List.take_zero, List.take_nil, List.drop_succ_cons, List.drop_zero, List.reverse_cons, List.reverse_nil, List.nil_append, List.cons_append, Option.toList_some, Option.toList_none, Bool.and_true, Bool.or_false, Bool.false_or, Bool.true_or, Bool.and_self, true_and, and_true, Nat.reduceAdd, Nat.reduceBEq, Int.reduceAdd, Int.reduceNeg, Int.reduceLE, Int.reduceLT, Int.reduceSub, Int.reduceMul, Int.reduceToNat, cEq, cNe, cLt, cGe, cGt, cLe, iR, lR, cl_0, cl_1, cl_4, cl_9, cl_86, al_2, al_3, al_5, al_13, al_6, al_7, al_8, al_10, al_11, al_87, al_88, al_90, al_91, al_92, al_93, al_94, al_95, al_96, al_97, al_98, al_99, al_100, ne_eq, not_true_eq_false, not_false_eq_true, upM_eq, upM_ni, upM_nj, upM_24, upM_48, upM_i24, upM_i48, upM_2448, upM_4824, Nat.reduceEqDiff, reduceCtorEq, or_true, true_or, Int.reduceEq, true_implies, false_implies, Int.reducePow, Int.toNat_natCast]
      refine ⟨by omega, by omega, fun z => by omega, fun _ => ⟨by omega, by omega, fun q => ?_, fun q => ?_⟩⟩
      · refine Runs.go S.1 mo_X6_mapsAll [2, 24] 19 ?_
        simp only [e_X6_mapsAll_0, e_X6_mapsAll_1, e_X6_mapsAll_2, e_X6_mapsAll_3, e_X6_mapsAll_4, e_X6_mapsAll_7, e_X6_mapsAll_10, e_X6_mapsAll_11, e_X6_mapsAll_14, e_X6_mapsAll_15, e_X6_mapsAll_16, e_X6_mapsAll_19, e_X6_mapsAll_20, e_X6_mapsAll_21, e_X6_mapsAll_24, e_X6_mapsAll_27, e_X6_mapsAll_30, f_callV, f_getI, f_getR, f_goto, f_icmp, f_if0, f_iinc, f_loadI, f_loadR, f_push, f_storeI, f_vret, f_zald, stN, lget, lput, clrL, lputL, lenLe, lenGe, noL, swL, List.elem_cons, List.elem_nil, List.take_succ_cons, List.take_zero, List.take_nil, List.drop_succ_cons, List.drop_zero, List.reverse_cons, List.reverse_nil, List.nil_append, List.cons_append, Option.toList_some, Option.toList_none, Bool.and_true, Bool.or_false, Bool.false_or, Bool.true_or, Bool.and_self, true_and, and_true, Nat.reduceAdd, Nat.reduceBEq, Int.reduceAdd, Int.reduceNeg, Int.reduceLE, Int.reduceLT, Int.reduceSub, Int.reduceMul, Int.reduceToNat, cEq, cNe, cLt, cGe, cGt, cLe, iR, lR, cl_0, cl_1, cl_4, cl_9, cl_86, al_2, al_3, al_5, al_13, al_6, al_7, al_8, al_10, al_11, al_87, al_88, al_90, al_91, al_92, al_93, al_94, al_95, al_96, al_97, al_98, al_99, al_100, ne_eq, not_true_eq_false, not_false_eq_true, upM_eq, upM_ni, upM_nj, upM_24, upM_48, upM_i24, upM_i48, upM_2448, upM_4824, Nat.reduceEqDiff, reduceCtorEq, or_true, true_or, Int.reduceEq, true_implies, false_implies, Int.reducePow, Int.toNat_natCast]
        refine ih (r + 1) (by omega) M2 hE (fun r2 a1 a2 => ?_)
        by_cases z : r2 = r
        · subst z; omega
        · exact hm r2 (by omega) a2
      · refine c_X6_maps S hk h hg (hM.mv hE.em) (hK.mv hE.em) (hG.mv hE.em) (by omega) (fun M3 hE3 hm3 => ?_)
        refine Runs.go S.1 mo_X6_mapsAll [2, 24] 19 ?_
        simp only [e_X6_mapsAll_0, e_X6_mapsAll_1, e_X6_mapsAll_2, e_X6_mapsAll_3, e_X6_mapsAll_4, e_X6_mapsAll_7, e_X6_mapsAll_10, e_X6_mapsAll_11, e_X6_mapsAll_14, e_X6_mapsAll_15, e_X6_mapsAll_16, e_X6_mapsAll_19, e_X6_mapsAll_20, e_X6_mapsAll_21, e_X6_mapsAll_24, e_X6_mapsAll_27, e_X6_mapsAll_30, f_callV, f_getI, f_getR, f_goto, f_icmp, f_if0, f_iinc, f_loadI, f_loadR, f_push, f_storeI, f_vret, f_zald, stN, lget, lput, clrL, lputL, lenLe, lenGe, noL, swL, List.elem_cons, List.elem_nil, List.take_succ_cons, List.take_zero, List.take_nil, List.drop_succ_cons, List.drop_zero, List.reverse_cons, List.reverse_nil, List.nil_append, List.cons_append, Option.toList_some, Option.toList_none, Bool.and_true, Bool.or_false, Bool.false_or, Bool.true_or, Bool.and_self, true_and, and_true, Nat.reduceAdd, Nat.reduceBEq, Int.reduceAdd, Int.reduceNeg, Int.reduceLE, Int.reduceLT, Int.reduceSub, Int.reduceMul, Int.reduceToNat, cEq, cNe, cLt, cGe, cGt, cLe, iR, lR, cl_0, cl_1, cl_4, cl_9, cl_86, al_2, al_3, al_5, al_13, al_6, al_7, al_8, al_10, al_11, al_87, al_88, al_90, al_91, al_92, al_93, al_94, al_95, al_96, al_97, al_98, al_99, al_100, ne_eq, not_true_eq_false, not_false_eq_true, upM_eq, upM_ni, upM_nj, upM_24, upM_48, upM_i24, upM_i48, upM_2448, upM_4824, Nat.reduceEqDiff, reduceCtorEq, or_true, true_or, Int.reduceEq, true_implies, false_implies, Int.reducePow, Int.toNat_natCast]
        refine ih (r + 1) (by omega) M3 (fun a c1 c2 c3 => ?_) (fun r2 a1 a2 => ?_)
        · funext b
          rw [hE3 a b (fun z => c1 z.1) (fun z => c2 z.1) (fun z => c3 z.1), hE a c1 c2 c3]
        · by_cases z : r2 = r
          · subst z; exact hm3
          · have hR2 := (h.2 r2 (by omega)).1
            have hRn := hR2.n
            have hR1 := hR2.1
            exact MPr_keep hE3 z (by omega) (hm r2 (by omega) a2)
  refine en_X6_mapsAll S ?_
  refine Runs.go S.1 mo_X6_mapsAll [2, 24] 19 ?_
  simp only [e_X6_mapsAll_0, e_X6_mapsAll_1, e_X6_mapsAll_2, e_X6_mapsAll_3, e_X6_mapsAll_4, e_X6_mapsAll_7, e_X6_mapsAll_10, e_X6_mapsAll_11, e_X6_mapsAll_14, e_X6_mapsAll_15, e_X6_mapsAll_16, e_X6_mapsAll_19, e_X6_mapsAll_20, e_X6_mapsAll_21, e_X6_mapsAll_24, e_X6_mapsAll_27, e_X6_mapsAll_30, f_callV, f_getI, f_getR, f_goto, f_icmp, f_if0, f_iinc, f_loadI, f_loadR, f_push, f_storeI, f_vret, f_zald, stN, lget, lput, clrL, lputL, lenLe, lenGe, noL, swL, List.elem_cons, List.elem_nil, List.take_succ_cons, List.take_zero, List.take_nil, List.drop_succ_cons, List.drop_zero, List.reverse_cons, List.reverse_nil, List.nil_append, List.cons_append, Option.toList_some, Option.toList_none, Bool.and_true, Bool.or_false, Bool.false_or, Bool.true_or, Bool.and_self, true_and, and_true, Nat.reduceAdd, Nat.reduceBEq, Int.reduceAdd, Int.reduceNeg, Int.reduceLE, Int.reduceLT, Int.reduceSub, Int.reduceMul, Int.reduceToNat, cEq, cNe, cLt, cGe, cGt, cLe, iR, lR, cl_0, cl_1, cl_4, cl_9, cl_86, al_2, al_3, al_5, al_13, al_6, al_7, al_8, al_10, al_11, al_87, al_88, al_90, al_91, al_92, al_93, al_94, al_95, al_96, al_97, al_98, al_99, al_100, ne_eq, not_true_eq_false, not_false_eq_true, upM_eq, upM_ni, upM_nj, upM_24, upM_48, upM_i24, upM_i48, upM_2448, upM_4824, Nat.reduceEqDiff, reduceCtorEq, or_true, true_or, Int.reduceEq, true_implies, false_implies, Int.reducePow, Int.toNat_natCast]
  exact loop (N 0 5).toNat 0 (by omega) M (fun _ _ _ _ => rfl) (fun r2 a1 a2 => by omega)
set_option maxRecDepth 40000 in
set_option maxHeartbeats 4000000 in
theorem c_X6_ends (S : Snd C) {r s m : Nat} {l : List Nat} (hl : PL l) (h : WFr N) (hM : RMr M N) (hr : (r : Int) < N 0 5) (hP : MPr M N r) (hI : IT M l) (hm : 1 ≤ m) (hml : m ≤ l.length) (hs : s < nR N (14 + r)) (k : ∀ x, MSK x (fun e => chR N (14 + r) l (m - 1) s e) → Q (some (vI x)) M) : C d 95 [vR 86, vI r, vI s, vI m] M Q := by
  have h1 := h.1
  have h4 := hl.1
  obtain ⟨hR, -, -⟩ := h.2 r hr
  have hRn := hR.n
  have hR1 := hR.1
  obtain ⟨p1, p2, p3⟩ := hP
  have e90 : M 90 r = N (14 + r) 4 := (hM.2.1 r hr).2.2.1
  have is : (30 * (r : Int) + (s : Int)).toNat = 30 * r + s := by omega
  have itm : ∀ j, j < l.length → M 96 j = (l.getD j 0 : Nat) ∧ l.getD j 0 < 16 := fun j hj => ⟨hI j hj, PL_get hl hj⟩
  -- one level: which places are reached
  have inner : ∀ (i : Nat), 1 ≤ i → i < m → ∀ x, MSK x (fun e => chR N (14 + r) l (i - 1) s e) → (∀ y, MSK y (fun q => ∃ p, p < nR N (14 + r) ∧ chR N (14 + r) l (i - 1) s p ∧ (q < nR N (14 + r) ∧ (p < q ∧ tR N (14 + r) q - tR N (14 + r) p ≤ N 4 0))) → ∀ z, Runs C (tabF k_X6_ends) d Q 87 [some (vR 86), some (vI r), some (vI s), some (vI m), some (vI x), some (vI i), some (vI y), z] [] M) → ∀ (n p : Nat), p + n = nR N (14 + r) → ∀ y, MSK y (fun q => ∃ p', p' < p ∧ chR N (14 + r) l (i - 1) s p' ∧ (q < nR N (14 + r) ∧ (p' < q ∧ tR N (14 + r) q - tR N (14 + r) p' ≤ N 4 0))) → Runs C (tabF k_X6_ends) d Q 42 [some (vR 86), some (vI r), some (vI s), some (vI m), some (vI x), some (vI i), some (vI y), some (vI p)] [] M := by
    intro i hi1 him x hx next n
    have hxr := hx.r
    induction n with
    | zero =>
      intro p hp y hy
      refine Runs.go S.1 mo_X6_ends [25, 42, 87] 82 ?_
      simp only [e_X6_ends_0, e_X6_ends_1, e_X6_ends_2, e_X6_ends_3, e_X6_ends_4, e_X6_ends_7, e_X6_ends_9, e_X6_ends_10, e_X6_ends_11, e_X6_ends_12, e_X6_ends_15, e_X6_ends_16, e_X6_ends_17, e_X6_ends_18, e_X6_ends_19, e_X6_ends_20, e_X6_ends_22, e_X6_ends_23, e_X6_ends_25, e_X6_ends_27, e_X6_ends_28, e_X6_ends_31, e_X6_ends_33, e_X6_ends_36, e_X6_ends_37, e_X6_ends_39, e_X6_ends_40, e_X6_ends_42, e_X6_ends_44, e_X6_ends_45, e_X6_ends_48, e_X6_ends_49, e_X6_ends_50, e_X6_ends_53, e_X6_ends_55, e_X6_ends_57, e_X6_ends_58, e_X6_ends_59, e_X6_ends_60, e_X6_ends_61, e_X6_ends_64, e_X6_ends_66, e_X6_ends_67, e_X6_ends_70, e_X6_ends_72, e_X6_ends_73, e_X6_ends_74, e_X6_ends_76, e_X6_ends_77, e_X6_ends_78, e_X6_ends_79, e_X6_ends_81, e_X6_ends_84, e_X6_ends_87, e_X6_ends_89, e_X6_ends_90, e_X6_ends_93, e_X6_ends_95, e_X6_ends_96, e_X6_ends_97, e_X6_ends_98, e_X6_ends_99, e_X6_ends_100, e_X6_ends_101, e_X6_ends_102, e_X6_ends_105, e_X6_ends_107, e_X6_ends_108, e_X6_ends_109, e_X6_ends_110, e_X6_ends_113, e_X6_ends_115, e_X6_ends_116, e_X6_ends_117, e_X6_ends_118, e_X6_ends_119, e_X6_ends_121, e_X6_ends_124, e_X6_ends_127, e_X6_ends_129, e90, f_add, f_and, f_getR, f_goto, f_iald, f_icmp, f_if0, f_iinc, f_iret, f_loadI, f_loadR, f_mul, f_or, f_push, f_shl, f_shr, f_storeI, stN, lget, lput, clrL, lputL, lenLe, lenGe, noL, swL, List.elem_cons, List.elem_nil, List.take_succ_cons, List.take_zero, List.take_nil, List.drop_succ_cons, List.drop_zero, List.reverse_cons, List.reverse_nil, List.nil_append, List.cons_append, Option.toList_some, Option.toList_none, Bool.and_true, Bool.or_false, Bool.false_or, Bool.true_or, Bool.and_self, true_and, and_true, Nat.reduceAdd, Nat.reduceBEq, Int.reduceAdd, Int.reduceNeg, Int.reduceLE, Int.reduceLT, Int.reduceSub, Int.reduceMul, Int.reduceToNat, cEq, cNe, cLt, cGe, cGt, cLe, iR, lR, cl_0, cl_1, cl_4, cl_9, cl_86, al_2, al_3, al_5, al_13, al_6, al_7, al_8, al_10, al_11, al_87, al_88, al_90, al_91, al_92, al_93, al_94, al_95, al_96, al_97, al_98, al_99, al_100, ne_eq, not_true_eq_false, not_false_eq_true, upM_eq, upM_ni, upM_nj, upM_24, upM_48, upM_i24, upM_i48, upM_2448, upM_4824, Nat.reduceEqDiff, reduceCtorEq, or_true, true_or, Int.reduceEq, true_implies, false_implies, Int.reducePow, Int.toNat_natCast]
      refine ⟨by omega, by omega, by omega, fun _ => next y ?_ _, fun z => by omega⟩
      rw [show nR N (14 + r) = p by omega]
      rw [show nR N (14 + r) = p by omega] at hy
      exact hy
    | succ n ih =>
      intro p hp y hy
      have ip : (30 * (r : Int) + (p : Int)).toNat = 30 * r + p := by omega
      obtain ⟨w, w1, w2, w3⟩ := hx
      refine Runs.go S.1 mo_X6_ends [25, 42] 82 ?_
      simp only [e_X6_ends_0, e_X6_ends_1, e_X6_ends_2, e_X6_ends_3, e_X6_ends_4, e_X6_ends_7, e_X6_ends_9, e_X6_ends_10, e_X6_ends_11, e_X6_ends_12, e_X6_ends_15, e_X6_ends_16, e_X6_ends_17, e_X6_ends_18, e_X6_ends_19, e_X6_ends_20, e_X6_ends_22, e_X6_ends_23, e_X6_ends_25, e_X6_ends_27, e_X6_ends_28, e_X6_ends_31, e_X6_ends_33, e_X6_ends_36, e_X6_ends_37, e_X6_ends_39, e_X6_ends_40, e_X6_ends_42, e_X6_ends_44, e_X6_ends_45, e_X6_ends_48, e_X6_ends_49, e_X6_ends_50, e_X6_ends_53, e_X6_ends_55, e_X6_ends_57, e_X6_ends_58, e_X6_ends_59, e_X6_ends_60, e_X6_ends_61, e_X6_ends_64, e_X6_ends_66, e_X6_ends_67, e_X6_ends_70, e_X6_ends_72, e_X6_ends_73, e_X6_ends_74, e_X6_ends_76, e_X6_ends_77, e_X6_ends_78, e_X6_ends_79, e_X6_ends_81, e_X6_ends_84, e_X6_ends_87, e_X6_ends_89, e_X6_ends_90, e_X6_ends_93, e_X6_ends_95, e_X6_ends_96, e_X6_ends_97, e_X6_ends_98, e_X6_ends_99, e_X6_ends_100, e_X6_ends_101, e_X6_ends_102, e_X6_ends_105, e_X6_ends_107, e_X6_ends_108, e_X6_ends_109, e_X6_ends_110, e_X6_ends_113, e_X6_ends_115, e_X6_ends_116, e_X6_ends_117, e_X6_ends_118, e_X6_ends_119, e_X6_ends_121, e_X6_ends_124, e_X6_ends_127, e_X6_ends_129, e90, ip, f_add, f_and, f_getR, f_goto, f_iald, f_icmp, f_if0, f_iinc, f_iret, f_loadI, f_loadR, f_mul, f_or, f_push, f_shl, f_shr, f_storeI, stN, lget, lput, clrL, lputL, lenLe, lenGe, noL, swL, List.elem_cons, List.elem_nil, List.take_succ_cons, List.take_zero, List.take_nil, List.drop_succ_cons, List.drop_zero, List.reverse_cons, List.reverse_nil, List.nil_append, List.cons_append, Option.toList_some, Option.toList_none, Bool.and_true, Bool.or_false, Bool.false_or, Bool.true_or, Bool.and_self, true_and, and_true, Nat.reduceAdd, Nat.reduceBEq, Int.reduceAdd, Int.reduceNeg, Int.reduceLE, Int.reduceLT, Int.reduceSub, Int.reduceMul, Int.reduceToNat, cEq, cNe, cLt, cGe, cGt, cLe, iR, lR, cl_0, cl_1, cl_4, cl_9, cl_86, al_2, al_3, al_5, al_13, al_6, al_7, al_8, al_10, al_11, al_87, al_88, al_90, al_91, al_92, al_93, al_94, al_95, al_96, al_97, al_98, al_99, al_100, ne_eq, not_true_eq_false, not_false_eq_true, upM_eq, upM_ni, upM_nj, upM_24, upM_48, upM_i24, upM_i48, upM_2448, upM_4824, Nat.reduceEqDiff, reduceCtorEq, or_true, true_or, Int.reduceEq, true_implies, false_implies, Int.reducePow, Int.toNat_natCast]
      refine ⟨by omega, by omega, by omega, fun z => by omega, fun _ => ⟨by omega, by omega, ?_⟩⟩
      rw [w1, bit_ask]
      have hgo : ∀ y2, MSK y2 (fun q => ∃ p', p' < p + 1 ∧ chR N (14 + r) l (i - 1) s p' ∧ (q < nR N (14 + r) ∧ (p' < q ∧ tR N (14 + r) q - tR N (14 + r) p' ≤ N 4 0))) → Runs C (tabF k_X6_ends) d Q 42 [some (vR 86), some (vI r), some (vI s), some (vI m), some (vI x), some (vI i), some (vI y2), some (vI ((p : Int) + 1))] [] M := fun y2 h2 => ih (p + 1) (by omega) y2 h2
      rw [w1] at hgo
      by_cases hb : w.testBit p = true
      · rw [if_pos hb]
        refine ⟨by omega, fun z => by omega, fun _ => ⟨by omega, ?_⟩⟩
        refine hgo _ ((hy.or (p2 p (by omega))).iff (fun q => ?_))
        constructor
        · rintro (⟨p', a1, a2, a3⟩ | a)
          · exact ⟨p', by omega, a2, a3⟩
          · exact ⟨p, by omega, (w3 p).mp hb, a⟩
        · rintro ⟨p', a1, a2, a3⟩
          by_cases z : p' = p
          · subst z; exact Or.inr a3
          · exact Or.inl ⟨p', by omega, a2, a3⟩
      · rw [if_neg hb]
        refine ⟨by omega, fun _ => ?_, fun z => by omega⟩
        refine hgo _ (hy.iff (fun q => ?_))
        constructor
        · rintro ⟨p', a1, a2, a3⟩; exact ⟨p', by omega, a2, a3⟩
        · rintro ⟨p', a1, a2, a3⟩
          by_cases z : p' = p
          · subst z; exact absurd ((w3 p').mpr a2) hb
          · exact ⟨p', by omega, a2, a3⟩
  -- nothing ends: nothing ends later
  have dead : ∀ i j, i ≤ j → (∀ e, ¬ chR N (14 + r) l i s e) → ∀ e, ¬ chR N (14 + r) l j s e := by
    intro i j hij hd
    obtain ⟨t, rfl⟩ : ∃ t, j = i + t := ⟨j - i, by omega⟩
    clear hij
    induction t with
    | zero => exact hd
    | succ t ih =>
      rintro e ⟨-, -, -, q, -, z, -⟩
      exact ih q z
  have outer : ∀ (n i : Nat), i + n = m → 1 ≤ i → ∀ x, MSK x (fun e => chR N (14 + r) l (i - 1) s e) → ∀ y z, Runs C (tabF k_X6_ends) d Q 25 [some (vR 86), some (vI r), some (vI s), some (vI m), some (vI x), some (vI i), y, z] [] M := by
    intro n
    induction n with
    | zero =>
      intro i hi hi1 x hx y z
      rw [show i = m by omega] at hx
      have hxr := hx.r
      refine Runs.go S.1 mo_X6_ends [25, 42] 82 ?_
      simp only [e_X6_ends_0, e_X6_ends_1, e_X6_ends_2, e_X6_ends_3, e_X6_ends_4, e_X6_ends_7, e_X6_ends_9, e_X6_ends_10, e_X6_ends_11, e_X6_ends_12, e_X6_ends_15, e_X6_ends_16, e_X6_ends_17, e_X6_ends_18, e_X6_ends_19, e_X6_ends_20, e_X6_ends_22, e_X6_ends_23, e_X6_ends_25, e_X6_ends_27, e_X6_ends_28, e_X6_ends_31, e_X6_ends_33, e_X6_ends_36, e_X6_ends_37, e_X6_ends_39, e_X6_ends_40, e_X6_ends_42, e_X6_ends_44, e_X6_ends_45, e_X6_ends_48, e_X6_ends_49, e_X6_ends_50, e_X6_ends_53, e_X6_ends_55, e_X6_ends_57, e_X6_ends_58, e_X6_ends_59, e_X6_ends_60, e_X6_ends_61, e_X6_ends_64, e_X6_ends_66, e_X6_ends_67, e_X6_ends_70, e_X6_ends_72, e_X6_ends_73, e_X6_ends_74, e_X6_ends_76, e_X6_ends_77, e_X6_ends_78, e_X6_ends_79, e_X6_ends_81, e_X6_ends_84, e_X6_ends_87, e_X6_ends_89, e_X6_ends_90, e_X6_ends_93, e_X6_ends_95, e_X6_ends_96, e_X6_ends_97, e_X6_ends_98, e_X6_ends_99, e_X6_ends_100, e_X6_ends_101, e_X6_ends_102, e_X6_ends_105, e_X6_ends_107, e_X6_ends_108, e_X6_ends_109, e_X6_ends_110, e_X6_ends_113, e_X6_ends_115, e_X6_ends_116, e_X6_ends_117, e_X6_ends_118, e_X6_ends_119, e_X6_ends_121, e_X6_ends_124, e_X6_ends_127, e_X6_ends_129, f_add, f_and, f_getR, f_goto, f_iald, f_icmp, f_if0, f_iinc, f_iret, f_loadI, f_loadR, f_mul, f_or, f_push, f_shl, f_shr, f_storeI, stN, lget, lput, clrL, lputL, lenLe, lenGe, noL, swL, List.elem_cons, List.elem_nil, List.take_succ_cons, List.take_zero, List.take_nil, List.drop_succ_cons, List.drop_zero, List.reverse_cons, List.reverse_nil, List.nil_append, List.cons_append, Option.toList_some, Option.toList_none, Bool.and_true, Bool.or_false, Bool.false_or, Bool.true_or, Bool.and_self, true_and, and_true, Nat.reduceAdd, Nat.reduceBEq, Int.reduceAdd, Int.reduceNeg, Int.reduceLE, Int.reduceLT, Int.reduceSub, Int.reduceMul, Int.reduceToNat, cEq, cNe, cLt, cGe, cGt, cLe, iR, lR, cl_0, cl_1, cl_4, cl_9, cl_86, al_2, al_3, al_5, al_13, al_6, al_7, al_8, al_10, al_11, al_87, al_88, al_90, al_91, al_92, al_93, al_94, al_95, al_96, al_97, al_98, al_99, al_100, ne_eq, not_true_eq_false, not_false_eq_true, upM_eq, upM_ni, upM_nj, upM_24, upM_48, upM_i24, upM_i48, upM_2448, upM_4824, Nat.reduceEqDiff, reduceCtorEq, or_true, true_or, Int.reduceEq, true_implies, false_implies, Int.reducePow, Int.toNat_natCast]
      exact ⟨by omega, by omega, fun _ => k x hx, fun z => by omega⟩
    | succ n ih =>
      intro i hi hi1 x hx y z
      have hxr := hx.r
      obtain ⟨it1, it2⟩ := itm i (by omega)
      have iw : (16 * (r : Int) + ((l.getD i 0 : Nat) : Int)).toNat = 16 * r + l.getD i 0 := by omega
      refine Runs.go S.1 mo_X6_ends [25, 42] 82 ?_
      simp only [e_X6_ends_0, e_X6_ends_1, e_X6_ends_2, e_X6_ends_3, e_X6_ends_4, e_X6_ends_7, e_X6_ends_9, e_X6_ends_10, e_X6_ends_11, e_X6_ends_12, e_X6_ends_15, e_X6_ends_16, e_X6_ends_17, e_X6_ends_18, e_X6_ends_19, e_X6_ends_20, e_X6_ends_22, e_X6_ends_23, e_X6_ends_25, e_X6_ends_27, e_X6_ends_28, e_X6_ends_31, e_X6_ends_33, e_X6_ends_36, e_X6_ends_37, e_X6_ends_39, e_X6_ends_40, e_X6_ends_42, e_X6_ends_44, e_X6_ends_45, e_X6_ends_48, e_X6_ends_49, e_X6_ends_50, e_X6_ends_53, e_X6_ends_55, e_X6_ends_57, e_X6_ends_58, e_X6_ends_59, e_X6_ends_60, e_X6_ends_61, e_X6_ends_64, e_X6_ends_66, e_X6_ends_67, e_X6_ends_70, e_X6_ends_72, e_X6_ends_73, e_X6_ends_74, e_X6_ends_76, e_X6_ends_77, e_X6_ends_78, e_X6_ends_79, e_X6_ends_81, e_X6_ends_84, e_X6_ends_87, e_X6_ends_89, e_X6_ends_90, e_X6_ends_93, e_X6_ends_95, e_X6_ends_96, e_X6_ends_97, e_X6_ends_98, e_X6_ends_99, e_X6_ends_100, e_X6_ends_101, e_X6_ends_102, e_X6_ends_105, e_X6_ends_107, e_X6_ends_108, e_X6_ends_109, e_X6_ends_110, e_X6_ends_113, e_X6_ends_115, e_X6_ends_116, e_X6_ends_117, e_X6_ends_118, e_X6_ends_119, e_X6_ends_121, e_X6_ends_124, e_X6_ends_127, e_X6_ends_129, f_add, f_and, f_getR, f_goto, f_iald, f_icmp, f_if0, f_iinc, f_iret, f_loadI, f_loadR, f_mul, f_or, f_push, f_shl, f_shr, f_storeI, stN, lget, lput, clrL, lputL, lenLe, lenGe, noL, swL, List.elem_cons, List.elem_nil, List.take_succ_cons, List.take_zero, List.take_nil, List.drop_succ_cons, List.drop_zero, List.reverse_cons, List.reverse_nil, List.nil_append, List.cons_append, Option.toList_some, Option.toList_none, Bool.and_true, Bool.or_false, Bool.false_or, Bool.true_or, Bool.and_self, true_and, and_true, Nat.reduceAdd, Nat.reduceBEq, Int.reduceAdd, Int.reduceNeg, Int.reduceLE, Int.reduceLT, Int.reduceSub, Int.reduceMul, Int.reduceToNat, cEq, cNe, cLt, cGe, cGt, cLe, iR, lR, cl_0, cl_1, cl_4, cl_9, cl_86, al_2, al_3, al_5, al_13, al_6, al_7, al_8, al_10, al_11, al_87, al_88, al_90, al_91, al_92, al_93, al_94, al_95, al_96, al_97, al_98, al_99, al_100, ne_eq, not_true_eq_false, not_false_eq_true, upM_eq, upM_ni, upM_nj, upM_24, upM_48, upM_i24, upM_i48, upM_2448, upM_4824, Nat.reduceEqDiff, reduceCtorEq, or_true, true_or, Int.reduceEq, true_implies, false_implies, Int.reducePow, Int.toNat_natCast]
      refine ⟨by omega, by omega, fun z => by omega, fun _ => ⟨by omega, fun q => ?_, fun q => ?_⟩⟩
      · refine k x ?_
        have hz := hx.z q
        obtain ⟨w, w1, w2, w3⟩ := hx
        refine ⟨w, w1, w2, fun e => ?_⟩
        rw [w3 e]
        exact ⟨fun z => absurd z (hz e), fun z => absurd z (dead (i - 1) (m - 1) (by omega) hz e)⟩
      · refine inner i hi1 (by omega) x hx (fun y2 hy2 z2 => ?_) (nR N (14 + r)) 0 (by omega) 0 (MSK.zero.iff (fun q => ⟨fun z => z.elim, fun ⟨p', z, _⟩ => by omega⟩))
        refine Runs.go S.1 mo_X6_ends [25, 42] 82 ?_
        simp only [e_X6_ends_0, e_X6_ends_1, e_X6_ends_2, e_X6_ends_3, e_X6_ends_4, e_X6_ends_7, e_X6_ends_9, e_X6_ends_10, e_X6_ends_11, e_X6_ends_12, e_X6_ends_15, e_X6_ends_16, e_X6_ends_17, e_X6_ends_18, e_X6_ends_19, e_X6_ends_20, e_X6_ends_22, e_X6_ends_23, e_X6_ends_25, e_X6_ends_27, e_X6_ends_28, e_X6_ends_31, e_X6_ends_33, e_X6_ends_36, e_X6_ends_37, e_X6_ends_39, e_X6_ends_40, e_X6_ends_42, e_X6_ends_44, e_X6_ends_45, e_X6_ends_48, e_X6_ends_49, e_X6_ends_50, e_X6_ends_53, e_X6_ends_55, e_X6_ends_57, e_X6_ends_58, e_X6_ends_59, e_X6_ends_60, e_X6_ends_61, e_X6_ends_64, e_X6_ends_66, e_X6_ends_67, e_X6_ends_70, e_X6_ends_72, e_X6_ends_73, e_X6_ends_74, e_X6_ends_76, e_X6_ends_77, e_X6_ends_78, e_X6_ends_79, e_X6_ends_81, e_X6_ends_84, e_X6_ends_87, e_X6_ends_89, e_X6_ends_90, e_X6_ends_93, e_X6_ends_95, e_X6_ends_96, e_X6_ends_97, e_X6_ends_98, e_X6_ends_99, e_X6_ends_100, e_X6_ends_101, e_X6_ends_102, e_X6_ends_105, e_X6_ends_107, e_X6_ends_108, e_X6_ends_109, e_X6_ends_110, e_X6_ends_113, e_X6_ends_115, e_X6_ends_116, e_X6_ends_117, e_X6_ends_118, e_X6_ends_119, e_X6_ends_121, e_X6_ends_124, e_X6_ends_127, e_X6_ends_129, is, it1, iw, f_add, f_and, f_getR, f_goto, f_iald, f_icmp, f_if0, f_iinc, f_iret, f_loadI, f_loadR, f_mul, f_or, f_push, f_shl, f_shr, f_storeI, stN, lget, lput, clrL, lputL, lenLe, lenGe, noL, swL, List.elem_cons, List.elem_nil, List.take_succ_cons, List.take_zero, List.take_nil, List.drop_succ_cons, List.drop_zero, List.reverse_cons, List.reverse_nil, List.nil_append, List.cons_append, Option.toList_some, Option.toList_none, Bool.and_true, Bool.or_false, Bool.false_or, Bool.true_or, Bool.and_self, true_and, and_true, Nat.reduceAdd, Nat.reduceBEq, Int.reduceAdd, Int.reduceNeg, Int.reduceLE, Int.reduceLT, Int.reduceSub, Int.reduceMul, Int.reduceToNat, cEq, cNe, cLt, cGe, cGt, cLe, iR, lR, cl_0, cl_1, cl_4, cl_9, cl_86, al_2, al_3, al_5, al_13, al_6, al_7, al_8, al_10, al_11, al_87, al_88, al_90, al_91, al_92, al_93, al_94, al_95, al_96, al_97, al_98, al_99, al_100, ne_eq, not_true_eq_false, not_false_eq_true, upM_eq, upM_ni, upM_nj, upM_24, upM_48, upM_i24, upM_i48, upM_2448, upM_4824, Nat.reduceEqDiff, reduceCtorEq, or_true, true_or, Int.reduceEq, true_implies, false_implies, Int.reducePow, Int.toNat_natCast]
        refine ⟨by omega, by omega, by omega, ?_⟩
        have hnew : MSK (bAnd (bAnd y2 (M 99 (30 * r + s))) (M 97 (16 * r + l.getD i 0))) (fun e => chR N (14 + r) l i s e) := by
          refine ((hy2.and (p3 s hs)).and (p1 _ it2)).iff (fun e => ?_)
          constructor
          · rintro ⟨⟨⟨p', a1, a2, a3, a4, a5⟩, a6, a7, a8⟩, a9, a10⟩
            have := ch_fol (n := nR N (14 + r)) (t := tR N (14 + r)) (K := KR N (14 + r)) (g := N 4 0) (s := N 4 1) (pt := fun k => l.getD k 0) (k := i - 1) (p := e)
            show ch _ _ _ _ _ _ i s e
            rw [show i = (i - 1) + 1 by omega]
            exact ⟨a3, by rw [show i - 1 + 1 = i by omega]; exact a10, a8, p', a4, a2, a5⟩
          · intro hc
            have hc2 : ch (nR N (14 + r)) (tR N (14 + r)) (KR N (14 + r)) (N 4 0) (N 4 1) (fun k => l.getD k 0) ((i - 1) + 1) s e := by rw [show i - 1 + 1 = i by omega]; exact hc
            obtain ⟨b1, b2, b3, q', b4, b5, b6⟩ := hc2
            rw [show i - 1 + 1 = i by omega] at b2
            have hq := ch.lt b5
            exact ⟨⟨⟨q', hq.1, b5, b1, b4, b6⟩, b1, by omega, b3⟩, b1, b2⟩
        have := ih (i + 1) (by omega) (by omega) _ (by rw [show i + 1 - 1 = i by omega]; exact hnew) (some (vI y2)) z2
        rw [Int.natCast_add] at this
        exact this
  obtain ⟨it1, it2⟩ := itm 0 (by omega)
  have iw : (16 * (r : Int) + ((l.getD 0 0 : Nat) : Int)).toNat = 16 * r + l.getD 0 0 := by omega
  refine en_X6_ends S ?_
  refine Runs.go S.1 mo_X6_ends [25, 42] 82 ?_
  simp only [e_X6_ends_0, e_X6_ends_1, e_X6_ends_2, e_X6_ends_3, e_X6_ends_4, e_X6_ends_7, e_X6_ends_9, e_X6_ends_10, e_X6_ends_11, e_X6_ends_12, e_X6_ends_15, e_X6_ends_16, e_X6_ends_17, e_X6_ends_18, e_X6_ends_19, e_X6_ends_20, e_X6_ends_22, e_X6_ends_23, e_X6_ends_25, e_X6_ends_27, e_X6_ends_28, e_X6_ends_31, e_X6_ends_33, e_X6_ends_36, e_X6_ends_37, e_X6_ends_39, e_X6_ends_40, e_X6_ends_42, e_X6_ends_44, e_X6_ends_45, e_X6_ends_48, e_X6_ends_49, e_X6_ends_50, e_X6_ends_53, e_X6_ends_55, e_X6_ends_57, e_X6_ends_58, e_X6_ends_59, e_X6_ends_60, e_X6_ends_61, e_X6_ends_64, e_X6_ends_66, e_X6_ends_67, e_X6_ends_70, e_X6_ends_72, e_X6_ends_73, e_X6_ends_74, e_X6_ends_76, e_X6_ends_77, e_X6_ends_78, e_X6_ends_79, e_X6_ends_81, e_X6_ends_84, e_X6_ends_87, e_X6_ends_89, e_X6_ends_90, e_X6_ends_93, e_X6_ends_95, e_X6_ends_96, e_X6_ends_97, e_X6_ends_98, e_X6_ends_99, e_X6_ends_100, e_X6_ends_101, e_X6_ends_102, e_X6_ends_105, e_X6_ends_107, e_X6_ends_108, e_X6_ends_109, e_X6_ends_110, e_X6_ends_113, e_X6_ends_115, e_X6_ends_116, e_X6_ends_117, e_X6_ends_118, e_X6_ends_119, e_X6_ends_121, e_X6_ends_124, e_X6_ends_127, e_X6_ends_129, it1, iw, f_add, f_and, f_getR, f_goto, f_iald, f_icmp, f_if0, f_iinc, f_iret, f_loadI, f_loadR, f_mul, f_or, f_push, f_shl, f_shr, f_storeI, stN, lget, lput, clrL, lputL, lenLe, lenGe, noL, swL, List.elem_cons, List.elem_nil, List.take_succ_cons, List.take_zero, List.take_nil, List.drop_succ_cons, List.drop_zero, List.reverse_cons, List.reverse_nil, List.nil_append, List.cons_append, Option.toList_some, Option.toList_none, Bool.and_true, Bool.or_false, Bool.false_or, Bool.true_or, Bool.and_self, true_and, and_true, Nat.reduceAdd, Nat.reduceBEq, Int.reduceAdd, Int.reduceNeg, Int.reduceLE, Int.reduceLT, Int.reduceSub, Int.reduceMul, Int.reduceToNat, cEq, cNe, cLt, cGe, cGt, cLe, iR, lR, cl_0, cl_1, cl_4, cl_9, cl_86, al_2, al_3, al_5, al_13, al_6, al_7, al_8, al_10, al_11, al_87, al_88, al_90, al_91, al_92, al_93, al_94, al_95, al_96, al_97, al_98, al_99, al_100, ne_eq, not_true_eq_false, not_false_eq_true, upM_eq, upM_ni, upM_nj, upM_24, upM_48, upM_i24, upM_i48, upM_2448, upM_4824, Nat.reduceEqDiff, reduceCtorEq, or_true, true_or, Int.reduceEq, true_implies, false_implies, Int.reducePow, Int.toNat_natCast]
  refine ⟨by omega, by omega, ?_⟩
  refine outer (m - 1) 1 (by omega) (by omega) _ (((MSK.one (x := s) (by omega)).and (p1 _ it2)).iff (fun e => ?_)) none none
  constructor
  · rintro ⟨a1, a2, a3⟩; exact ⟨a1.symm, a2, a3⟩
  · rintro ⟨a1, a2, a3⟩; exact ⟨a1.symm, a2, a3⟩
set_option maxRecDepth 40000 in
set_option maxHeartbeats 4000000 in
theorem c_X6_has (S : Snd C) {r m : Nat} {l : List Nat} (hl : PL l) (h : WFr N) (hM : RMr M N) (hr : (r : Int) < N 0 5) (hP : MPr M N r) (hI : IT M l) (hm : 1 ≤ m) (hml : m ≤ l.length) (k1 : hasM N (14 + r) l m → Q (some (vI 1)) M) (k0 : ¬ hasM N (14 + r) l m → Q (some (vI 0)) M) : C (d + 1) 96 [vR 86, vI r, vI m] M Q := by
  have h1 := h.1
  obtain ⟨hR, -, -⟩ := h.2 r hr
  have hRn := hR.n
  have hR1 := hR.1
  have e90 : M 90 r = N (14 + r) 4 := (hM.2.1 r hr).2.2.1
  have loop : ∀ (n p : Nat), p + n = nR N (14 + r) → (∀ b e, b < p → ¬ chR N (14 + r) l (m - 1) b e) → Runs C (tabF k_X6_has) (d + 1) Q 2 [some (vR 86), some (vI r), some (vI m), some (vI p)] [] M := by
    intro n
    induction n with
    | zero =>
      intro p hp hno
      refine Runs.go S.1 mo_X6_has [2, 19] 22 ?_
      simp only [e_X6_has_0, e_X6_has_1, e_X6_has_2, e_X6_has_3, e_X6_has_4, e_X6_has_7, e_X6_has_8, e_X6_has_9, e_X6_has_12, e_X6_has_13, e_X6_has_14, e_X6_has_15, e_X6_has_16, e_X6_has_19, e_X6_has_22, e_X6_has_23, e_X6_has_24, e_X6_has_27, e_X6_has_30, e_X6_has_31, e90, f_callV, f_getR, f_goto, f_iald, f_icmp, f_if0, f_iinc, f_loadI, f_loadR, f_push, f_storeI, f_zret, stN, lget, lput, clrL, lputL, lenLe, lenGe, noL, swL, List.elem_cons, List.elem_nil, List.take_succ_cons, List.take_zero, List.take_nil, List.drop_succ_cons, List.drop_zero, List.reverse_cons, List.reverse_nil, List.nil_append, List.cons_append, Option.toList_some, Option.toList_none, Bool.and_true, Bool.or_false, Bool.false_or, Bool.true_or, Bool.and_self, true_and, and_true, Nat.reduceAdd, Nat.reduceBEq, Int.reduceAdd, Int.reduceNeg, Int.reduceLE, Int.reduceLT, Int.reduceSub, Int.reduceMul, Int.reduceToNat, cEq, cNe, cLt, cGe, cGt, cLe, iR, lR, cl_0, cl_1, cl_4, cl_9, cl_86, al_2, al_3, al_5, al_13, al_6, al_7, al_8, al_10, al_11, al_87, al_88, al_90, al_91, al_92, al_93, al_94, al_95, al_96, al_97, al_98, al_99, al_100, ne_eq, not_true_eq_false, not_false_eq_true, upM_eq, upM_ni, upM_nj, upM_24, upM_48, upM_i24, upM_i48, upM_2448, upM_4824, Nat.reduceEqDiff, reduceCtorEq, or_true, true_or, Int.reduceEq, true_implies, false_implies, Int.reducePow, Int.toNat_natCast]
      refine ⟨by omega, by omega, by omega, fun _ => k0 ?_, fun z => by omega⟩
      rintro ⟨b, e, z⟩
      exact hno b e (by have := ch.lt z; omega) z
    | succ n ih =>
      intro p hp hno
      refine Runs.go S.1 mo_X6_has [2, 19] 22 ?_
      simp only [e_X6_has_0, e_X6_has_1, e_X6_has_2, e_X6_has_3, e_X6_has_4, e_X6_has_7, e_X6_has_8, e_X6_has_9, e_X6_has_12, e_X6_has_13, e_X6_has_14, e_X6_has_15, e_X6_has_16, e_X6_has_19, e_X6_has_22, e_X6_has_23, e_X6_has_24, e_X6_has_27, e_X6_has_30, e_X6_has_31, e90, f_callV, f_getR, f_goto, f_iald, f_icmp, f_if0, f_iinc, f_loadI, f_loadR, f_push, f_storeI, f_zret, stN, lget, lput, clrL, lputL, lenLe, lenGe, noL, swL, List.elem_cons, List.elem_nil, List.take_succ_cons, List.take_zero, List.take_nil, List.drop_succ_cons, List.drop_zero, List.reverse_cons, List.reverse_nil, List.nil_append, List.cons_append, Option.toList_some, Option.toList_none, Bool.and_true, Bool.or_false, Bool.false_or, Bool.true_or, Bool.and_self, true_and, and_true, Nat.reduceAdd, Nat.reduceBEq, Int.reduceAdd, Int.reduceNeg, Int.reduceLE, Int.reduceLT, Int.reduceSub, Int.reduceMul, Int.reduceToNat, cEq, cNe, cLt, cGe, cGt, cLe, iR, lR, cl_0, cl_1, cl_4, cl_9, cl_86, al_2, al_3, al_5, al_13, al_6, al_7, al_8, al_10, al_11, al_87, al_88, al_90, al_91, al_92, al_93, al_94, al_95, al_96, al_97, al_98, al_99, al_100, ne_eq, not_true_eq_false, not_false_eq_true, upM_eq, upM_ni, upM_nj, upM_24, upM_48, upM_i24, upM_i48, upM_2448, upM_4824, Nat.reduceEqDiff, reduceCtorEq, or_true, true_or, Int.reduceEq, true_implies, false_implies, Int.reducePow, Int.toNat_natCast]
      refine ⟨by omega, by omega, by omega, fun z => by omega, fun _ => ?_⟩
      refine c_X6_ends S hl h hM hr hP hI hm hml (by omega) (fun x hx => ?_)
      have hxr := hx.r
      refine Runs.go S.1 mo_X6_has [2, 19] 22 ?_
      simp only [e_X6_has_0, e_X6_has_1, e_X6_has_2, e_X6_has_3, e_X6_has_4, e_X6_has_7, e_X6_has_8, e_X6_has_9, e_X6_has_12, e_X6_has_13, e_X6_has_14, e_X6_has_15, e_X6_has_16, e_X6_has_19, e_X6_has_22, e_X6_has_23, e_X6_has_24, e_X6_has_27, e_X6_has_30, e_X6_has_31, f_callV, f_getR, f_goto, f_iald, f_icmp, f_if0, f_iinc, f_loadI, f_loadR, f_push, f_storeI, f_zret, stN, lget, lput, clrL, lputL, lenLe, lenGe, noL, swL, List.elem_cons, List.elem_nil, List.take_succ_cons, List.take_zero, List.take_nil, List.drop_succ_cons, List.drop_zero, List.reverse_cons, List.reverse_nil, List.nil_append, List.cons_append, Option.toList_some, Option.toList_none, Bool.and_true, Bool.or_false, Bool.false_or, Bool.true_or, Bool.and_self, true_and, and_true, Nat.reduceAdd, Nat.reduceBEq, Int.reduceAdd, Int.reduceNeg, Int.reduceLE, Int.reduceLT, Int.reduceSub, Int.reduceMul, Int.reduceToNat, cEq, cNe, cLt, cGe, cGt, cLe, iR, lR, cl_0, cl_1, cl_4, cl_9, cl_86, al_2, al_3, al_5, al_13, al_6, al_7, al_8, al_10, al_11, al_87, al_88, al_90, al_91, al_92, al_93, al_94, al_95, al_96, al_97, al_98, al_99, al_100, ne_eq, not_true_eq_false, not_false_eq_true, upM_eq, upM_ni, upM_nj, upM_24, upM_48, upM_i24, upM_i48, upM_2448, upM_4824, Nat.reduceEqDiff, reduceCtorEq, or_true, true_or, Int.reduceEq, true_implies, false_implies, Int.reducePow, Int.toNat_natCast]
      refine ⟨by omega, fun q => ?_, fun q => ?_⟩
      · refine ih (p + 1) (by omega) (fun b e hb z => ?_)
        by_cases y : b = p
        · subst y; exact hx.z q e z
        · exact hno b e (by omega) z
      · obtain ⟨e, he⟩ := hx.nz q
        exact k1 ⟨p, e, he⟩
  refine en_X6_has S ?_
  refine Runs.go S.1 mo_X6_has [2, 19] 22 ?_
  simp only [e_X6_has_0, e_X6_has_1, e_X6_has_2, e_X6_has_3, e_X6_has_4, e_X6_has_7, e_X6_has_8, e_X6_has_9, e_X6_has_12, e_X6_has_13, e_X6_has_14, e_X6_has_15, e_X6_has_16, e_X6_has_19, e_X6_has_22, e_X6_has_23, e_X6_has_24, e_X6_has_27, e_X6_has_30, e_X6_has_31, f_callV, f_getR, f_goto, f_iald, f_icmp, f_if0, f_iinc, f_loadI, f_loadR, f_push, f_storeI, f_zret, stN, lget, lput, clrL, lputL, lenLe, lenGe, noL, swL, List.elem_cons, List.elem_nil, List.take_succ_cons, List.take_zero, List.take_nil, List.drop_succ_cons, List.drop_zero, List.reverse_cons, List.reverse_nil, List.nil_append, List.cons_append, Option.toList_some, Option.toList_none, Bool.and_true, Bool.or_false, Bool.false_or, Bool.true_or, Bool.and_self, true_and, and_true, Nat.reduceAdd, Nat.reduceBEq, Int.reduceAdd, Int.reduceNeg, Int.reduceLE, Int.reduceLT, Int.reduceSub, Int.reduceMul, Int.reduceToNat, cEq, cNe, cLt, cGe, cGt, cLe, iR, lR, cl_0, cl_1, cl_4, cl_9, cl_86, al_2, al_3, al_5, al_13, al_6, al_7, al_8, al_10, al_11, al_87, al_88, al_90, al_91, al_92, al_93, al_94, al_95, al_96, al_97, al_98, al_99, al_100, ne_eq, not_true_eq_false, not_false_eq_true, upM_eq, upM_ni, upM_nj, upM_24, upM_48, upM_i24, upM_i48, upM_2448, upM_4824, Nat.reduceEqDiff, reduceCtorEq, or_true, true_or, Int.reduceEq, true_implies, false_implies, Int.reducePow, Int.toNat_natCast]
  exact loop (nR N (14 + r)) 0 (by omega) (fun b e hb => by omega)
set_option maxRecDepth 40000 in
set_option maxHeartbeats 4000000 in
theorem c_X6_countOf (S : Snd C) {m : Nat} {l : List Nat} (hl : PL l) (h : WFr N) (hM : RMr M N) (hP : MP M N) (hI : IT M l) (hm : 1 ≤ m) (hml : m ≤ l.length) (k : Q (some (vI (cnt N (l.take m)))) M) : C (d + 2) 97 [vR 86, vI m] M Q := by
  have h1 := h.1
  have e0 := hM.1
  have hf : ∀ r : Nat, tf ((r : Int) < N 0 5 ∧ N (14 + r) 1 = 1 ∧ hasR N (14 + r) (l.take m)) = tf ((r : Int) < N 0 5 ∧ N (14 + r) 1 = 1 ∧ hasM N (14 + r) l m) := fun r => tf_congr (by rw [hasM_take hm hml])
  have hcnt : cnt N (l.take m) = sumI (fun r => tf ((r : Int) < N 0 5 ∧ N (14 + r) 1 = 1 ∧ hasM N (14 + r) l m)) (N 0 5).toNat := by
    unfold cnt
    rw [sumI_congr 24 (fun r _ => hf r)]
    exact sumI_cut 24 (by omega) (fun r a _ => tf_f (fun z => by omega))
  rw [hcnt] at k
  have loop : ∀ (n r : Nat), r + n = (N 0 5).toNat → Runs C (tabF k_X6_countOf) (d + 2) Q 4 [some (vR 86), some (vI m), some (vI (sumI (fun r => tf ((r : Int) < N 0 5 ∧ N (14 + r) 1 = 1 ∧ hasM N (14 + r) l m)) r)), some (vI r)] [] M := by
    intro n
    induction n with
    | zero =>
      intro r hr
      refine Runs.go S.1 mo_X6_countOf [4, 28] 30 ?_
      simp only [e_X6_countOf_0, e_X6_countOf_1, e_X6_countOf_2, e_X6_countOf_3, e_X6_countOf_4, e_X6_countOf_5, e_X6_countOf_6, e_X6_countOf_9, e_X6_countOf_12, e_X6_countOf_13, e_X6_countOf_14, e_X6_countOf_17, e_X6_countOf_18, e_X6_countOf_19, e_X6_countOf_22, e_X6_countOf_23, e_X6_countOf_24, e_X6_countOf_25, e_X6_countOf_28, e_X6_countOf_31, e_X6_countOf_32, e_X6_countOf_35, e_X6_countOf_36, e_X6_countOf_37, e_X6_countOf_38, e_X6_countOf_41, e_X6_countOf_44, e_X6_countOf_45, e0, f_add, f_callV, f_getI, f_getR, f_goto, f_icmp, f_if0, f_iinc, f_iret, f_loadI, f_loadR, f_push, f_storeI, f_zald, stN, lget, lput, clrL, lputL, lenLe, lenGe, noL, swL, List.elem_cons, List.elem_nil, List.take_succ_cons, List.take_zero, List.take_nil, List.drop_succ_cons, List.drop_zero, List.reverse_cons, List.reverse_nil, List.nil_append, List.cons_append, Option.toList_some, Option.toList_none, Bool.and_true, Bool.or_false, Bool.false_or, Bool.true_or, Bool.and_self, true_and, and_true, Nat.reduceAdd, Nat.reduceBEq, Int.reduceAdd, Int.reduceNeg, Int.reduceLE, Int.reduceLT, Int.reduceSub, Int.reduceMul, Int.reduceToNat, cEq, cNe, cLt, cGe, cGt, cLe, iR, lR, cl_0, cl_1, cl_4, cl_9, cl_86, al_2, al_3, al_5, al_13, al_6, al_7, al_8, al_10, al_11, al_87, al_88, al_90, al_91, al_92, al_93, al_94, al_95, al_96, al_97, al_98, al_99, al_100, ne_eq, not_true_eq_false, not_false_eq_true, upM_eq, upM_ni, upM_nj, upM_24, upM_48, upM_i24, upM_i48, upM_2448, upM_4824, Nat.reduceEqDiff, reduceCtorEq, or_true, true_or, Int.reduceEq, true_implies, false_implies, Int.reducePow, Int.toNat_natCast]
      refine ⟨by omega, by omega, fun _ => ?_, fun z => by omega⟩
      rw [show r = (N 0 5).toNat by omega]
      exact k
    | succ n ih =>
      intro r hr
      have e1 := (hM.2.1 r (by omega)).2.1
      have hin := (h.2 r (by omega)).2.2
      have hih := ih (r + 1) (by omega)
      rw [show sumI (fun r => tf ((r : Int) < N 0 5 ∧ N (14 + r) 1 = 1 ∧ hasM N (14 + r) l m)) (r + 1) = sumI (fun r => tf ((r : Int) < N 0 5 ∧ N (14 + r) 1 = 1 ∧ hasM N (14 + r) l m)) r + tf ((r : Int) < N 0 5 ∧ N (14 + r) 1 = 1 ∧ hasM N (14 + r) l m) from rfl] at hih
      refine Runs.go S.1 mo_X6_countOf [4, 28] 30 ?_
      simp only [e_X6_countOf_0, e_X6_countOf_1, e_X6_countOf_2, e_X6_countOf_3, e_X6_countOf_4, e_X6_countOf_5, e_X6_countOf_6, e_X6_countOf_9, e_X6_countOf_12, e_X6_countOf_13, e_X6_countOf_14, e_X6_countOf_17, e_X6_countOf_18, e_X6_countOf_19, e_X6_countOf_22, e_X6_countOf_23, e_X6_countOf_24, e_X6_countOf_25, e_X6_countOf_28, e_X6_countOf_31, e_X6_countOf_32, e_X6_countOf_35, e_X6_countOf_36, e_X6_countOf_37, e_X6_countOf_38, e_X6_countOf_41, e_X6_countOf_44, e_X6_countOf_45, e0, e1, f_add, f_callV, f_getI, f_getR, f_goto, f_icmp, f_if0, f_iinc, f_iret, f_loadI, f_loadR, f_push, f_storeI, f_zald, stN, lget, lput, clrL, lputL, lenLe, lenGe, noL, swL, List.elem_cons, List.elem_nil, List.take_succ_cons, List.take_zero, List.take_nil, List.drop_succ_cons, List.drop_zero, List.reverse_cons, List.reverse_nil, List.nil_append, List.cons_append, Option.toList_some, Option.toList_none, Bool.and_true, Bool.or_false, Bool.false_or, Bool.true_or, Bool.and_self, true_and, and_true, Nat.reduceAdd, Nat.reduceBEq, Int.reduceAdd, Int.reduceNeg, Int.reduceLE, Int.reduceLT, Int.reduceSub, Int.reduceMul, Int.reduceToNat, cEq, cNe, cLt, cGe, cGt, cLe, iR, lR, cl_0, cl_1, cl_4, cl_9, cl_86, al_2, al_3, al_5, al_13, al_6, al_7, al_8, al_10, al_11, al_87, al_88, al_90, al_91, al_92, al_93, al_94, al_95, al_96, al_97, al_98, al_99, al_100, ne_eq, not_true_eq_false, not_false_eq_true, upM_eq, upM_ni, upM_nj, upM_24, upM_48, upM_i24, upM_i48, upM_2448, upM_4824, Nat.reduceEqDiff, reduceCtorEq, or_true, true_or, Int.reduceEq, true_implies, false_implies, Int.reducePow, Int.toNat_natCast]
      refine ⟨by omega, by omega, fun z => by omega, fun _ => ⟨by omega, by omega, fun q => ?_, fun q => ?_⟩⟩
      · rw [tf_f (fun z => by omega)] at hih
        exact hih
      · refine c_X6_has S hl h hM (by omega) (hP r (by omega) (by omega)) hI hm hml (fun z => ?_) (fun z => ?_)
        · rw [tf_t ⟨by omega, by omega, z⟩] at hih
          refine Runs.go S.1 mo_X6_countOf [4, 28] 30 ?_
          simp only [e_X6_countOf_0, e_X6_countOf_1, e_X6_countOf_2, e_X6_countOf_3, e_X6_countOf_4, e_X6_countOf_5, e_X6_countOf_6, e_X6_countOf_9, e_X6_countOf_12, e_X6_countOf_13, e_X6_countOf_14, e_X6_countOf_17, e_X6_countOf_18, e_X6_countOf_19, e_X6_countOf_22, e_X6_countOf_23, e_X6_countOf_24, e_X6_countOf_25, e_X6_countOf_28, e_X6_countOf_31, e_X6_countOf_32, e_X6_countOf_35, e_X6_countOf_36, e_X6_countOf_37, e_X6_countOf_38, e_X6_countOf_41, e_X6_countOf_44, e_X6_countOf_45, f_add, f_callV, f_getI, f_getR, f_goto, f_icmp, f_if0, f_iinc, f_iret, f_loadI, f_loadR, f_push, f_storeI, f_zald, stN, lget, lput, clrL, lputL, lenLe, lenGe, noL, swL, List.elem_cons, List.elem_nil, List.take_succ_cons, List.take_zero, List.take_nil, List.drop_succ_cons, List.drop_zero, List.reverse_cons, List.reverse_nil, List.nil_append, List.cons_append, Option.toList_some, Option.toList_none, Bool.and_true, Bool.or_false, Bool.false_or, Bool.true_or, Bool.and_self, true_and, and_true, Nat.reduceAdd, Nat.reduceBEq, Int.reduceAdd, Int.reduceNeg, Int.reduceLE, Int.reduceLT, Int.reduceSub, Int.reduceMul, Int.reduceToNat, cEq, cNe, cLt, cGe, cGt, cLe, iR, lR, cl_0, cl_1, cl_4, cl_9, cl_86, al_2, al_3, al_5, al_13, al_6, al_7, al_8, al_10, al_11, al_87, al_88, al_90, al_91, al_92, al_93, al_94, al_95, al_96, al_97, al_98, al_99, al_100, ne_eq, not_true_eq_false, not_false_eq_true, upM_eq, upM_ni, upM_nj, upM_24, upM_48, upM_i24, upM_i48, upM_2448, upM_4824, Nat.reduceEqDiff, reduceCtorEq, or_true, true_or, Int.reduceEq, true_implies, false_implies, Int.reducePow, Int.toNat_natCast]
          exact hih
        · rw [tf_f (fun y => z y.2.2)] at hih
          refine Runs.go S.1 mo_X6_countOf [4, 28] 30 ?_
          simp only [e_X6_countOf_0, e_X6_countOf_1, e_X6_countOf_2, e_X6_countOf_3, e_X6_countOf_4, e_X6_countOf_5, e_X6_countOf_6, e_X6_countOf_9, e_X6_countOf_12, e_X6_countOf_13, e_X6_countOf_14, e_X6_countOf_17, e_X6_countOf_18, e_X6_countOf_19, e_X6_countOf_22, e_X6_countOf_23, e_X6_countOf_24, e_X6_countOf_25, e_X6_countOf_28, e_X6_countOf_31, e_X6_countOf_32, e_X6_countOf_35, e_X6_countOf_36, e_X6_countOf_37, e_X6_countOf_38, e_X6_countOf_41, e_X6_countOf_44, e_X6_countOf_45, f_add, f_callV, f_getI, f_getR, f_goto, f_icmp, f_if0, f_iinc, f_iret, f_loadI, f_loadR, f_push, f_storeI, f_zald, stN, lget, lput, clrL, lputL, lenLe, lenGe, noL, swL, List.elem_cons, List.elem_nil, List.take_succ_cons, List.take_zero, List.take_nil, List.drop_succ_cons, List.drop_zero, List.reverse_cons, List.reverse_nil, List.nil_append, List.cons_append, Option.toList_some, Option.toList_none, Bool.and_true, Bool.or_false, Bool.false_or, Bool.true_or, Bool.and_self, true_and, and_true, Nat.reduceAdd, Nat.reduceBEq, Int.reduceAdd, Int.reduceNeg, Int.reduceLE, Int.reduceLT, Int.reduceSub, Int.reduceMul, Int.reduceToNat, cEq, cNe, cLt, cGe, cGt, cLe, iR, lR, cl_0, cl_1, cl_4, cl_9, cl_86, al_2, al_3, al_5, al_13, al_6, al_7, al_8, al_10, al_11, al_87, al_88, al_90, al_91, al_92, al_93, al_94, al_95, al_96, al_97, al_98, al_99, al_100, ne_eq, not_true_eq_false, not_false_eq_true, upM_eq, upM_ni, upM_nj, upM_24, upM_48, upM_i24, upM_i48, upM_2448, upM_4824, Nat.reduceEqDiff, reduceCtorEq, or_true, true_or, Int.reduceEq, true_implies, false_implies, Int.reducePow, Int.toNat_natCast]
          exact hih
  refine en_X6_countOf S ?_
  refine Runs.go S.1 mo_X6_countOf [4, 28] 30 ?_
  simp only [e_X6_countOf_0, e_X6_countOf_1, e_X6_countOf_2, e_X6_countOf_3, e_X6_countOf_4, e_X6_countOf_5, e_X6_countOf_6, e_X6_countOf_9, e_X6_countOf_12, e_X6_countOf_13, e_X6_countOf_14, e_X6_countOf_17, e_X6_countOf_18, e_X6_countOf_19, e_X6_countOf_22, e_X6_countOf_23, e_X6_countOf_24, e_X6_countOf_25, e_X6_countOf_28, e_X6_countOf_31, e_X6_countOf_32, e_X6_countOf_35, e_X6_countOf_36, e_X6_countOf_37, e_X6_countOf_38, e_X6_countOf_41, e_X6_countOf_44, e_X6_countOf_45, f_add, f_callV, f_getI, f_getR, f_goto, f_icmp, f_if0, f_iinc, f_iret, f_loadI, f_loadR, f_push, f_storeI, f_zald, stN, lget, lput, clrL, lputL, lenLe, lenGe, noL, swL, List.elem_cons, List.elem_nil, List.take_succ_cons, List.take_zero, List.take_nil, List.drop_succ_cons, List.drop_zero, List.reverse_cons, List.reverse_nil, List.nil_append, List.cons_append, Option.toList_some, Option.toList_none, Bool.and_true, Bool.or_false, Bool.false_or, Bool.true_or, Bool.and_self, true_and, and_true, Nat.reduceAdd, Nat.reduceBEq, Int.reduceAdd, Int.reduceNeg, Int.reduceLE, Int.reduceLT, Int.reduceSub, Int.reduceMul, Int.reduceToNat, cEq, cNe, cLt, cGe, cGt, cLe, iR, lR, cl_0, cl_1, cl_4, cl_9, cl_86, al_2, al_3, al_5, al_13, al_6, al_7, al_8, al_10, al_11, al_87, al_88, al_90, al_91, al_92, al_93, al_94, al_95, al_96, al_97, al_98, al_99, al_100, ne_eq, not_true_eq_false, not_false_eq_true, upM_eq, upM_ni, upM_nj, upM_24, upM_48, upM_i24, upM_i48, upM_2448, upM_4824, Nat.reduceEqDiff, reduceCtorEq, or_true, true_or, Int.reduceEq, true_implies, false_implies, Int.reducePow, Int.toNat_natCast]
  exact loop (N 0 5).toNat 0 (by omega)
end

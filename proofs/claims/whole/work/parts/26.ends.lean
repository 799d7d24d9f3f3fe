/-! Matcher.endsMatch, isIn, lastEnd, kindsBehind: the walk along a row -/
abbrev WFg (M : tM) : Prop := (0 ≤ M 4 0 ∧ M 4 0 ≤ 9999) ∧ (0 ≤ M 4 1 ∧ M 4 1 ≤ 9999)
abbrev BC (M : tM) : Prop := ∀ j, j < 4 → (-1 ≤ M 6 j ∧ M 6 j ≤ 9999) ∧ (-1 ≤ M 7 j ∧ M 7 j ≤ 9999)
abbrev CI (N M : tM) (i : Nat) (l : List Nat) (p : Nat) : Prop := ∀ k, k < l.length → LIR N i l k p (M 7 k) (M 6 k)
theorem RowOk.n {M : tM} {i : Nat} (h : RowOk M i) : ((nR M i : Nat) : Int) = M i 4 := Int.toNat_of_nonneg h.1.1
theorem RowOk.s {M : tM} {i : Nat} (h : RowOk M i) : ∀ p q, p ≤ q → q < nR M i → tR M i p ≤ tR M i q := fun p q h1 h2 => h.2.2 p q h1 (by have := h.n; omega)
theorem RowOk.t {M : tM} {i : Nat} (h : RowOk M i) : ∀ p, p < nR M i → 0 ≤ tR M i p ∧ tR M i p ≤ 9999 := fun p h1 => (h.2.1 p (by have := h.n; omega)).1
theorem RowOk.k {M : tM} {i : Nat} (h : RowOk M i) : ∀ p, p < nR M i → 0 ≤ M (i + 48) p ∧ M (i + 48) p ≤ 15 := fun p h1 => (h.2.1 p (by have := h.n; omega)).2
theorem RowOk.congr {M N : tM} {i : Nat} (h : RowOk N i) (h1 : M i = N i) (h2 : M (i + 24) = N (i + 24)) (h3 : M (i + 48) = N (i + 48)) : RowOk M i := by
  unfold RowOk at h ⊢
  rw [h1, h2, h3]
  exact h
theorem fit_bit {N : tM} {i p : Nat} {l : List Nat} (hl : PL l) (hR : RowOk N i) (hT : TU N l) (hp : p < nR N i) : ∃ f : Nat, btA N 5 i p = f ∧ f < 16 ∧ ∀ j, f.testBit j = true ↔ j < l.length ∧ KR N i p (l.getD j 0) = true := by
  have hk := hR.k p hp
  have h1 := hR.n
  refine ⟨fitF (clm (N 3) 16 (N (i + 48) p)) l, ?_, fitF_lt _ _, fun j => fitF_bit hl.1 j⟩
  rw [btA_in (by omega) (by omega), Int.toNat_natCast]
  have := hT.2 (N (i + 48) p).toNat (by omega)
  rw [this, show (((N (i + 48) p).toNat : Nat) : Int) = N (i + 48) p by omega]
theorem tk_in {N : tM} {i p : Nat} (hR : RowOk N i) (hp : p < nR N i) : tkA N i p = tR N i p := by
  have h1 := hR.n
  rw [tkA_in (by omega) (by omega), Int.toNat_natCast]
theorem LI.bd {n : Nat} {t : Nat → Int} {K : Nat → Nat → Bool} {g s : Int} {pt : Nat → Nat} {k p : Nat} {ce cb : Int} (h0 : ∀ p, p < n → 0 ≤ t p ∧ t p ≤ 9999) (h : LI n t K g s pt k p ce cb) : (-1 ≤ cb ∧ cb ≤ 9999) ∧ (-1 ≤ ce ∧ ce ≤ 9999) := by
  rcases h with ⟨h1, h2, -⟩ | ⟨b, e, h1, h2, h3, h4, -⟩
  · omega
  · have := ch.lt h2
    have a1 := h0 e (by omega)
    have a2 := h0 b (by omega)
    omega
theorem bOr_00 : bOr 0 0 = 0 := by decide
theorem bOr_01 : bOr 0 1 = 1 := by decide
theorem bOr_10 : bOr 1 0 = 1 := by decide
section
variable {C : tC} {Q : tQ} {d : Nat} {N : tM}
set_option maxRecDepth 40000 in
set_option maxHeartbeats 4000000 in
theorem c_X2_endsMatch (S : Snd C) {M : tM} {i p : Nat} {l : List Nat} (hi : IRow i) (hl : PL l) (hR : RowOk N i) (hg : WFg N) (hT : TU N l) (hE : E67 N M) (hp : p < nR N i) (hC : CI N M i l p) (hB : BC M)
    (k1 : 0 < l.length → (∃ b, chR N i l (l.length - 1) b p) → ∀ M2, E67 N M2 → CI N M2 i l (p + 1) → BC M2 → Q (some (vI 1)) M2) (k0 : (0 < l.length → ¬ ∃ b, chR N i l (l.length - 1) b p) → ∀ M2, E67 N M2 → CI N M2 i l (p + 1) → BC M2 → Q (some (vI 0)) M2) : C (d + 1) 16 [vR 4, vR i, vI p] M Q := by
  have h4 := hl.1
  have hR1 := hR.1
  have hRn := hR.n
  have hRM : RowOk M i := hR.congr (hE i (by omega) (by omega)) (hE (i + 24) (by omega) (by omega)) (hE (i + 48) (by omega) (by omega))
  obtain ⟨f, hf1, hf2, hf3⟩ := fit_bit hl hR hT hp
  have hbt : btA M 5 i p = f := by
    rw [← hf1]; unfold btA; rw [hE 5 (by decide) (by decide), hE i (by omega) (by omega), hE (i + 48) (by omega) (by omega)]
  have htk : tkA M i p = tR N i p := by
    rw [← tk_in hR hp]; unfold tkA; rw [hE i (by omega) (by omega), hE (i + 24) (by omega) (by omega)]
  have hti := hR.t p hp
  have hs := hR.s
  have h0 : ∀ p, p < nR N i → 0 ≤ tR N i p := fun p h => (hR.t p h).1
  have loop : ∀ (m : Nat), m ≤ l.length → ∀ (M2 : tM) (ev : Int), E67 N M2 → (∀ j, m ≤ j → j < l.length → LIR N i l j (p + 1) (M2 7 j) (M2 6 j)) → (∀ j, j < m → LIR N i l j p (M2 7 j) (M2 6 j)) → BC M2 → (ev = if m < l.length then tf (∃ b, chR N i l (l.length - 1) b p) else 0) →
      Runs C (tabF k_X2_endsMatch) (d + 1) Q 28 [some (vR 4), some (vR i), some (vI p), some (vI f), some (vI (tR N i p)), some (vI ev), some (vI ((m : Int) - 1))] [] M2 := by
    intro m
    induction m with
    | zero =>
      intro _ M2 ev hE2 hup hlow hB2 hev
      have fin : Q (some (vI ev)) M2 := by
        by_cases q : 0 < l.length
        · rw [if_pos q] at hev
          rcases Classical.em (∃ b, chR N i l (l.length - 1) b p) with z | z
          · rw [tf_t z] at hev
            rw [hev]
            exact k1 q z M2 hE2 (fun j hj => hup j (by omega) hj) hB2
          · rw [tf_f z] at hev
            rw [hev]
            exact k0 (fun _ => z) M2 hE2 (fun j hj => hup j (by omega) hj) hB2
        · rw [if_neg q] at hev
          rw [hev]
          exact k0 (fun z => absurd z q) M2 hE2 (fun j hj => by omega) hB2
      have hev2 : ev = 0 ∨ ev = 1 := by
        rw [hev]; split
        · exact tf_r _
        · exact Or.inl rfl
      refine Runs.go S.1 mo_X2_endsMatch [9, 15, 28, 54] 69 ?_
      simp only [e_X2_endsMatch_0, e_X2_endsMatch_1, e_X2_endsMatch_2, e_X2_endsMatch_3, e_X2_endsMatch_6, e_X2_endsMatch_9, e_X2_endsMatch_10, e_X2_endsMatch_11, e_X2_endsMatch_12, e_X2_endsMatch_15, e_X2_endsMatch_17, e_X2_endsMatch_18, e_X2_endsMatch_20, e_X2_endsMatch_21, e_X2_endsMatch_24, e_X2_endsMatch_25, e_X2_endsMatch_26, e_X2_endsMatch_28, e_X2_endsMatch_29, e_X2_endsMatch_32, e_X2_endsMatch_34, e_X2_endsMatch_37, e_X2_endsMatch_38, e_X2_endsMatch_40, e_X2_endsMatch_41, e_X2_endsMatch_42, e_X2_endsMatch_43, e_X2_endsMatch_46, e_X2_endsMatch_47, e_X2_endsMatch_49, e_X2_endsMatch_51, e_X2_endsMatch_54, e_X2_endsMatch_57, e_X2_endsMatch_58, e_X2_endsMatch_61, e_X2_endsMatch_63, e_X2_endsMatch_65, e_X2_endsMatch_68, e_X2_endsMatch_70, e_X2_endsMatch_73, e_X2_endsMatch_74, e_X2_endsMatch_77, e_X2_endsMatch_79, e_X2_endsMatch_80, e_X2_endsMatch_81, e_X2_endsMatch_82, e_X2_endsMatch_83, e_X2_endsMatch_84, e_X2_endsMatch_87, e_X2_endsMatch_89, e_X2_endsMatch_91, e_X2_endsMatch_92, e_X2_endsMatch_94, e_X2_endsMatch_96, e_X2_endsMatch_97, e_X2_endsMatch_100, e_X2_endsMatch_101, e_X2_endsMatch_102, e_X2_endsMatch_105, e_X2_endsMatch_106, e_X2_endsMatch_109, e_X2_endsMatch_110, e_X2_endsMatch_111, e_X2_endsMatch_113, e_X2_endsMatch_116, e_X2_endsMatch_119, e_X2_endsMatch_121, f_and, f_callV, f_getI, f_getR, f_goto, f_iald, f_iast, f_icmp, f_if0, f_iinc, f_loadI, f_loadR, f_or, f_push, f_shr, f_storeI, f_sub, f_zret, stN, lget, lput, clrL, lputL, lenLe, lenGe, noL, swL, List.elem_cons, List.elem_nil, List.take_succ_cons, List.take_zero, List.take_nil, List.drop_succ_cons, List.drop_zero, List.reverse_cons, List.reverse_nil, List.nil_append, List.cons_append, Option.toList_some, Option.toList_none, Bool.and_true, Bool.or_false, Bool.false_or, Bool.true_or, Bool.and_self, true_and, and_true, Nat.reduceAdd, Nat.reduceBEq, Int.reduceAdd, Int.reduceNeg, Int.reduceLE, Int.reduceLT, Int.reduceSub, Int.reduceMul, Int.reduceToNat, cEq, cNe, cLt, cGe, cGt, cLe, iR, lR, cl_0, cl_1, cl_4, cl_9, cl_86, al_2, al_3, al_5, al_13, al_6, al_7, al_8, al_10, al_11, al_87, al_88, al_90, al_91, al_92, al_93, al_94, al_95, al_96, al_97, al_98, al_99, al_100, ne_eq, not_true_eq_false, not_false_eq_true, upM_eq, upM_ni, upM_nj, upM_24, upM_48, upM_i24, upM_i48, upM_2448, upM_4824, Nat.reduceEqDiff, reduceCtorEq, or_true, true_or, Int.reduceEq, true_implies, false_implies, Int.reducePow, Int.toNat_natCast]
      exact ⟨by omega, fun q => ⟨hev2, fin⟩, fun q => ⟨by omega, fun _ => ⟨hev2, fin⟩, fun z => by omega⟩⟩
    | succ m ih =>
      intro hm M2 ev hE2 hup hlow hB2 hev
      have hg2 : WFg M2 := by unfold WFg; rw [hE2 4 (by decide) (by decide)]; exact hg
      have hev2 : ev = 0 ∨ ev = 1 := by
        rw [hev]; split
        · exact tf_r _
        · exact Or.inl rfl
      -- level m stays as it is
      have stay : (∀ b, ¬ chR N i l m b p) → Runs C (tabF k_X2_endsMatch) (d + 1) Q 28 [some (vR 4), some (vR i), some (vI p), some (vI f), some (vI (tR N i p)), some (vI ev), some (vI ((m : Int) - 1))] [] M2 := by
        intro hn
        refine ih (by omega) M2 ev hE2 (fun j a1 a2 => ?_) (fun j a1 => hlow j (by omega)) hB2 ?_
        · by_cases q : j = m
          · subst q; exact LI.keep (hlow j (by omega)) hn
          · exact hup j (by omega) a2
        · rw [if_pos (by omega)]
          by_cases q : m + 1 < l.length
          · rw [if_pos q] at hev; exact hev
          · rw [if_neg q] at hev
            rw [hev, tf_f]
            rw [show l.length - 1 = m by omega]
            exact fun ⟨b, z⟩ => hn b z
      have noK : KR N i p (l.getD m 0) = false → ∀ b, ¬ chR N i l m b p := fun h b z => by
        have := ch.kd z
        rw [h] at this
        cases this
      have e1 : (((m + 1 : Nat) : Int) - 1).toNat = m := by omega
      have e2 : (((m + 1 : Nat) : Int) - 1) + -1 = (m : Int) - 1 := by omega
      have e3 : (((m + 1 : Nat) : Int) - 1) = (m : Int) := by omega
      rw [e3]
      refine Runs.go S.1 mo_X2_endsMatch [9, 15, 28, 54] 69 ?_
      simp only [e_X2_endsMatch_0, e_X2_endsMatch_1, e_X2_endsMatch_2, e_X2_endsMatch_3, e_X2_endsMatch_6, e_X2_endsMatch_9, e_X2_endsMatch_10, e_X2_endsMatch_11, e_X2_endsMatch_12, e_X2_endsMatch_15, e_X2_endsMatch_17, e_X2_endsMatch_18, e_X2_endsMatch_20, e_X2_endsMatch_21, e_X2_endsMatch_24, e_X2_endsMatch_25, e_X2_endsMatch_26, e_X2_endsMatch_28, e_X2_endsMatch_29, e_X2_endsMatch_32, e_X2_endsMatch_34, e_X2_endsMatch_37, e_X2_endsMatch_38, e_X2_endsMatch_40, e_X2_endsMatch_41, e_X2_endsMatch_42, e_X2_endsMatch_43, e_X2_endsMatch_46, e_X2_endsMatch_47, e_X2_endsMatch_49, e_X2_endsMatch_51, e_X2_endsMatch_54, e_X2_endsMatch_57, e_X2_endsMatch_58, e_X2_endsMatch_61, e_X2_endsMatch_63, e_X2_endsMatch_65, e_X2_endsMatch_68, e_X2_endsMatch_70, e_X2_endsMatch_73, e_X2_endsMatch_74, e_X2_endsMatch_77, e_X2_endsMatch_79, e_X2_endsMatch_80, e_X2_endsMatch_81, e_X2_endsMatch_82, e_X2_endsMatch_83, e_X2_endsMatch_84, e_X2_endsMatch_87, e_X2_endsMatch_89, e_X2_endsMatch_91, e_X2_endsMatch_92, e_X2_endsMatch_94, e_X2_endsMatch_96, e_X2_endsMatch_97, e_X2_endsMatch_100, e_X2_endsMatch_101, e_X2_endsMatch_102, e_X2_endsMatch_105, e_X2_endsMatch_106, e_X2_endsMatch_109, e_X2_endsMatch_110, e_X2_endsMatch_111, e_X2_endsMatch_113, e_X2_endsMatch_116, e_X2_endsMatch_119, e_X2_endsMatch_121, f_and, f_callV, f_getI, f_getR, f_goto, f_iald, f_iast, f_icmp, f_if0, f_iinc, f_loadI, f_loadR, f_or, f_push, f_shr, f_storeI, f_sub, f_zret, stN, lget, lput, clrL, lputL, lenLe, lenGe, noL, swL, List.elem_cons, List.elem_nil, List.take_succ_cons, List.take_zero, List.take_nil, List.drop_succ_cons, List.drop_zero, List.reverse_cons, List.reverse_nil, List.nil_append, List.cons_append, Option.toList_some, Option.toList_none, Bool.and_true, Bool.or_false, Bool.false_or, Bool.true_or, Bool.and_self, true_and, and_true, Nat.reduceAdd, Nat.reduceBEq, Int.reduceAdd, Int.reduceNeg, Int.reduceLE, Int.reduceLT, Int.reduceSub, Int.reduceMul, Int.reduceToNat, cEq, cNe, cLt, cGe, cGt, cLe, iR, lR, cl_0, cl_1, cl_4, cl_9, cl_86, al_2, al_3, al_5, al_13, al_6, al_7, al_8, al_10, al_11, al_87, al_88, al_90, al_91, al_92, al_93, al_94, al_95, al_96, al_97, al_98, al_99, al_100, ne_eq, not_true_eq_false, not_false_eq_true, upM_eq, upM_ni, upM_nj, upM_24, upM_48, upM_i24, upM_i48, upM_2448, upM_4824, Nat.reduceEqDiff, reduceCtorEq, or_true, true_or, Int.reduceEq, true_implies, false_implies, Int.reducePow, Int.toNat_natCast]
      refine ⟨by omega, fun q => ?_, fun q => ⟨by omega, fun z => by omega, fun _ => ⟨by omega, by omega, ?_⟩⟩⟩
      rotate_left
      · rw [bit_ask]
        by_cases hb : f.testBit m = true
        · rw [if_pos hb]
          have hK := ((hf3 m).mp hb).2
          refine ⟨by omega, fun z => by omega, fun _ => ?_⟩
          refine c_X2_canFollow S (j := m) (by omega) (by omega) hg2.1 hg2.2 hB2 (fun hf => ?_) (fun hf => ?_)
          · -- it follows: a chain of m + 1 items ends here
            have hg3 : M2 4 = N 4 := hE2 4 (by decide) (by decide)
            have hfol : m = 0 ∨ folR N i l (m - 1) p := by
              rcases hf with hf | hf
              · exact Or.inl hf
              · by_cases q0 : m = 0
                · exact Or.inl q0
                · refine Or.inr ((LI_fol hs h0 (hlow (m - 1) (by omega)) hp).mp ?_)
                  rw [hg3] at hf
                  exact hf
            have hex : ∃ b, chR N i l m b p := by
              rcases hfol with q0 | hfol
              · subst q0; exact ⟨p, rfl, hp, hK⟩
              · by_cases q0 : m = 0
                · subst q0; exact ⟨p, rfl, hp, hK⟩
                · have := (ch_fol (n := nR N i) (t := tR N i) (K := KR N i) (g := N 4 0) (s := N 4 1) (pt := fun k => l.getD k 0) (k := m - 1) (p := p)).mpr ⟨hp, by rw [show m - 1 + 1 = m by omega]; exact hK, hfol⟩
                  rw [show m - 1 + 1 = m by omega] at this
                  exact this
            have hnew : LIR N i l m (p + 1) (tR N i p) (if m = 0 then tR N i p else M2 6 (m - 1)) := by
              by_cases q0 : m = 0
              · subst q0; rw [if_pos rfl]; exact LI.zero hp hK
              · rw [if_neg q0]
                have := LI.succ hs (hlow (m - 1) (by omega)) hp (by rw [show m - 1 + 1 = m by omega]; exact hK) (hfol.resolve_left q0)
                rw [show m - 1 + 1 = m by omega] at this
                exact this
            have cont : ∀ v w, v = (if m = 0 then tR N i p else M2 6 (m - 1)) → w = bOr ev (if m = l.length - 1 then 1 else 0) → Runs C (tabF k_X2_endsMatch) (d + 1) Q 28 [some (vR 4), some (vR i), some (vI p), some (vI f), some (vI (tR N i p)), some (vI w), some (vI ((m : Int) - 1))] [] (upM (upM M2 6 m v) 7 m (tR N i p)) := by
              intro v w hv hw
              refine ih (by omega) _ w (fun a h6 h7 => ?_) (fun j a1 a2 => ?_) (fun j a1 => ?_) (fun j a1 => ?_) ?_
              · rw [upM_o h7, upM_o h6]; exact hE2 a h6 h7
              · by_cases q0 : j = m
                · subst q0
                  rw [upM_eq, upM_ni (by decide), upM_eq, hv]
                  exact hnew
                · rw [upM_nj q0, upM_ni (by decide), upM_ni (by decide), upM_nj q0]
                  exact hup j (by omega) a2
              · rw [upM_nj (by omega), upM_ni (by decide), upM_ni (by decide), upM_nj (by omega)]
                exact hlow j (by omega)
              · by_cases q0 : j = m
                · subst q0
                  rw [upM_eq, upM_ni (by decide), upM_eq, hv]
                  exact LI.bd hR.t hnew
                · simp only [upM_nj q0]
                  exact hB2 j a1
              · rw [if_pos (by omega), hw]
                by_cases q0 : m = l.length - 1
                · rw [if_neg (by omega)] at hev
                  rw [if_pos q0, hev, bOr_01, tf_t]
                  rw [← q0]; exact hex
                · rw [if_pos (by omega)] at hev
                  rw [if_neg q0]
                  rcases tf_r (∃ b, chR N i l (l.length - 1) b p) with z | z
                  · rw [z] at hev; rw [hev, bOr_00, z]
                  · rw [z] at hev; rw [hev, bOr_10, z]
            have hlen : M2 4 3 = l.length := by rw [hE2 4 (by decide) (by decide)]; exact hT.1
            have e4 : ((m : Int) - 1).toNat = m - 1 := by omega
            refine Runs.go S.1 mo_X2_endsMatch [9, 15, 28, 54] 69 ?_
            simp only [e_X2_endsMatch_0, e_X2_endsMatch_1, e_X2_endsMatch_2, e_X2_endsMatch_3, e_X2_endsMatch_6, e_X2_endsMatch_9, e_X2_endsMatch_10, e_X2_endsMatch_11, e_X2_endsMatch_12, e_X2_endsMatch_15, e_X2_endsMatch_17, e_X2_endsMatch_18, e_X2_endsMatch_20, e_X2_endsMatch_21, e_X2_endsMatch_24, e_X2_endsMatch_25, e_X2_endsMatch_26, e_X2_endsMatch_28, e_X2_endsMatch_29, e_X2_endsMatch_32, e_X2_endsMatch_34, e_X2_endsMatch_37, e_X2_endsMatch_38, e_X2_endsMatch_40, e_X2_endsMatch_41, e_X2_endsMatch_42, e_X2_endsMatch_43, e_X2_endsMatch_46, e_X2_endsMatch_47, e_X2_endsMatch_49, e_X2_endsMatch_51, e_X2_endsMatch_54, e_X2_endsMatch_57, e_X2_endsMatch_58, e_X2_endsMatch_61, e_X2_endsMatch_63, e_X2_endsMatch_65, e_X2_endsMatch_68, e_X2_endsMatch_70, e_X2_endsMatch_73, e_X2_endsMatch_74, e_X2_endsMatch_77, e_X2_endsMatch_79, e_X2_endsMatch_80, e_X2_endsMatch_81, e_X2_endsMatch_82, e_X2_endsMatch_83, e_X2_endsMatch_84, e_X2_endsMatch_87, e_X2_endsMatch_89, e_X2_endsMatch_91, e_X2_endsMatch_92, e_X2_endsMatch_94, e_X2_endsMatch_96, e_X2_endsMatch_97, e_X2_endsMatch_100, e_X2_endsMatch_101, e_X2_endsMatch_102, e_X2_endsMatch_105, e_X2_endsMatch_106, e_X2_endsMatch_109, e_X2_endsMatch_110, e_X2_endsMatch_111, e_X2_endsMatch_113, e_X2_endsMatch_116, e_X2_endsMatch_119, e_X2_endsMatch_121, hlen, e4, f_and, f_callV, f_getI, f_getR, f_goto, f_iald, f_iast, f_icmp, f_if0, f_iinc, f_loadI, f_loadR, f_or, f_push, f_shr, f_storeI, f_sub, f_zret, stN, lget, lput, clrL, lputL, lenLe, lenGe, noL, swL, List.elem_cons, List.elem_nil, List.take_succ_cons, List.take_zero, List.take_nil, List.drop_succ_cons, List.drop_zero, List.reverse_cons, List.reverse_nil, List.nil_append, List.cons_append, Option.toList_some, Option.toList_none, Bool.and_true, Bool.or_false, Bool.false_or, Bool.true_or, Bool.and_self, true_and, and_true, Nat.reduceAdd, Nat.reduceBEq, Int.reduceAdd, Int.reduceNeg, Int.reduceLE, Int.reduceLT, Int.reduceSub, Int.reduceMul, Int.reduceToNat, cEq, cNe, cLt, cGe, cGt, cLe, iR, lR, cl_0, cl_1, cl_4, cl_9, cl_86, al_2, al_3, al_5, al_13, al_6, al_7, al_8, al_10, al_11, al_87, al_88, al_90, al_91, al_92, al_93, al_94, al_95, al_96, al_97, al_98, al_99, al_100, ne_eq, not_true_eq_false, not_false_eq_true, upM_eq, upM_ni, upM_nj, upM_24, upM_48, upM_i24, upM_i48, upM_2448, upM_4824, Nat.reduceEqDiff, reduceCtorEq, or_true, true_or, Int.reduceEq, true_implies, false_implies, Int.reducePow, Int.toNat_natCast]
            refine ⟨by omega, fun q0 => ⟨by omega, by omega, by omega, by omega, by omega, fun q1 => ?_, fun q1 => ?_⟩, fun q0 => ⟨by omega, by omega, by omega, by omega, fun q1 => ?_, fun q1 => ?_⟩⟩
            · exact cont _ _ (by rw [if_neg (by omega)]) (by rw [if_neg (by omega)])
            · exact cont _ _ (by rw [if_neg (by omega)]) (by rw [if_pos (by omega)])
            · exact cont _ _ (by rw [if_pos (by omega)]) (by rw [if_neg (by omega)])
            · exact cont _ _ (by rw [if_pos (by omega)]) (by rw [if_pos (by omega)])
          · have hn : ∀ b, ¬ chR N i l m b p := by
              intro b z
              refine hf ?_
              by_cases q0 : m = 0
              · exact Or.inl q0
              · right
                have hg3 : M2 4 = N 4 := hE2 4 (by decide) (by decide)
                rw [hg3]
                refine (LI_fol hs h0 (hlow (m - 1) (by omega)) hp).mpr ?_
                have z2 : ∃ b, chR N i l (m - 1 + 1) b p := ⟨b, by rw [show m - 1 + 1 = m by omega]; exact z⟩
                exact (ch_fol.mp z2).2.2
            refine Runs.go S.1 mo_X2_endsMatch [9, 15, 28, 54] 69 ?_
            simp only [e_X2_endsMatch_0, e_X2_endsMatch_1, e_X2_endsMatch_2, e_X2_endsMatch_3, e_X2_endsMatch_6, e_X2_endsMatch_9, e_X2_endsMatch_10, e_X2_endsMatch_11, e_X2_endsMatch_12, e_X2_endsMatch_15, e_X2_endsMatch_17, e_X2_endsMatch_18, e_X2_endsMatch_20, e_X2_endsMatch_21, e_X2_endsMatch_24, e_X2_endsMatch_25, e_X2_endsMatch_26, e_X2_endsMatch_28, e_X2_endsMatch_29, e_X2_endsMatch_32, e_X2_endsMatch_34, e_X2_endsMatch_37, e_X2_endsMatch_38, e_X2_endsMatch_40, e_X2_endsMatch_41, e_X2_endsMatch_42, e_X2_endsMatch_43, e_X2_endsMatch_46, e_X2_endsMatch_47, e_X2_endsMatch_49, e_X2_endsMatch_51, e_X2_endsMatch_54, e_X2_endsMatch_57, e_X2_endsMatch_58, e_X2_endsMatch_61, e_X2_endsMatch_63, e_X2_endsMatch_65, e_X2_endsMatch_68, e_X2_endsMatch_70, e_X2_endsMatch_73, e_X2_endsMatch_74, e_X2_endsMatch_77, e_X2_endsMatch_79, e_X2_endsMatch_80, e_X2_endsMatch_81, e_X2_endsMatch_82, e_X2_endsMatch_83, e_X2_endsMatch_84, e_X2_endsMatch_87, e_X2_endsMatch_89, e_X2_endsMatch_91, e_X2_endsMatch_92, e_X2_endsMatch_94, e_X2_endsMatch_96, e_X2_endsMatch_97, e_X2_endsMatch_100, e_X2_endsMatch_101, e_X2_endsMatch_102, e_X2_endsMatch_105, e_X2_endsMatch_106, e_X2_endsMatch_109, e_X2_endsMatch_110, e_X2_endsMatch_111, e_X2_endsMatch_113, e_X2_endsMatch_116, e_X2_endsMatch_119, e_X2_endsMatch_121, f_and, f_callV, f_getI, f_getR, f_goto, f_iald, f_iast, f_icmp, f_if0, f_iinc, f_loadI, f_loadR, f_or, f_push, f_shr, f_storeI, f_sub, f_zret, stN, lget, lput, clrL, lputL, lenLe, lenGe, noL, swL, List.elem_cons, List.elem_nil, List.take_succ_cons, List.take_zero, List.take_nil, List.drop_succ_cons, List.drop_zero, List.reverse_cons, List.reverse_nil, List.nil_append, List.cons_append, Option.toList_some, Option.toList_none, Bool.and_true, Bool.or_false, Bool.false_or, Bool.true_or, Bool.and_self, true_and, and_true, Nat.reduceAdd, Nat.reduceBEq, Int.reduceAdd, Int.reduceNeg, Int.reduceLE, Int.reduceLT, Int.reduceSub, Int.reduceMul, Int.reduceToNat, cEq, cNe, cLt, cGe, cGt, cLe, iR, lR, cl_0, cl_1, cl_4, cl_9, cl_86, al_2, al_3, al_5, al_13, al_6, al_7, al_8, al_10, al_11, al_87, al_88, al_90, al_91, al_92, al_93, al_94, al_95, al_96, al_97, al_98, al_99, al_100, ne_eq, not_true_eq_false, not_false_eq_true, upM_eq, upM_ni, upM_nj, upM_24, upM_48, upM_i24, upM_i48, upM_2448, upM_4824, Nat.reduceEqDiff, reduceCtorEq, or_true, true_or, Int.reduceEq, true_implies, false_implies, Int.reducePow, Int.toNat_natCast]
            exact stay hn
        · rw [if_neg hb]
          refine ⟨by omega, fun _ => stay (noK ?_), fun z => by omega⟩
          cases hk2 : KR N i p (l.getD m 0) with
          | false => rfl
          | true => exact absurd ((hf3 m).mpr ⟨by omega, hk2⟩) hb
      · have hz : f = 0 := by omega
        have hn : ∀ j, j < l.length → ∀ b, ¬ chR N i l j b p := fun j hj b z => by
          have := (hf3 j).mpr ⟨hj, ch.kd (k := j) (pt := fun k => l.getD k 0) z⟩
          rw [hz, Nat.zero_testBit] at this
          cases this
        refine ⟨hev2, ?_⟩
        have hev3 : ev = 0 := by
          rw [hev]; split
          · exact tf_f fun ⟨b, z⟩ => hn (l.length - 1) (by omega) b z
          · rfl
        rw [hev3]
        refine k0 (fun _ ⟨b, z⟩ => hn (l.length - 1) (by omega) b z) M2 hE2 (fun j hj => ?_) hB2
        rcases Nat.lt_or_ge j (m + 1) with q0 | q0
        · exact LI.keep (hlow j q0) (hn j hj)
        · exact hup j q0 hj
  have hlenM : M 4 3 = l.length := by rw [hE 4 (by decide) (by decide)]; exact hT.1
  have hci := cl_row hi
  refine en_X2_endsMatch S ?_
  refine Runs.go S.1 mo_X2_endsMatch [9, 15, 28, 54] 69 ?_
  simp only [e_X2_endsMatch_0, e_X2_endsMatch_1, e_X2_endsMatch_2, e_X2_endsMatch_3, e_X2_endsMatch_6, e_X2_endsMatch_9, e_X2_endsMatch_10, e_X2_endsMatch_11, e_X2_endsMatch_12, e_X2_endsMatch_15, e_X2_endsMatch_17, e_X2_endsMatch_18, e_X2_endsMatch_20, e_X2_endsMatch_21, e_X2_endsMatch_24, e_X2_endsMatch_25, e_X2_endsMatch_26, e_X2_endsMatch_28, e_X2_endsMatch_29, e_X2_endsMatch_32, e_X2_endsMatch_34, e_X2_endsMatch_37, e_X2_endsMatch_38, e_X2_endsMatch_40, e_X2_endsMatch_41, e_X2_endsMatch_42, e_X2_endsMatch_43, e_X2_endsMatch_46, e_X2_endsMatch_47, e_X2_endsMatch_49, e_X2_endsMatch_51, e_X2_endsMatch_54, e_X2_endsMatch_57, e_X2_endsMatch_58, e_X2_endsMatch_61, e_X2_endsMatch_63, e_X2_endsMatch_65, e_X2_endsMatch_68, e_X2_endsMatch_70, e_X2_endsMatch_73, e_X2_endsMatch_74, e_X2_endsMatch_77, e_X2_endsMatch_79, e_X2_endsMatch_80, e_X2_endsMatch_81, e_X2_endsMatch_82, e_X2_endsMatch_83, e_X2_endsMatch_84, e_X2_endsMatch_87, e_X2_endsMatch_89, e_X2_endsMatch_91, e_X2_endsMatch_92, e_X2_endsMatch_94, e_X2_endsMatch_96, e_X2_endsMatch_97, e_X2_endsMatch_100, e_X2_endsMatch_101, e_X2_endsMatch_102, e_X2_endsMatch_105, e_X2_endsMatch_106, e_X2_endsMatch_109, e_X2_endsMatch_110, e_X2_endsMatch_111, e_X2_endsMatch_113, e_X2_endsMatch_116, e_X2_endsMatch_119, e_X2_endsMatch_121, hci, f_and, f_callV, f_getI, f_getR, f_goto, f_iald, f_iast, f_icmp, f_if0, f_iinc, f_loadI, f_loadR, f_or, f_push, f_shr, f_storeI, f_sub, f_zret, stN, lget, lput, clrL, lputL, lenLe, lenGe, noL, swL, List.elem_cons, List.elem_nil, List.take_succ_cons, List.take_zero, List.take_nil, List.drop_succ_cons, List.drop_zero, List.reverse_cons, List.reverse_nil, List.nil_append, List.cons_append, Option.toList_some, Option.toList_none, Bool.and_true, Bool.or_false, Bool.false_or, Bool.true_or, Bool.and_self, true_and, and_true, Nat.reduceAdd, Nat.reduceBEq, Int.reduceAdd, Int.reduceNeg, Int.reduceLE, Int.reduceLT, Int.reduceSub, Int.reduceMul, Int.reduceToNat, cEq, cNe, cLt, cGe, cGt, cLe, iR, lR, cl_0, cl_1, cl_4, cl_9, cl_86, al_2, al_3, al_5, al_13, al_6, al_7, al_8, al_10, al_11, al_87, al_88, al_90, al_91, al_92, al_93, al_94, al_95, al_96, al_97, al_98, al_99, al_100, ne_eq, not_true_eq_false, not_false_eq_true, upM_eq, upM_ni, upM_nj, upM_24, upM_48, upM_i24, upM_i48, upM_2448, upM_4824, Nat.reduceEqDiff, reduceCtorEq, or_true, true_or, Int.reduceEq, true_implies, false_implies, Int.reducePow, Int.toNat_natCast]
  refine c_X4_bitsAt S (a := 5) (x := (p : Int)) hi ⟨by omega, by omega⟩ hRM rfl ?_
  rw [hbt]
  refine Runs.go S.1 mo_X2_endsMatch [9, 15, 28, 54] 69 ?_
  simp only [e_X2_endsMatch_0, e_X2_endsMatch_1, e_X2_endsMatch_2, e_X2_endsMatch_3, e_X2_endsMatch_6, e_X2_endsMatch_9, e_X2_endsMatch_10, e_X2_endsMatch_11, e_X2_endsMatch_12, e_X2_endsMatch_15, e_X2_endsMatch_17, e_X2_endsMatch_18, e_X2_endsMatch_20, e_X2_endsMatch_21, e_X2_endsMatch_24, e_X2_endsMatch_25, e_X2_endsMatch_26, e_X2_endsMatch_28, e_X2_endsMatch_29, e_X2_endsMatch_32, e_X2_endsMatch_34, e_X2_endsMatch_37, e_X2_endsMatch_38, e_X2_endsMatch_40, e_X2_endsMatch_41, e_X2_endsMatch_42, e_X2_endsMatch_43, e_X2_endsMatch_46, e_X2_endsMatch_47, e_X2_endsMatch_49, e_X2_endsMatch_51, e_X2_endsMatch_54, e_X2_endsMatch_57, e_X2_endsMatch_58, e_X2_endsMatch_61, e_X2_endsMatch_63, e_X2_endsMatch_65, e_X2_endsMatch_68, e_X2_endsMatch_70, e_X2_endsMatch_73, e_X2_endsMatch_74, e_X2_endsMatch_77, e_X2_endsMatch_79, e_X2_endsMatch_80, e_X2_endsMatch_81, e_X2_endsMatch_82, e_X2_endsMatch_83, e_X2_endsMatch_84, e_X2_endsMatch_87, e_X2_endsMatch_89, e_X2_endsMatch_91, e_X2_endsMatch_92, e_X2_endsMatch_94, e_X2_endsMatch_96, e_X2_endsMatch_97, e_X2_endsMatch_100, e_X2_endsMatch_101, e_X2_endsMatch_102, e_X2_endsMatch_105, e_X2_endsMatch_106, e_X2_endsMatch_109, e_X2_endsMatch_110, e_X2_endsMatch_111, e_X2_endsMatch_113, e_X2_endsMatch_116, e_X2_endsMatch_119, e_X2_endsMatch_121, hci, f_and, f_callV, f_getI, f_getR, f_goto, f_iald, f_iast, f_icmp, f_if0, f_iinc, f_loadI, f_loadR, f_or, f_push, f_shr, f_storeI, f_sub, f_zret, stN, lget, lput, clrL, lputL, lenLe, lenGe, noL, swL, List.elem_cons, List.elem_nil, List.take_succ_cons, List.take_zero, List.take_nil, List.drop_succ_cons, List.drop_zero, List.reverse_cons, List.reverse_nil, List.nil_append, List.cons_append, Option.toList_some, Option.toList_none, Bool.and_true, Bool.or_false, Bool.false_or, Bool.true_or, Bool.and_self, true_and, and_true, Nat.reduceAdd, Nat.reduceBEq, Int.reduceAdd, Int.reduceNeg, Int.reduceLE, Int.reduceLT, Int.reduceSub, Int.reduceMul, Int.reduceToNat, cEq, cNe, cLt, cGe, cGt, cLe, iR, lR, cl_0, cl_1, cl_4, cl_9, cl_86, al_2, al_3, al_5, al_13, al_6, al_7, al_8, al_10, al_11, al_87, al_88, al_90, al_91, al_92, al_93, al_94, al_95, al_96, al_97, al_98, al_99, al_100, ne_eq, not_true_eq_false, not_false_eq_true, upM_eq, upM_ni, upM_nj, upM_24, upM_48, upM_i24, upM_i48, upM_2448, upM_4824, Nat.reduceEqDiff, reduceCtorEq, or_true, true_or, Int.reduceEq, true_implies, false_implies, Int.reducePow, Int.toNat_natCast]
  refine c_X4_tickAt S (x := (p : Int)) hi ⟨by omega, by omega⟩ hRM ?_
  rw [htk]
  refine Runs.go S.1 mo_X2_endsMatch [9, 15, 28, 54] 69 ?_
  simp only [e_X2_endsMatch_0, e_X2_endsMatch_1, e_X2_endsMatch_2, e_X2_endsMatch_3, e_X2_endsMatch_6, e_X2_endsMatch_9, e_X2_endsMatch_10, e_X2_endsMatch_11, e_X2_endsMatch_12, e_X2_endsMatch_15, e_X2_endsMatch_17, e_X2_endsMatch_18, e_X2_endsMatch_20, e_X2_endsMatch_21, e_X2_endsMatch_24, e_X2_endsMatch_25, e_X2_endsMatch_26, e_X2_endsMatch_28, e_X2_endsMatch_29, e_X2_endsMatch_32, e_X2_endsMatch_34, e_X2_endsMatch_37, e_X2_endsMatch_38, e_X2_endsMatch_40, e_X2_endsMatch_41, e_X2_endsMatch_42, e_X2_endsMatch_43, e_X2_endsMatch_46, e_X2_endsMatch_47, e_X2_endsMatch_49, e_X2_endsMatch_51, e_X2_endsMatch_54, e_X2_endsMatch_57, e_X2_endsMatch_58, e_X2_endsMatch_61, e_X2_endsMatch_63, e_X2_endsMatch_65, e_X2_endsMatch_68, e_X2_endsMatch_70, e_X2_endsMatch_73, e_X2_endsMatch_74, e_X2_endsMatch_77, e_X2_endsMatch_79, e_X2_endsMatch_80, e_X2_endsMatch_81, e_X2_endsMatch_82, e_X2_endsMatch_83, e_X2_endsMatch_84, e_X2_endsMatch_87, e_X2_endsMatch_89, e_X2_endsMatch_91, e_X2_endsMatch_92, e_X2_endsMatch_94, e_X2_endsMatch_96, e_X2_endsMatch_97, e_X2_endsMatch_100, e_X2_endsMatch_101, e_X2_endsMatch_102, e_X2_endsMatch_105, e_X2_endsMatch_106, e_X2_endsMatch_109, e_X2_endsMatch_110, e_X2_endsMatch_111, e_X2_endsMatch_113, e_X2_endsMatch_116, e_X2_endsMatch_119, e_X2_endsMatch_121, hci, hlenM, f_and, f_callV, f_getI, f_getR, f_goto, f_iald, f_iast, f_icmp, f_if0, f_iinc, f_loadI, f_loadR, f_or, f_push, f_shr, f_storeI, f_sub, f_zret, stN, lget, lput, clrL, lputL, lenLe, lenGe, noL, swL, List.elem_cons, List.elem_nil, List.take_succ_cons, List.take_zero, List.take_nil, List.drop_succ_cons, List.drop_zero, List.reverse_cons, List.reverse_nil, List.nil_append, List.cons_append, Option.toList_some, Option.toList_none, Bool.and_true, Bool.or_false, Bool.false_or, Bool.true_or, Bool.and_self, true_and, and_true, Nat.reduceAdd, Nat.reduceBEq, Int.reduceAdd, Int.reduceNeg, Int.reduceLE, Int.reduceLT, Int.reduceSub, Int.reduceMul, Int.reduceToNat, cEq, cNe, cLt, cGe, cGt, cLe, iR, lR, cl_0, cl_1, cl_4, cl_9, cl_86, al_2, al_3, al_5, al_13, al_6, al_7, al_8, al_10, al_11, al_87, al_88, al_90, al_91, al_92, al_93, al_94, al_95, al_96, al_97, al_98, al_99, al_100, ne_eq, not_true_eq_false, not_false_eq_true, upM_eq, upM_ni, upM_nj, upM_24, upM_48, upM_i24, upM_i48, upM_2448, upM_4824, Nat.reduceEqDiff, reduceCtorEq, or_true, true_or, Int.reduceEq, true_implies, false_implies, Int.reducePow, Int.toNat_natCast]
  exact loop l.length (Nat.le_refl _) M 0 hE (fun j a1 a2 => by omega) (fun j a1 => hC j a1) hB (by rw [if_neg (by omega)])
-- the walk has come to place p
set_option maxRecDepth 40000 in
set_option maxHeartbeats 4000000 in
theorem c_X2_isIn (S : Snd C) {i : Nat} {l : List Nat} (hi : IRow i) (hl : PL l) (h1l : 0 < l.length) (hR : RowOk N i) (hg : WFg N) (hT : TU N l) (k1 : hasR N i l → ∀ M2, E67 N M2 → Q (some (vI 1)) M2) (k0 : ¬ hasR N i l → ∀ M2, E67 N M2 → Q (some (vI 0)) M2) : C (d + 2) 12 [vR 4, vR i] N Q := by
  have hci := cl_row hi
  have hRn := hR.n
  have hR1 := hR.1
  have loop : ∀ (n p : Nat), p + n = nR N i → ∀ M, E67 N M → CI N M i l p → BC M → (∀ b e, e < p → ¬ chR N i l (l.length - 1) b e) → Runs C (tabF k_X2_isIn) (d + 2) Q 6 [some (vR 4), some (vR i), some (vI p)] [] M := by
    intro n
    induction n with
    | zero =>
      intro p hp M hE hC hB hno
      have hM4 : M i 4 = N i 4 := by rw [hE i (by omega) (by omega)]
      refine Runs.go S.1 mo_X2_isIn [4, 6, 11, 20] 21 ?_
      simp only [e_X2_isIn_0, e_X2_isIn_1, e_X2_isIn_4, e_X2_isIn_5, e_X2_isIn_6, e_X2_isIn_7, e_X2_isIn_8, e_X2_isIn_11, e_X2_isIn_14, e_X2_isIn_15, e_X2_isIn_16, e_X2_isIn_17, e_X2_isIn_20, e_X2_isIn_23, e_X2_isIn_24, e_X2_isIn_25, e_X2_isIn_28, e_X2_isIn_31, e_X2_isIn_32, hci, f_callV, f_goto, f_icmp, f_if0, f_iinc, f_loadI, f_loadR, f_push, f_storeI, f_zret, stN, lget, lput, clrL, lputL, lenLe, lenGe, noL, swL, List.elem_cons, List.elem_nil, List.take_succ_cons, List.take_zero, List.take_nil, List.drop_succ_cons, List.drop_zero, List.reverse_cons, List.reverse_nil, List.nil_append, List.cons_append, Option.toList_some, Option.toList_none, Bool.and_true, Bool.or_false, Bool.false_or, Bool.true_or, Bool.and_self, true_and, and_true, Nat.reduceAdd, Nat.reduceBEq, Int.reduceAdd, Int.reduceNeg, Int.reduceLE, Int.reduceLT, Int.reduceSub, Int.reduceMul, Int.reduceToNat, cEq, cNe, cLt, cGe, cGt, cLe, iR, lR, cl_0, cl_1, cl_4, cl_9, cl_86, al_2, al_3, al_5, al_13, al_6, al_7, al_8, al_10, al_11, al_87, al_88, al_90, al_91, al_92, al_93, al_94, al_95, al_96, al_97, al_98, al_99, al_100, ne_eq, not_true_eq_false, not_false_eq_true, upM_eq, upM_ni, upM_nj, upM_24, upM_48, upM_i24, upM_i48, upM_2448, upM_4824, Nat.reduceEqDiff, reduceCtorEq, or_true, true_or, Int.reduceEq, true_implies, false_implies, Int.reducePow, Int.toNat_natCast]
      refine c_X4_size S hi ?_
      rw [hM4]
      refine Runs.go S.1 mo_X2_isIn [4, 6, 11, 20] 21 ?_
      simp only [e_X2_isIn_0, e_X2_isIn_1, e_X2_isIn_4, e_X2_isIn_5, e_X2_isIn_6, e_X2_isIn_7, e_X2_isIn_8, e_X2_isIn_11, e_X2_isIn_14, e_X2_isIn_15, e_X2_isIn_16, e_X2_isIn_17, e_X2_isIn_20, e_X2_isIn_23, e_X2_isIn_24, e_X2_isIn_25, e_X2_isIn_28, e_X2_isIn_31, e_X2_isIn_32, hci, f_callV, f_goto, f_icmp, f_if0, f_iinc, f_loadI, f_loadR, f_push, f_storeI, f_zret, stN, lget, lput, clrL, lputL, lenLe, lenGe, noL, swL, List.elem_cons, List.elem_nil, List.take_succ_cons, List.take_zero, List.take_nil, List.drop_succ_cons, List.drop_zero, List.reverse_cons, List.reverse_nil, List.nil_append, List.cons_append, Option.toList_some, Option.toList_none, Bool.and_true, Bool.or_false, Bool.false_or, Bool.true_or, Bool.and_self, true_and, and_true, Nat.reduceAdd, Nat.reduceBEq, Int.reduceAdd, Int.reduceNeg, Int.reduceLE, Int.reduceLT, Int.reduceSub, Int.reduceMul, Int.reduceToNat, cEq, cNe, cLt, cGe, cGt, cLe, iR, lR, cl_0, cl_1, cl_4, cl_9, cl_86, al_2, al_3, al_5, al_13, al_6, al_7, al_8, al_10, al_11, al_87, al_88, al_90, al_91, al_92, al_93, al_94, al_95, al_96, al_97, al_98, al_99, al_100, ne_eq, not_true_eq_false, not_false_eq_true, upM_eq, upM_ni, upM_nj, upM_24, upM_48, upM_i24, upM_i48, upM_2448, upM_4824, Nat.reduceEqDiff, reduceCtorEq, or_true, true_or, Int.reduceEq, true_implies, false_implies, Int.reducePow, Int.toNat_natCast]
      refine ⟨by omega, by omega, fun _ => k0 ?_ M hE, fun z => by omega⟩
      rintro ⟨b, e, z⟩
      exact hno b e (by have := (ch.lt z).1; omega) z
    | succ n ih =>
      intro p hp M hE hC hB hno
      have hM4 : M i 4 = N i 4 := by rw [hE i (by omega) (by omega)]
      refine Runs.go S.1 mo_X2_isIn [4, 6, 11, 20] 21 ?_
      simp only [e_X2_isIn_0, e_X2_isIn_1, e_X2_isIn_4, e_X2_isIn_5, e_X2_isIn_6, e_X2_isIn_7, e_X2_isIn_8, e_X2_isIn_11, e_X2_isIn_14, e_X2_isIn_15, e_X2_isIn_16, e_X2_isIn_17, e_X2_isIn_20, e_X2_isIn_23, e_X2_isIn_24, e_X2_isIn_25, e_X2_isIn_28, e_X2_isIn_31, e_X2_isIn_32, hci, f_callV, f_goto, f_icmp, f_if0, f_iinc, f_loadI, f_loadR, f_push, f_storeI, f_zret, stN, lget, lput, clrL, lputL, lenLe, lenGe, noL, swL, List.elem_cons, List.elem_nil, List.take_succ_cons, List.take_zero, List.take_nil, List.drop_succ_cons, List.drop_zero, List.reverse_cons, List.reverse_nil, List.nil_append, List.cons_append, Option.toList_some, Option.toList_none, Bool.and_true, Bool.or_false, Bool.false_or, Bool.true_or, Bool.and_self, true_and, and_true, Nat.reduceAdd, Nat.reduceBEq, Int.reduceAdd, Int.reduceNeg, Int.reduceLE, Int.reduceLT, Int.reduceSub, Int.reduceMul, Int.reduceToNat, cEq, cNe, cLt, cGe, cGt, cLe, iR, lR, cl_0, cl_1, cl_4, cl_9, cl_86, al_2, al_3, al_5, al_13, al_6, al_7, al_8, al_10, al_11, al_87, al_88, al_90, al_91, al_92, al_93, al_94, al_95, al_96, al_97, al_98, al_99, al_100, ne_eq, not_true_eq_false, not_false_eq_true, upM_eq, upM_ni, upM_nj, upM_24, upM_48, upM_i24, upM_i48, upM_2448, upM_4824, Nat.reduceEqDiff, reduceCtorEq, or_true, true_or, Int.reduceEq, true_implies, false_implies, Int.reducePow, Int.toNat_natCast]
      refine c_X4_size S hi ?_
      rw [hM4]
      refine Runs.go S.1 mo_X2_isIn [4, 6, 11, 20] 21 ?_
      simp only [e_X2_isIn_0, e_X2_isIn_1, e_X2_isIn_4, e_X2_isIn_5, e_X2_isIn_6, e_X2_isIn_7, e_X2_isIn_8, e_X2_isIn_11, e_X2_isIn_14, e_X2_isIn_15, e_X2_isIn_16, e_X2_isIn_17, e_X2_isIn_20, e_X2_isIn_23, e_X2_isIn_24, e_X2_isIn_25, e_X2_isIn_28, e_X2_isIn_31, e_X2_isIn_32, hci, f_callV, f_goto, f_icmp, f_if0, f_iinc, f_loadI, f_loadR, f_push, f_storeI, f_zret, stN, lget, lput, clrL, lputL, lenLe, lenGe, noL, swL, List.elem_cons, List.elem_nil, List.take_succ_cons, List.take_zero, List.take_nil, List.drop_succ_cons, List.drop_zero, List.reverse_cons, List.reverse_nil, List.nil_append, List.cons_append, Option.toList_some, Option.toList_none, Bool.and_true, Bool.or_false, Bool.false_or, Bool.true_or, Bool.and_self, true_and, and_true, Nat.reduceAdd, Nat.reduceBEq, Int.reduceAdd, Int.reduceNeg, Int.reduceLE, Int.reduceLT, Int.reduceSub, Int.reduceMul, Int.reduceToNat, cEq, cNe, cLt, cGe, cGt, cLe, iR, lR, cl_0, cl_1, cl_4, cl_9, cl_86, al_2, al_3, al_5, al_13, al_6, al_7, al_8, al_10, al_11, al_87, al_88, al_90, al_91, al_92, al_93, al_94, al_95, al_96, al_97, al_98, al_99, al_100, ne_eq, not_true_eq_false, not_false_eq_true, upM_eq, upM_ni, upM_nj, upM_24, upM_48, upM_i24, upM_i48, upM_2448, upM_4824, Nat.reduceEqDiff, reduceCtorEq, or_true, true_or, Int.reduceEq, true_implies, false_implies, Int.reducePow, Int.toNat_natCast]
      refine ⟨by omega, by omega, fun z => by omega, fun _ => ?_⟩
      refine c_X2_endsMatch S hi hl hR hg hT hE (by omega) hC hB (fun _ hx M2 hE2 hC2 hB2 => ?_) (fun hx M2 hE2 hC2 hB2 => ?_)
      · refine Runs.go S.1 mo_X2_isIn [4, 6, 11, 20] 21 ?_
        simp only [e_X2_isIn_0, e_X2_isIn_1, e_X2_isIn_4, e_X2_isIn_5, e_X2_isIn_6, e_X2_isIn_7, e_X2_isIn_8, e_X2_isIn_11, e_X2_isIn_14, e_X2_isIn_15, e_X2_isIn_16, e_X2_isIn_17, e_X2_isIn_20, e_X2_isIn_23, e_X2_isIn_24, e_X2_isIn_25, e_X2_isIn_28, e_X2_isIn_31, e_X2_isIn_32, hci, f_callV, f_goto, f_icmp, f_if0, f_iinc, f_loadI, f_loadR, f_push, f_storeI, f_zret, stN, lget, lput, clrL, lputL, lenLe, lenGe, noL, swL, List.elem_cons, List.elem_nil, List.take_succ_cons, List.take_zero, List.take_nil, List.drop_succ_cons, List.drop_zero, List.reverse_cons, List.reverse_nil, List.nil_append, List.cons_append, Option.toList_some, Option.toList_none, Bool.and_true, Bool.or_false, Bool.false_or, Bool.true_or, Bool.and_self, true_and, and_true, Nat.reduceAdd, Nat.reduceBEq, Int.reduceAdd, Int.reduceNeg, Int.reduceLE, Int.reduceLT, Int.reduceSub, Int.reduceMul, Int.reduceToNat, cEq, cNe, cLt, cGe, cGt, cLe, iR, lR, cl_0, cl_1, cl_4, cl_9, cl_86, al_2, al_3, al_5, al_13, al_6, al_7, al_8, al_10, al_11, al_87, al_88, al_90, al_91, al_92, al_93, al_94, al_95, al_96, al_97, al_98, al_99, al_100, ne_eq, not_true_eq_false, not_false_eq_true, upM_eq, upM_ni, upM_nj, upM_24, upM_48, upM_i24, upM_i48, upM_2448, upM_4824, Nat.reduceEqDiff, reduceCtorEq, or_true, true_or, Int.reduceEq, true_implies, false_implies, Int.reducePow, Int.toNat_natCast]
        obtain ⟨b, hb⟩ := hx
        exact k1 ⟨b, p, hb⟩ M2 hE2
      · refine Runs.go S.1 mo_X2_isIn [4, 6, 11, 20] 21 ?_
        simp only [e_X2_isIn_0, e_X2_isIn_1, e_X2_isIn_4, e_X2_isIn_5, e_X2_isIn_6, e_X2_isIn_7, e_X2_isIn_8, e_X2_isIn_11, e_X2_isIn_14, e_X2_isIn_15, e_X2_isIn_16, e_X2_isIn_17, e_X2_isIn_20, e_X2_isIn_23, e_X2_isIn_24, e_X2_isIn_25, e_X2_isIn_28, e_X2_isIn_31, e_X2_isIn_32, hci, f_callV, f_goto, f_icmp, f_if0, f_iinc, f_loadI, f_loadR, f_push, f_storeI, f_zret, stN, lget, lput, clrL, lputL, lenLe, lenGe, noL, swL, List.elem_cons, List.elem_nil, List.take_succ_cons, List.take_zero, List.take_nil, List.drop_succ_cons, List.drop_zero, List.reverse_cons, List.reverse_nil, List.nil_append, List.cons_append, Option.toList_some, Option.toList_none, Bool.and_true, Bool.or_false, Bool.false_or, Bool.true_or, Bool.and_self, true_and, and_true, Nat.reduceAdd, Nat.reduceBEq, Int.reduceAdd, Int.reduceNeg, Int.reduceLE, Int.reduceLT, Int.reduceSub, Int.reduceMul, Int.reduceToNat, cEq, cNe, cLt, cGe, cGt, cLe, iR, lR, cl_0, cl_1, cl_4, cl_9, cl_86, al_2, al_3, al_5, al_13, al_6, al_7, al_8, al_10, al_11, al_87, al_88, al_90, al_91, al_92, al_93, al_94, al_95, al_96, al_97, al_98, al_99, al_100, ne_eq, not_true_eq_false, not_false_eq_true, upM_eq, upM_ni, upM_nj, upM_24, upM_48, upM_i24, upM_i48, upM_2448, upM_4824, Nat.reduceEqDiff, reduceCtorEq, or_true, true_or, Int.reduceEq, true_implies, false_implies, Int.reducePow, Int.toNat_natCast]
        refine ih (p + 1) (by omega) M2 hE2 hC2 hB2 (fun b e he z => ?_)
        rcases Nat.lt_or_ge e p with q | q
        · exact hno b e q z
        · rw [show e = p by omega] at z
          exact hx h1l ⟨b, z⟩
  refine en_X2_isIn S ?_
  refine Runs.go S.1 mo_X2_isIn [4, 6, 11, 20] 21 ?_
  simp only [e_X2_isIn_0, e_X2_isIn_1, e_X2_isIn_4, e_X2_isIn_5, e_X2_isIn_6, e_X2_isIn_7, e_X2_isIn_8, e_X2_isIn_11, e_X2_isIn_14, e_X2_isIn_15, e_X2_isIn_16, e_X2_isIn_17, e_X2_isIn_20, e_X2_isIn_23, e_X2_isIn_24, e_X2_isIn_25, e_X2_isIn_28, e_X2_isIn_31, e_X2_isIn_32, hci, f_callV, f_goto, f_icmp, f_if0, f_iinc, f_loadI, f_loadR, f_push, f_storeI, f_zret, stN, lget, lput, clrL, lputL, lenLe, lenGe, noL, swL, List.elem_cons, List.elem_nil, List.take_succ_cons, List.take_zero, List.take_nil, List.drop_succ_cons, List.drop_zero, List.reverse_cons, List.reverse_nil, List.nil_append, List.cons_append, Option.toList_some, Option.toList_none, Bool.and_true, Bool.or_false, Bool.false_or, Bool.true_or, Bool.and_self, true_and, and_true, Nat.reduceAdd, Nat.reduceBEq, Int.reduceAdd, Int.reduceNeg, Int.reduceLE, Int.reduceLT, Int.reduceSub, Int.reduceMul, Int.reduceToNat, cEq, cNe, cLt, cGe, cGt, cLe, iR, lR, cl_0, cl_1, cl_4, cl_9, cl_86, al_2, al_3, al_5, al_13, al_6, al_7, al_8, al_10, al_11, al_87, al_88, al_90, al_91, al_92, al_93, al_94, al_95, al_96, al_97, al_98, al_99, al_100, ne_eq, not_true_eq_false, not_false_eq_true, upM_eq, upM_ni, upM_nj, upM_24, upM_48, upM_i24, upM_i48, upM_2448, upM_4824, Nat.reduceEqDiff, reduceCtorEq, or_true, true_or, Int.reduceEq, true_implies, false_implies, Int.reducePow, Int.toNat_natCast]
  refine c_X2_loseChains S (fun M2 hE2 hm => ?_)
  refine Runs.go S.1 mo_X2_isIn [4, 6, 11, 20] 21 ?_
  simp only [e_X2_isIn_0, e_X2_isIn_1, e_X2_isIn_4, e_X2_isIn_5, e_X2_isIn_6, e_X2_isIn_7, e_X2_isIn_8, e_X2_isIn_11, e_X2_isIn_14, e_X2_isIn_15, e_X2_isIn_16, e_X2_isIn_17, e_X2_isIn_20, e_X2_isIn_23, e_X2_isIn_24, e_X2_isIn_25, e_X2_isIn_28, e_X2_isIn_31, e_X2_isIn_32, hci, f_callV, f_goto, f_icmp, f_if0, f_iinc, f_loadI, f_loadR, f_push, f_storeI, f_zret, stN, lget, lput, clrL, lputL, lenLe, lenGe, noL, swL, List.elem_cons, List.elem_nil, List.take_succ_cons, List.take_zero, List.take_nil, List.drop_succ_cons, List.drop_zero, List.reverse_cons, List.reverse_nil, List.nil_append, List.cons_append, Option.toList_some, Option.toList_none, Bool.and_true, Bool.or_false, Bool.false_or, Bool.true_or, Bool.and_self, true_and, and_true, Nat.reduceAdd, Nat.reduceBEq, Int.reduceAdd, Int.reduceNeg, Int.reduceLE, Int.reduceLT, Int.reduceSub, Int.reduceMul, Int.reduceToNat, cEq, cNe, cLt, cGe, cGt, cLe, iR, lR, cl_0, cl_1, cl_4, cl_9, cl_86, al_2, al_3, al_5, al_13, al_6, al_7, al_8, al_10, al_11, al_87, al_88, al_90, al_91, al_92, al_93, al_94, al_95, al_96, al_97, al_98, al_99, al_100, ne_eq, not_true_eq_false, not_false_eq_true, upM_eq, upM_ni, upM_nj, upM_24, upM_48, upM_i24, upM_i48, upM_2448, upM_4824, Nat.reduceEqDiff, reduceCtorEq, or_true, true_or, Int.reduceEq, true_implies, false_implies, Int.reducePow, Int.toNat_natCast]
  refine loop (nR N i) 0 (by omega) M2 hE2 (fun k hk => ?_) (fun j hj => ?_) (fun b e he => by omega)
  · rw [(hm k (by have := hl.1; omega)).1, (hm k (by have := hl.1; omega)).2]
    exact LI.init
  · rw [(hm j hj).1, (hm j hj).2]
    omega
-- the last end: -1, or the tick of the last place at which a match ends
set_option maxRecDepth 40000 in
set_option maxHeartbeats 4000000 in
theorem c_X2_lastEnd (S : Snd C) {i : Nat} {l : List Nat} (hi : IRow i) (hl : PL l) (h1l : 0 < l.length) (hR : RowOk N i) (hg : WFg N) (hT : TU N l) (k : ∀ v, ((v = -1 ∧ ¬ hasR N i l) ∨ ∃ b e, chR N i l (l.length - 1) b e ∧ v = tR N i e ∧ ∀ b' e', e < e' → ¬ chR N i l (l.length - 1) b' e') → ∀ M2, E67 N M2 → Q (some (vI v)) M2) : C (d + 2) 13 [vR 4, vR i] N Q := by
  have hci := cl_row hi
  have hRn := hR.n
  have hR1 := hR.1
  have loop : ∀ (n p : Nat), p + n = nR N i → ∀ M v, E67 N M → CI N M i l p → BC M → ((v = -1 ∧ ∀ b e, e < p → ¬ chR N i l (l.length - 1) b e) ∨ ∃ b e, chR N i l (l.length - 1) b e ∧ v = tR N i e ∧ ∀ b' e', e < e' → e' < p → ¬ chR N i l (l.length - 1) b' e') → Runs C (tabF k_X2_lastEnd) (d + 2) Q 8 [some (vR 4), some (vR i), some (vI v), some (vI p)] [] M := by
    intro n
    induction n with
    | zero =>
      intro p hp M v hE hC hB hv
      have hM4 : M i 4 = N i 4 := by rw [hE i (by omega) (by omega)]
      refine Runs.go S.1 mo_X2_lastEnd [4, 8, 13, 22, 30] 25 ?_
      simp only [e_X2_lastEnd_0, e_X2_lastEnd_1, e_X2_lastEnd_4, e_X2_lastEnd_5, e_X2_lastEnd_6, e_X2_lastEnd_7, e_X2_lastEnd_8, e_X2_lastEnd_9, e_X2_lastEnd_10, e_X2_lastEnd_13, e_X2_lastEnd_16, e_X2_lastEnd_17, e_X2_lastEnd_18, e_X2_lastEnd_19, e_X2_lastEnd_22, e_X2_lastEnd_25, e_X2_lastEnd_26, e_X2_lastEnd_27, e_X2_lastEnd_30, e_X2_lastEnd_31, e_X2_lastEnd_34, e_X2_lastEnd_37, e_X2_lastEnd_38, hci, f_callV, f_goto, f_icmp, f_if0, f_iinc, f_iret, f_loadI, f_loadR, f_push, f_storeI, stN, lget, lput, clrL, lputL, lenLe, lenGe, noL, swL, List.elem_cons, List.elem_nil, List.take_succ_cons, List.take_zero, List.take_nil, List.drop_succ_cons, List.drop_zero, List.reverse_cons, List.reverse_nil, List.nil_append, List.cons_append, Option.toList_some, Option.toList_none, Bool.and_true, Bool.or_false, Bool.false_or, Bool.true_or, Bool.and_self, true_and, and_true, Nat.reduceAdd, Nat.reduceBEq, Int.reduceAdd, Int.reduceNeg, Int.reduceLE, Int.reduceLT, Int.reduceSub, Int.reduceMul, Int.reduceToNat, cEq, cNe, cLt, cGe, cGt, cLe, iR, lR, cl_0, cl_1, cl_4, cl_9, cl_86, al_2, al_3, al_5, al_13, al_6, al_7, al_8, al_10, al_11, al_87, al_88, al_90, al_91, al_92, al_93, al_94, al_95, al_96, al_97, al_98, al_99, al_100, ne_eq, not_true_eq_false, not_false_eq_true, upM_eq, upM_ni, upM_nj, upM_24, upM_48, upM_i24, upM_i48, upM_2448, upM_4824, Nat.reduceEqDiff, reduceCtorEq, or_true, true_or, Int.reduceEq, true_implies, false_implies, Int.reducePow, Int.toNat_natCast]
      refine c_X4_size S hi ?_
      rw [hM4]
      refine Runs.go S.1 mo_X2_lastEnd [4, 8, 13, 22, 30] 25 ?_
      simp only [e_X2_lastEnd_0, e_X2_lastEnd_1, e_X2_lastEnd_4, e_X2_lastEnd_5, e_X2_lastEnd_6, e_X2_lastEnd_7, e_X2_lastEnd_8, e_X2_lastEnd_9, e_X2_lastEnd_10, e_X2_lastEnd_13, e_X2_lastEnd_16, e_X2_lastEnd_17, e_X2_lastEnd_18, e_X2_lastEnd_19, e_X2_lastEnd_22, e_X2_lastEnd_25, e_X2_lastEnd_26, e_X2_lastEnd_27, e_X2_lastEnd_30, e_X2_lastEnd_31, e_X2_lastEnd_34, e_X2_lastEnd_37, e_X2_lastEnd_38, hci, f_callV, f_goto, f_icmp, f_if0, f_iinc, f_iret, f_loadI, f_loadR, f_push, f_storeI, stN, lget, lput, clrL, lputL, lenLe, lenGe, noL, swL, List.elem_cons, List.elem_nil, List.take_succ_cons, List.take_zero, List.take_nil, List.drop_succ_cons, List.drop_zero, List.reverse_cons, List.reverse_nil, List.nil_append, List.cons_append, Option.toList_some, Option.toList_none, Bool.and_true, Bool.or_false, Bool.false_or, Bool.true_or, Bool.and_self, true_and, and_true, Nat.reduceAdd, Nat.reduceBEq, Int.reduceAdd, Int.reduceNeg, Int.reduceLE, Int.reduceLT, Int.reduceSub, Int.reduceMul, Int.reduceToNat, cEq, cNe, cLt, cGe, cGt, cLe, iR, lR, cl_0, cl_1, cl_4, cl_9, cl_86, al_2, al_3, al_5, al_13, al_6, al_7, al_8, al_10, al_11, al_87, al_88, al_90, al_91, al_92, al_93, al_94, al_95, al_96, al_97, al_98, al_99, al_100, ne_eq, not_true_eq_false, not_false_eq_true, upM_eq, upM_ni, upM_nj, upM_24, upM_48, upM_i24, upM_i48, upM_2448, upM_4824, Nat.reduceEqDiff, reduceCtorEq, or_true, true_or, Int.reduceEq, true_implies, false_implies, Int.reducePow, Int.toNat_natCast]
      refine ⟨by omega, by omega, fun _ => k v ?_ M hE, fun z => by omega⟩
      rcases hv with ⟨h1, h2⟩ | ⟨b, e, h1, h2, h3⟩
      · exact Or.inl ⟨h1, fun ⟨b, e, z⟩ => h2 b e (by have := (ch.lt z).1; omega) z⟩
      · exact Or.inr ⟨b, e, h1, h2, fun b' e' a z => h3 b' e' a (by have := (ch.lt z).1; omega) z⟩
    | succ n ih =>
      intro p hp M v hE hC hB hv
      have hM4 : M i 4 = N i 4 := by rw [hE i (by omega) (by omega)]
      refine Runs.go S.1 mo_X2_lastEnd [4, 8, 13, 22, 30] 25 ?_
      simp only [e_X2_lastEnd_0, e_X2_lastEnd_1, e_X2_lastEnd_4, e_X2_lastEnd_5, e_X2_lastEnd_6, e_X2_lastEnd_7, e_X2_lastEnd_8, e_X2_lastEnd_9, e_X2_lastEnd_10, e_X2_lastEnd_13, e_X2_lastEnd_16, e_X2_lastEnd_17, e_X2_lastEnd_18, e_X2_lastEnd_19, e_X2_lastEnd_22, e_X2_lastEnd_25, e_X2_lastEnd_26, e_X2_lastEnd_27, e_X2_lastEnd_30, e_X2_lastEnd_31, e_X2_lastEnd_34, e_X2_lastEnd_37, e_X2_lastEnd_38, hci, f_callV, f_goto, f_icmp, f_if0, f_iinc, f_iret, f_loadI, f_loadR, f_push, f_storeI, stN, lget, lput, clrL, lputL, lenLe, lenGe, noL, swL, List.elem_cons, List.elem_nil, List.take_succ_cons, List.take_zero, List.take_nil, List.drop_succ_cons, List.drop_zero, List.reverse_cons, List.reverse_nil, List.nil_append, List.cons_append, Option.toList_some, Option.toList_none, Bool.and_true, Bool.or_false, Bool.false_or, Bool.true_or, Bool.and_self, true_and, and_true, Nat.reduceAdd, Nat.reduceBEq, Int.reduceAdd, Int.reduceNeg, Int.reduceLE, Int.reduceLT, Int.reduceSub, Int.reduceMul, Int.reduceToNat, cEq, cNe, cLt, cGe, cGt, cLe, iR, lR, cl_0, cl_1, cl_4, cl_9, cl_86, al_2, al_3, al_5, al_13, al_6, al_7, al_8, al_10, al_11, al_87, al_88, al_90, al_91, al_92, al_93, al_94, al_95, al_96, al_97, al_98, al_99, al_100, ne_eq, not_true_eq_false, not_false_eq_true, upM_eq, upM_ni, upM_nj, upM_24, upM_48, upM_i24, upM_i48, upM_2448, upM_4824, Nat.reduceEqDiff, reduceCtorEq, or_true, true_or, Int.reduceEq, true_implies, false_implies, Int.reducePow, Int.toNat_natCast]
      refine c_X4_size S hi ?_
      rw [hM4]
      refine Runs.go S.1 mo_X2_lastEnd [4, 8, 13, 22, 30] 25 ?_
      simp only [e_X2_lastEnd_0, e_X2_lastEnd_1, e_X2_lastEnd_4, e_X2_lastEnd_5, e_X2_lastEnd_6, e_X2_lastEnd_7, e_X2_lastEnd_8, e_X2_lastEnd_9, e_X2_lastEnd_10, e_X2_lastEnd_13, e_X2_lastEnd_16, e_X2_lastEnd_17, e_X2_lastEnd_18, e_X2_lastEnd_19, e_X2_lastEnd_22, e_X2_lastEnd_25, e_X2_lastEnd_26, e_X2_lastEnd_27, e_X2_lastEnd_30, e_X2_lastEnd_31, e_X2_lastEnd_34, e_X2_lastEnd_37, e_X2_lastEnd_38, hci, f_callV, f_goto, f_icmp, f_if0, f_iinc, f_iret, f_loadI, f_loadR, f_push, f_storeI, stN, lget, lput, clrL, lputL, lenLe, lenGe, noL, swL, List.elem_cons, List.elem_nil, List.take_succ_cons, List.take_zero, List.take_nil, List.drop_succ_cons, List.drop_zero, List.reverse_cons, List.reverse_nil, List.nil_append, List.cons_append, Option.toList_some, Option.toList_none, Bool.and_true, Bool.or_false, Bool.false_or, Bool.true_or, Bool.and_self, true_and, and_true, Nat.reduceAdd, Nat.reduceBEq, Int.reduceAdd, Int.reduceNeg, Int.reduceLE, Int.reduceLT, Int.reduceSub, Int.reduceMul, Int.reduceToNat, cEq, cNe, cLt, cGe, cGt, cLe, iR, lR, cl_0, cl_1, cl_4, cl_9, cl_86, al_2, al_3, al_5, al_13, al_6, al_7, al_8, al_10, al_11, al_87, al_88, al_90, al_91, al_92, al_93, al_94, al_95, al_96, al_97, al_98, al_99, al_100, ne_eq, not_true_eq_false, not_false_eq_true, upM_eq, upM_ni, upM_nj, upM_24, upM_48, upM_i24, upM_i48, upM_2448, upM_4824, Nat.reduceEqDiff, reduceCtorEq, or_true, true_or, Int.reduceEq, true_implies, false_implies, Int.reducePow, Int.toNat_natCast]
      refine ⟨by omega, by omega, fun z => by omega, fun _ => ?_⟩
      refine c_X2_endsMatch S hi hl hR hg hT hE (by omega) hC hB (fun _ hx M2 hE2 hC2 hB2 => ?_) (fun hx M2 hE2 hC2 hB2 => ?_)
      · refine Runs.go S.1 mo_X2_lastEnd [4, 8, 13, 22, 30] 25 ?_
        simp only [e_X2_lastEnd_0, e_X2_lastEnd_1, e_X2_lastEnd_4, e_X2_lastEnd_5, e_X2_lastEnd_6, e_X2_lastEnd_7, e_X2_lastEnd_8, e_X2_lastEnd_9, e_X2_lastEnd_10, e_X2_lastEnd_13, e_X2_lastEnd_16, e_X2_lastEnd_17, e_X2_lastEnd_18, e_X2_lastEnd_19, e_X2_lastEnd_22, e_X2_lastEnd_25, e_X2_lastEnd_26, e_X2_lastEnd_27, e_X2_lastEnd_30, e_X2_lastEnd_31, e_X2_lastEnd_34, e_X2_lastEnd_37, e_X2_lastEnd_38, hci, f_callV, f_goto, f_icmp, f_if0, f_iinc, f_iret, f_loadI, f_loadR, f_push, f_storeI, stN, lget, lput, clrL, lputL, lenLe, lenGe, noL, swL, List.elem_cons, List.elem_nil, List.take_succ_cons, List.take_zero, List.take_nil, List.drop_succ_cons, List.drop_zero, List.reverse_cons, List.reverse_nil, List.nil_append, List.cons_append, Option.toList_some, Option.toList_none, Bool.and_true, Bool.or_false, Bool.false_or, Bool.true_or, Bool.and_self, true_and, and_true, Nat.reduceAdd, Nat.reduceBEq, Int.reduceAdd, Int.reduceNeg, Int.reduceLE, Int.reduceLT, Int.reduceSub, Int.reduceMul, Int.reduceToNat, cEq, cNe, cLt, cGe, cGt, cLe, iR, lR, cl_0, cl_1, cl_4, cl_9, cl_86, al_2, al_3, al_5, al_13, al_6, al_7, al_8, al_10, al_11, al_87, al_88, al_90, al_91, al_92, al_93, al_94, al_95, al_96, al_97, al_98, al_99, al_100, ne_eq, not_true_eq_false, not_false_eq_true, upM_eq, upM_ni, upM_nj, upM_24, upM_48, upM_i24, upM_i48, upM_2448, upM_4824, Nat.reduceEqDiff, reduceCtorEq, or_true, true_or, Int.reduceEq, true_implies, false_implies, Int.reducePow, Int.toNat_natCast]
        have hRM : RowOk M2 i := hR.congr (hE2 i (by omega) (by omega)) (hE2 (i + 24) (by omega) (by omega)) (hE2 (i + 48) (by omega) (by omega))
        refine c_X4_tickAt S (x := (p : Int)) hi ⟨by omega, by omega⟩ hRM ?_
        have htk : tkA M2 i p = tR N i p := by
          rw [← tk_in hR (show p < nR N i by omega)]; unfold tkA; rw [hE2 i (by omega) (by omega), hE2 (i + 24) (by omega) (by omega)]
        rw [htk]
        refine Runs.go S.1 mo_X2_lastEnd [4, 8, 13, 22, 30] 25 ?_
        simp only [e_X2_lastEnd_0, e_X2_lastEnd_1, e_X2_lastEnd_4, e_X2_lastEnd_5, e_X2_lastEnd_6, e_X2_lastEnd_7, e_X2_lastEnd_8, e_X2_lastEnd_9, e_X2_lastEnd_10, e_X2_lastEnd_13, e_X2_lastEnd_16, e_X2_lastEnd_17, e_X2_lastEnd_18, e_X2_lastEnd_19, e_X2_lastEnd_22, e_X2_lastEnd_25, e_X2_lastEnd_26, e_X2_lastEnd_27, e_X2_lastEnd_30, e_X2_lastEnd_31, e_X2_lastEnd_34, e_X2_lastEnd_37, e_X2_lastEnd_38, hci, f_callV, f_goto, f_icmp, f_if0, f_iinc, f_iret, f_loadI, f_loadR, f_push, f_storeI, stN, lget, lput, clrL, lputL, lenLe, lenGe, noL, swL, List.elem_cons, List.elem_nil, List.take_succ_cons, List.take_zero, List.take_nil, List.drop_succ_cons, List.drop_zero, List.reverse_cons, List.reverse_nil, List.nil_append, List.cons_append, Option.toList_some, Option.toList_none, Bool.and_true, Bool.or_false, Bool.false_or, Bool.true_or, Bool.and_self, true_and, and_true, Nat.reduceAdd, Nat.reduceBEq, Int.reduceAdd, Int.reduceNeg, Int.reduceLE, Int.reduceLT, Int.reduceSub, Int.reduceMul, Int.reduceToNat, cEq, cNe, cLt, cGe, cGt, cLe, iR, lR, cl_0, cl_1, cl_4, cl_9, cl_86, al_2, al_3, al_5, al_13, al_6, al_7, al_8, al_10, al_11, al_87, al_88, al_90, al_91, al_92, al_93, al_94, al_95, al_96, al_97, al_98, al_99, al_100, ne_eq, not_true_eq_false, not_false_eq_true, upM_eq, upM_ni, upM_nj, upM_24, upM_48, upM_i24, upM_i48, upM_2448, upM_4824, Nat.reduceEqDiff, reduceCtorEq, or_true, true_or, Int.reduceEq, true_implies, false_implies, Int.reducePow, Int.toNat_natCast]
        obtain ⟨b, hb⟩ := hx
        exact ih (p + 1) (by omega) M2 _ hE2 hC2 hB2 (Or.inr ⟨b, p, hb, rfl, fun _ _ _ _ => by omega⟩)
      · refine Runs.go S.1 mo_X2_lastEnd [4, 8, 13, 22, 30] 25 ?_
        simp only [e_X2_lastEnd_0, e_X2_lastEnd_1, e_X2_lastEnd_4, e_X2_lastEnd_5, e_X2_lastEnd_6, e_X2_lastEnd_7, e_X2_lastEnd_8, e_X2_lastEnd_9, e_X2_lastEnd_10, e_X2_lastEnd_13, e_X2_lastEnd_16, e_X2_lastEnd_17, e_X2_lastEnd_18, e_X2_lastEnd_19, e_X2_lastEnd_22, e_X2_lastEnd_25, e_X2_lastEnd_26, e_X2_lastEnd_27, e_X2_lastEnd_30, e_X2_lastEnd_31, e_X2_lastEnd_34, e_X2_lastEnd_37, e_X2_lastEnd_38, hci, f_callV, f_goto, f_icmp, f_if0, f_iinc, f_iret, f_loadI, f_loadR, f_push, f_storeI, stN, lget, lput, clrL, lputL, lenLe, lenGe, noL, swL, List.elem_cons, List.elem_nil, List.take_succ_cons, List.take_zero, List.take_nil, List.drop_succ_cons, List.drop_zero, List.reverse_cons, List.reverse_nil, List.nil_append, List.cons_append, Option.toList_some, Option.toList_none, Bool.and_true, Bool.or_false, Bool.false_or, Bool.true_or, Bool.and_self, true_and, and_true, Nat.reduceAdd, Nat.reduceBEq, Int.reduceAdd, Int.reduceNeg, Int.reduceLE, Int.reduceLT, Int.reduceSub, Int.reduceMul, Int.reduceToNat, cEq, cNe, cLt, cGe, cGt, cLe, iR, lR, cl_0, cl_1, cl_4, cl_9, cl_86, al_2, al_3, al_5, al_13, al_6, al_7, al_8, al_10, al_11, al_87, al_88, al_90, al_91, al_92, al_93, al_94, al_95, al_96, al_97, al_98, al_99, al_100, ne_eq, not_true_eq_false, not_false_eq_true, upM_eq, upM_ni, upM_nj, upM_24, upM_48, upM_i24, upM_i48, upM_2448, upM_4824, Nat.reduceEqDiff, reduceCtorEq, or_true, true_or, Int.reduceEq, true_implies, false_implies, Int.reducePow, Int.toNat_natCast]
        refine ih (p + 1) (by omega) M2 v hE2 hC2 hB2 ?_
        rcases hv with ⟨h1, h2⟩ | ⟨b, e, h1, h2, h3⟩
        · refine Or.inl ⟨h1, fun b e he z => ?_⟩
          rcases Nat.lt_or_ge e p with q | q
          · exact h2 b e q z
          · rw [show e = p by omega] at z
            exact hx h1l ⟨b, z⟩
        · refine Or.inr ⟨b, e, h1, h2, fun b' e' a he z => ?_⟩
          rcases Nat.lt_or_ge e' p with q | q
          · exact h3 b' e' a q z
          · rw [show e' = p by omega] at z
            exact hx h1l ⟨b', z⟩
  refine en_X2_lastEnd S ?_
  refine Runs.go S.1 mo_X2_lastEnd [4, 8, 13, 22, 30] 25 ?_
  simp only [e_X2_lastEnd_0, e_X2_lastEnd_1, e_X2_lastEnd_4, e_X2_lastEnd_5, e_X2_lastEnd_6, e_X2_lastEnd_7, e_X2_lastEnd_8, e_X2_lastEnd_9, e_X2_lastEnd_10, e_X2_lastEnd_13, e_X2_lastEnd_16, e_X2_lastEnd_17, e_X2_lastEnd_18, e_X2_lastEnd_19, e_X2_lastEnd_22, e_X2_lastEnd_25, e_X2_lastEnd_26, e_X2_lastEnd_27, e_X2_lastEnd_30, e_X2_lastEnd_31, e_X2_lastEnd_34, e_X2_lastEnd_37, e_X2_lastEnd_38, hci, f_callV, f_goto, f_icmp, f_if0, f_iinc, f_iret, f_loadI, f_loadR, f_push, f_storeI, stN, lget, lput, clrL, lputL, lenLe, lenGe, noL, swL, List.elem_cons, List.elem_nil, List.take_succ_cons, List.take_zero, List.take_nil, List.drop_succ_cons, List.drop_zero, List.reverse_cons, List.reverse_nil, List.nil_append, List.cons_append, Option.toList_some, Option.toList_none, Bool.and_true, Bool.or_false, Bool.false_or, Bool.true_or, Bool.and_self, true_and, and_true, Nat.reduceAdd, Nat.reduceBEq, Int.reduceAdd, Int.reduceNeg, Int.reduceLE, Int.reduceLT, Int.reduceSub, Int.reduceMul, Int.reduceToNat, cEq, cNe, cLt, cGe, cGt, cLe, iR, lR, cl_0, cl_1, cl_4, cl_9, cl_86, al_2, al_3, al_5, al_13, al_6, al_7, al_8, al_10, al_11, al_87, al_88, al_90, al_91, al_92, al_93, al_94, al_95, al_96, al_97, al_98, al_99, al_100, ne_eq, not_true_eq_false, not_false_eq_true, upM_eq, upM_ni, upM_nj, upM_24, upM_48, upM_i24, upM_i48, upM_2448, upM_4824, Nat.reduceEqDiff, reduceCtorEq, or_true, true_or, Int.reduceEq, true_implies, false_implies, Int.reducePow, Int.toNat_natCast]
  refine c_X2_loseChains S (fun M2 hE2 hm => ?_)
  refine Runs.go S.1 mo_X2_lastEnd [4, 8, 13, 22, 30] 25 ?_
  simp only [e_X2_lastEnd_0, e_X2_lastEnd_1, e_X2_lastEnd_4, e_X2_lastEnd_5, e_X2_lastEnd_6, e_X2_lastEnd_7, e_X2_lastEnd_8, e_X2_lastEnd_9, e_X2_lastEnd_10, e_X2_lastEnd_13, e_X2_lastEnd_16, e_X2_lastEnd_17, e_X2_lastEnd_18, e_X2_lastEnd_19, e_X2_lastEnd_22, e_X2_lastEnd_25, e_X2_lastEnd_26, e_X2_lastEnd_27, e_X2_lastEnd_30, e_X2_lastEnd_31, e_X2_lastEnd_34, e_X2_lastEnd_37, e_X2_lastEnd_38, hci, f_callV, f_goto, f_icmp, f_if0, f_iinc, f_iret, f_loadI, f_loadR, f_push, f_storeI, stN, lget, lput, clrL, lputL, lenLe, lenGe, noL, swL, List.elem_cons, List.elem_nil, List.take_succ_cons, List.take_zero, List.take_nil, List.drop_succ_cons, List.drop_zero, List.reverse_cons, List.reverse_nil, List.nil_append, List.cons_append, Option.toList_some, Option.toList_none, Bool.and_true, Bool.or_false, Bool.false_or, Bool.true_or, Bool.and_self, true_and, and_true, Nat.reduceAdd, Nat.reduceBEq, Int.reduceAdd, Int.reduceNeg, Int.reduceLE, Int.reduceLT, Int.reduceSub, Int.reduceMul, Int.reduceToNat, cEq, cNe, cLt, cGe, cGt, cLe, iR, lR, cl_0, cl_1, cl_4, cl_9, cl_86, al_2, al_3, al_5, al_13, al_6, al_7, al_8, al_10, al_11, al_87, al_88, al_90, al_91, al_92, al_93, al_94, al_95, al_96, al_97, al_98, al_99, al_100, ne_eq, not_true_eq_false, not_false_eq_true, upM_eq, upM_ni, upM_nj, upM_24, upM_48, upM_i24, upM_i48, upM_2448, upM_4824, Nat.reduceEqDiff, reduceCtorEq, or_true, true_or, Int.reduceEq, true_implies, false_implies, Int.reducePow, Int.toNat_natCast]
  refine loop (nR N i) 0 (by omega) M2 (-1) hE2 (fun k hk => ?_) (fun j hj => ?_) (Or.inl ⟨rfl, fun b e he => by omega⟩)
  · rw [(hm k (by have := hl.1; omega)).1, (hm k (by have := hl.1; omega)).2]
    exact LI.init
  · rw [(hm j hj).1, (hm j hj).2]
    omega
-- which kinds can come behind: bit j of the answer: the row has the pattern with kind j behind it
set_option maxRecDepth 40000 in
set_option maxHeartbeats 4000000 in
theorem c_X2_kindsBehind (S : Snd C) {i : Nat} {l : List Nat} (hi : IRow i) (hl : PL l) (h3l : l.length ≤ 3) (hk : WFk N) (hR : RowOk N i) (hg : WFg N) (hT : TU N l) (k : ∀ w : Nat, w < 65536 → (∀ j, w.testBit j = true ↔ hasR N i (l ++ [j])) → ∀ M2, E67 N M2 → Q (some (vI w)) M2) : C (d + 2) 14 [vR 4, vR i] N Q := by
  have hci := cl_row hi
  have hRn := hR.n
  have hR1 := hR.1
  have h0 : ∀ p, p < nR N i → 0 ≤ tR N i p := fun p h => (hR.t p h).1
  -- the pattern with one more item
  have hcg : ∀ j m b e, m < l.length → (chR N i (l ++ [j]) m b e ↔ chR N i l m b e) := by
    intro j m b e hm
    constructor
    · refine ch.congr (fun x hx => ?_)
      simp [List.getD_eq_getElem?_getD, List.getElem?_append_left (show x < l.length by omega)]
    · refine ch.congr (fun x hx => ?_)
      simp [List.getD_eq_getElem?_getD, List.getElem?_append_left (show x < l.length by omega)]
  have hlast : ∀ j, (l ++ [j]).getD l.length 0 = j := by
    intro j
    simp [List.getD_eq_getElem?_getD]
  have hend : ∀ j p, (∃ b, chR N i (l ++ [j]) l.length b p) ↔ p < nR N i ∧ KR N i p j = true ∧ (l.length = 0 ∨ folR N i l (l.length - 1) p) := by
    intro j p
    cases hlen : l.length with
    | zero =>
      have hl0 := hlast j
      rw [hlen] at hl0
      constructor
      · rintro ⟨b, h1, h2, h3⟩
        have h3 : KR N i p ((l ++ [j]).getD 0 0) = true := h3
        rw [hl0] at h3
        exact ⟨h2, h3, Or.inl rfl⟩
      · rintro ⟨h1, h2, -⟩
        exact ⟨p, rfl, h1, by show KR N i p ((l ++ [j]).getD 0 0) = true; rw [hl0]; exact h2⟩
    | succ m =>
      have hl0 := hlast j
      rw [hlen] at hl0
      have h1 := ch_fol (n := nR N i) (t := tR N i) (K := KR N i) (g := N 4 0) (s := N 4 1) (pt := fun k => (l ++ [j]).getD k 0) (k := m) (p := p)
      rw [h1]
      show _ ∧ KR N i p ((l ++ [j]).getD (m + 1) 0) = true ∧ _ ↔ _
      rw [hl0]
      have h2 : fol (nR N i) (tR N i) (KR N i) (N 4 0) (N 4 1) (fun k => (l ++ [j]).getD k 0) m p ↔ folR N i l m p := by
        constructor
        · rintro ⟨b, q, z1, z2, z3⟩; exact ⟨b, q, z1, (hcg j m b q (by omega)).mp z2, z3⟩
        · rintro ⟨b, q, z1, z2, z3⟩; exact ⟨b, q, z1, (hcg j m b q (by omega)).mpr z2, z3⟩
      rw [h2]
      constructor
      · rintro ⟨a1, a2, a3⟩; exact ⟨a1, a2, Or.inr a3⟩
      · rintro ⟨a1, a2, a3⟩; exact ⟨a1, a2, a3.resolve_left (by omega)⟩
  have loop : ∀ (n p : Nat), p + n = nR N i → ∀ M (w : Nat), E67 N M → CI N M i l p → BC M → w < 65536 → (∀ j, w.testBit j = true ↔ ∃ b e, e < p ∧ chR N i (l ++ [j]) l.length b e) → Runs C (tabF k_X2_kindsBehind) (d + 2) Q 8 [some (vR 4), some (vR i), some (vI w), some (vI p)] [] M := by
    intro n
    induction n with
    | zero =>
      intro p hp M w hE hC hB hw hv
      have hM4 : M i 4 = N i 4 := by rw [hE i (by omega) (by omega)]
      refine Runs.go S.1 mo_X2_kindsBehind [4, 8, 13, 26, 29, 45, 53] 38 ?_
      simp only [e_X2_kindsBehind_0, e_X2_kindsBehind_1, e_X2_kindsBehind_4, e_X2_kindsBehind_5, e_X2_kindsBehind_6, e_X2_kindsBehind_7, e_X2_kindsBehind_8, e_X2_kindsBehind_9, e_X2_kindsBehind_10, e_X2_kindsBehind_13, e_X2_kindsBehind_16, e_X2_kindsBehind_17, e_X2_kindsBehind_18, e_X2_kindsBehind_21, e_X2_kindsBehind_22, e_X2_kindsBehind_23, e_X2_kindsBehind_26, e_X2_kindsBehind_29, e_X2_kindsBehind_32, e_X2_kindsBehind_33, e_X2_kindsBehind_34, e_X2_kindsBehind_35, e_X2_kindsBehind_36, e_X2_kindsBehind_39, e_X2_kindsBehind_42, e_X2_kindsBehind_45, e_X2_kindsBehind_46, e_X2_kindsBehind_47, e_X2_kindsBehind_48, e_X2_kindsBehind_49, e_X2_kindsBehind_50, e_X2_kindsBehind_53, e_X2_kindsBehind_54, e_X2_kindsBehind_57, e_X2_kindsBehind_60, e_X2_kindsBehind_61, hci, f_callV, f_getI, f_getR, f_goto, f_icmp, f_if0, f_iinc, f_iret, f_loadI, f_loadR, f_or, f_pop, f_push, f_storeI, stN, lget, lput, clrL, lputL, lenLe, lenGe, noL, swL, List.elem_cons, List.elem_nil, List.take_succ_cons, List.take_zero, List.take_nil, List.drop_succ_cons, List.drop_zero, List.reverse_cons, List.reverse_nil, List.nil_append, List.cons_append, Option.toList_some, Option.toList_none, Bool.and_true, Bool.or_false, Bool.false_or, Bool.true_or, Bool.and_self, true_and, and_true, Nat.reduceAdd, Nat.reduceBEq, Int.reduceAdd, Int.reduceNeg, Int.reduceLE, Int.reduceLT, Int.reduceSub, Int.reduceMul, Int.reduceToNat, cEq, cNe, cLt, cGe, cGt, cLe, iR, lR, cl_0, cl_1, cl_4, cl_9, cl_86, al_2, al_3, al_5, al_13, al_6, al_7, al_8, al_10, al_11, al_87, al_88, al_90, al_91, al_92, al_93, al_94, al_95, al_96, al_97, al_98, al_99, al_100, ne_eq, not_true_eq_false, not_false_eq_true, upM_eq, upM_ni, upM_nj, upM_24, upM_48, upM_i24, upM_i48, upM_2448, upM_4824, Nat.reduceEqDiff, reduceCtorEq, or_true, true_or, Int.reduceEq, true_implies, false_implies, Int.reducePow, Int.toNat_natCast]
      refine c_X4_size S hi ?_
      rw [hM4]
      refine Runs.go S.1 mo_X2_kindsBehind [4, 8, 13, 26, 29, 45, 53] 38 ?_
      simp only [e_X2_kindsBehind_0, e_X2_kindsBehind_1, e_X2_kindsBehind_4, e_X2_kindsBehind_5, e_X2_kindsBehind_6, e_X2_kindsBehind_7, e_X2_kindsBehind_8, e_X2_kindsBehind_9, e_X2_kindsBehind_10, e_X2_kindsBehind_13, e_X2_kindsBehind_16, e_X2_kindsBehind_17, e_X2_kindsBehind_18, e_X2_kindsBehind_21, e_X2_kindsBehind_22, e_X2_kindsBehind_23, e_X2_kindsBehind_26, e_X2_kindsBehind_29, e_X2_kindsBehind_32, e_X2_kindsBehind_33, e_X2_kindsBehind_34, e_X2_kindsBehind_35, e_X2_kindsBehind_36, e_X2_kindsBehind_39, e_X2_kindsBehind_42, e_X2_kindsBehind_45, e_X2_kindsBehind_46, e_X2_kindsBehind_47, e_X2_kindsBehind_48, e_X2_kindsBehind_49, e_X2_kindsBehind_50, e_X2_kindsBehind_53, e_X2_kindsBehind_54, e_X2_kindsBehind_57, e_X2_kindsBehind_60, e_X2_kindsBehind_61, hci, f_callV, f_getI, f_getR, f_goto, f_icmp, f_if0, f_iinc, f_iret, f_loadI, f_loadR, f_or, f_pop, f_push, f_storeI, stN, lget, lput, clrL, lputL, lenLe, lenGe, noL, swL, List.elem_cons, List.elem_nil, List.take_succ_cons, List.take_zero, List.take_nil, List.drop_succ_cons, List.drop_zero, List.reverse_cons, List.reverse_nil, List.nil_append, List.cons_append, Option.toList_some, Option.toList_none, Bool.and_true, Bool.or_false, Bool.false_or, Bool.true_or, Bool.and_self, true_and, and_true, Nat.reduceAdd, Nat.reduceBEq, Int.reduceAdd, Int.reduceNeg, Int.reduceLE, Int.reduceLT, Int.reduceSub, Int.reduceMul, Int.reduceToNat, cEq, cNe, cLt, cGe, cGt, cLe, iR, lR, cl_0, cl_1, cl_4, cl_9, cl_86, al_2, al_3, al_5, al_13, al_6, al_7, al_8, al_10, al_11, al_87, al_88, al_90, al_91, al_92, al_93, al_94, al_95, al_96, al_97, al_98, al_99, al_100, ne_eq, not_true_eq_false, not_false_eq_true, upM_eq, upM_ni, upM_nj, upM_24, upM_48, upM_i24, upM_i48, upM_2448, upM_4824, Nat.reduceEqDiff, reduceCtorEq, or_true, true_or, Int.reduceEq, true_implies, false_implies, Int.reducePow, Int.toNat_natCast]
      refine ⟨by omega, by omega, fun _ => k w hw (fun j => ?_) M hE, fun z => by omega⟩
      rw [hv j]
      unfold hasR
      rw [show (l ++ [j]).length - 1 = l.length by simp]
      constructor
      · rintro ⟨b, e, -, z⟩; exact ⟨b, e, z⟩
      · rintro ⟨b, e, z⟩; exact ⟨b, e, by have := (ch.lt z).1; omega, z⟩
    | succ n ih =>
      intro p hp M w hE hC hB hw hv
      have hM4 : M i 4 = N i 4 := by rw [hE i (by omega) (by omega)]
      have hRM : RowOk M i := hR.congr (hE i (by omega) (by omega)) (hE (i + 24) (by omega) (by omega)) (hE (i + 48) (by omega) (by omega))
      have htk : tkA M i p = tR N i p := by
        rw [← tk_in hR (show p < nR N i by omega)]; unfold tkA; rw [hE i (by omega) (by omega), hE (i + 24) (by omega) (by omega)]
      have hti := hR.t p (by omega)
      have hlenM : M 4 3 = l.length := by rw [hE 4 (by decide) (by decide)]; exact hT.1
      have hg3 : M 4 = N 4 := hE 4 (by decide) (by decide)
      have hg2 : WFg M := by unfold WFg; rw [hg3]; exact hg
      have hkp := hR.k p (by omega)
      have hfol : (l.length = 0 ∨ (M 7 (l.length - 1) ≠ -1 ∧ tR N i p - M 7 (l.length - 1) ≤ M 4 0 ∧ tR N i p - M 6 (l.length - 1) ≤ M 4 1)) ↔ (l.length = 0 ∨ folR N i l (l.length - 1) p) := by
        by_cases q : l.length = 0
        · simp [q]
        · rw [hg3]
          have := LI_fol hR.s h0 (hC (l.length - 1) (by omega)) (show p < nR N i by omega)
          simp only [q, false_or]
          exact this
      -- what one more place adds
      have add : ∀ w2 : Nat, w2 < 65536 → (∀ j, w2.testBit j = true ↔ w.testBit j = true ∨ (KR N i p j = true ∧ (l.length = 0 ∨ folR N i l (l.length - 1) p))) → C (d + 1) 16 [vR 4, vR i, vI p] M fun r M2 => Runs C (tabF k_X2_kindsBehind) (d + 2) Q 53 [some (vR 4), some (vR i), some (vI w2), some (vI p)] (r.toList ++ []) M2 := by
        intro w2 hw2 hw3
        have go : ∀ M2, E67 N M2 → CI N M2 i l (p + 1) → BC M2 → Runs C (tabF k_X2_kindsBehind) (d + 2) Q 8 [some (vR 4), some (vR i), some (vI w2), some (vI ((p : Int) + 1))] [] M2 := fun M2 hE2 hC2 hB2 => by
          refine ih (p + 1) (by omega) M2 w2 hE2 hC2 hB2 hw2 (fun j => ?_)
          rw [hw3 j, hv j]
          have he := hend j p
          constructor
          · rintro (⟨b, e, z1, z2⟩ | ⟨z1, z2⟩)
            · exact ⟨b, e, by omega, z2⟩
            · obtain ⟨b, z⟩ := he.mpr ⟨by omega, z1, z2⟩
              exact ⟨b, p, by omega, z⟩
          · rintro ⟨b, e, z1, z2⟩
            rcases Nat.lt_or_ge e p with q | q
            · exact Or.inl ⟨b, e, q, z2⟩
            · rw [show e = p by omega] at z2
              exact Or.inr (he.mp ⟨b, z2⟩).2
        refine c_X2_endsMatch S hi hl hR hg hT hE (by omega) hC hB (fun _ hx M2 hE2 hC2 hB2 => ?_) (fun hx M2 hE2 hC2 hB2 => ?_)
        · refine Runs.go S.1 mo_X2_kindsBehind [4, 8, 13, 26, 29, 45, 53] 38 ?_
          simp only [e_X2_kindsBehind_0, e_X2_kindsBehind_1, e_X2_kindsBehind_4, e_X2_kindsBehind_5, e_X2_kindsBehind_6, e_X2_kindsBehind_7, e_X2_kindsBehind_8, e_X2_kindsBehind_9, e_X2_kindsBehind_10, e_X2_kindsBehind_13, e_X2_kindsBehind_16, e_X2_kindsBehind_17, e_X2_kindsBehind_18, e_X2_kindsBehind_21, e_X2_kindsBehind_22, e_X2_kindsBehind_23, e_X2_kindsBehind_26, e_X2_kindsBehind_29, e_X2_kindsBehind_32, e_X2_kindsBehind_33, e_X2_kindsBehind_34, e_X2_kindsBehind_35, e_X2_kindsBehind_36, e_X2_kindsBehind_39, e_X2_kindsBehind_42, e_X2_kindsBehind_45, e_X2_kindsBehind_46, e_X2_kindsBehind_47, e_X2_kindsBehind_48, e_X2_kindsBehind_49, e_X2_kindsBehind_50, e_X2_kindsBehind_53, e_X2_kindsBehind_54, e_X2_kindsBehind_57, e_X2_kindsBehind_60, e_X2_kindsBehind_61, hci, f_callV, f_getI, f_getR, f_goto, f_icmp, f_if0, f_iinc, f_iret, f_loadI, f_loadR, f_or, f_pop, f_push, f_storeI, stN, lget, lput, clrL, lputL, lenLe, lenGe, noL, swL, List.elem_cons, List.elem_nil, List.take_succ_cons, List.take_zero, List.take_nil, List.drop_succ_cons, List.drop_zero, List.reverse_cons, List.reverse_nil, List.nil_append, List.cons_append, Option.toList_some, Option.toList_none, Bool.and_true, Bool.or_false, Bool.false_or, Bool.true_or, Bool.and_self, true_and, and_true, Nat.reduceAdd, Nat.reduceBEq, Int.reduceAdd, Int.reduceNeg, Int.reduceLE, Int.reduceLT, Int.reduceSub, Int.reduceMul, Int.reduceToNat, cEq, cNe, cLt, cGe, cGt, cLe, iR, lR, cl_0, cl_1, cl_4, cl_9, cl_86, al_2, al_3, al_5, al_13, al_6, al_7, al_8, al_10, al_11, al_87, al_88, al_90, al_91, al_92, al_93, al_94, al_95, al_96, al_97, al_98, al_99, al_100, ne_eq, not_true_eq_false, not_false_eq_true, upM_eq, upM_ni, upM_nj, upM_24, upM_48, upM_i24, upM_i48, upM_2448, upM_4824, Nat.reduceEqDiff, reduceCtorEq, or_true, true_or, Int.reduceEq, true_implies, false_implies, Int.reducePow, Int.toNat_natCast]
          exact go M2 hE2 hC2 hB2
        · refine Runs.go S.1 mo_X2_kindsBehind [4, 8, 13, 26, 29, 45, 53] 38 ?_
          simp only [e_X2_kindsBehind_0, e_X2_kindsBehind_1, e_X2_kindsBehind_4, e_X2_kindsBehind_5, e_X2_kindsBehind_6, e_X2_kindsBehind_7, e_X2_kindsBehind_8, e_X2_kindsBehind_9, e_X2_kindsBehind_10, e_X2_kindsBehind_13, e_X2_kindsBehind_16, e_X2_kindsBehind_17, e_X2_kindsBehind_18, e_X2_kindsBehind_21, e_X2_kindsBehind_22, e_X2_kindsBehind_23, e_X2_kindsBehind_26, e_X2_kindsBehind_29, e_X2_kindsBehind_32, e_X2_kindsBehind_33, e_X2_kindsBehind_34, e_X2_kindsBehind_35, e_X2_kindsBehind_36, e_X2_kindsBehind_39, e_X2_kindsBehind_42, e_X2_kindsBehind_45, e_X2_kindsBehind_46, e_X2_kindsBehind_47, e_X2_kindsBehind_48, e_X2_kindsBehind_49, e_X2_kindsBehind_50, e_X2_kindsBehind_53, e_X2_kindsBehind_54, e_X2_kindsBehind_57, e_X2_kindsBehind_60, e_X2_kindsBehind_61, hci, f_callV, f_getI, f_getR, f_goto, f_icmp, f_if0, f_iinc, f_iret, f_loadI, f_loadR, f_or, f_pop, f_push, f_storeI, stN, lget, lput, clrL, lputL, lenLe, lenGe, noL, swL, List.elem_cons, List.elem_nil, List.take_succ_cons, List.take_zero, List.take_nil, List.drop_succ_cons, List.drop_zero, List.reverse_cons, List.reverse_nil, List.nil_append, List.cons_append, Option.toList_some, Option.toList_none, Bool.and_true, Bool.or_false, Bool.false_or, Bool.true_or, Bool.and_self, true_and, and_true, Nat.reduceAdd, Nat.reduceBEq, Int.reduceAdd, Int.reduceNeg, Int.reduceLE, Int.reduceLT, Int.reduceSub, Int.reduceMul, Int.reduceToNat, cEq, cNe, cLt, cGe, cGt, cLe, iR, lR, cl_0, cl_1, cl_4, cl_9, cl_86, al_2, al_3, al_5, al_13, al_6, al_7, al_8, al_10, al_11, al_87, al_88, al_90, al_91, al_92, al_93, al_94, al_95, al_96, al_97, al_98, al_99, al_100, ne_eq, not_true_eq_false, not_false_eq_true, upM_eq, upM_ni, upM_nj, upM_24, upM_48, upM_i24, upM_i48, upM_2448, upM_4824, Nat.reduceEqDiff, reduceCtorEq, or_true, true_or, Int.reduceEq, true_implies, false_implies, Int.reducePow, Int.toNat_natCast]
          exact go M2 hE2 hC2 hB2
      refine Runs.go S.1 mo_X2_kindsBehind [4, 8, 13, 26, 29, 45, 53] 38 ?_
      simp only [e_X2_kindsBehind_0, e_X2_kindsBehind_1, e_X2_kindsBehind_4, e_X2_kindsBehind_5, e_X2_kindsBehind_6, e_X2_kindsBehind_7, e_X2_kindsBehind_8, e_X2_kindsBehind_9, e_X2_kindsBehind_10, e_X2_kindsBehind_13, e_X2_kindsBehind_16, e_X2_kindsBehind_17, e_X2_kindsBehind_18, e_X2_kindsBehind_21, e_X2_kindsBehind_22, e_X2_kindsBehind_23, e_X2_kindsBehind_26, e_X2_kindsBehind_29, e_X2_kindsBehind_32, e_X2_kindsBehind_33, e_X2_kindsBehind_34, e_X2_kindsBehind_35, e_X2_kindsBehind_36, e_X2_kindsBehind_39, e_X2_kindsBehind_42, e_X2_kindsBehind_45, e_X2_kindsBehind_46, e_X2_kindsBehind_47, e_X2_kindsBehind_48, e_X2_kindsBehind_49, e_X2_kindsBehind_50, e_X2_kindsBehind_53, e_X2_kindsBehind_54, e_X2_kindsBehind_57, e_X2_kindsBehind_60, e_X2_kindsBehind_61, hci, f_callV, f_getI, f_getR, f_goto, f_icmp, f_if0, f_iinc, f_iret, f_loadI, f_loadR, f_or, f_pop, f_push, f_storeI, stN, lget, lput, clrL, lputL, lenLe, lenGe, noL, swL, List.elem_cons, List.elem_nil, List.take_succ_cons, List.take_zero, List.take_nil, List.drop_succ_cons, List.drop_zero, List.reverse_cons, List.reverse_nil, List.nil_append, List.cons_append, Option.toList_some, Option.toList_none, Bool.and_true, Bool.or_false, Bool.false_or, Bool.true_or, Bool.and_self, true_and, and_true, Nat.reduceAdd, Nat.reduceBEq, Int.reduceAdd, Int.reduceNeg, Int.reduceLE, Int.reduceLT, Int.reduceSub, Int.reduceMul, Int.reduceToNat, cEq, cNe, cLt, cGe, cGt, cLe, iR, lR, cl_0, cl_1, cl_4, cl_9, cl_86, al_2, al_3, al_5, al_13, al_6, al_7, al_8, al_10, al_11, al_87, al_88, al_90, al_91, al_92, al_93, al_94, al_95, al_96, al_97, al_98, al_99, al_100, ne_eq, not_true_eq_false, not_false_eq_true, upM_eq, upM_ni, upM_nj, upM_24, upM_48, upM_i24, upM_i48, upM_2448, upM_4824, Nat.reduceEqDiff, reduceCtorEq, or_true, true_or, Int.reduceEq, true_implies, false_implies, Int.reducePow, Int.toNat_natCast]
      refine c_X4_size S hi ?_
      rw [hM4]
      refine Runs.go S.1 mo_X2_kindsBehind [4, 8, 13, 26, 29, 45, 53] 38 ?_
      simp only [e_X2_kindsBehind_0, e_X2_kindsBehind_1, e_X2_kindsBehind_4, e_X2_kindsBehind_5, e_X2_kindsBehind_6, e_X2_kindsBehind_7, e_X2_kindsBehind_8, e_X2_kindsBehind_9, e_X2_kindsBehind_10, e_X2_kindsBehind_13, e_X2_kindsBehind_16, e_X2_kindsBehind_17, e_X2_kindsBehind_18, e_X2_kindsBehind_21, e_X2_kindsBehind_22, e_X2_kindsBehind_23, e_X2_kindsBehind_26, e_X2_kindsBehind_29, e_X2_kindsBehind_32, e_X2_kindsBehind_33, e_X2_kindsBehind_34, e_X2_kindsBehind_35, e_X2_kindsBehind_36, e_X2_kindsBehind_39, e_X2_kindsBehind_42, e_X2_kindsBehind_45, e_X2_kindsBehind_46, e_X2_kindsBehind_47, e_X2_kindsBehind_48, e_X2_kindsBehind_49, e_X2_kindsBehind_50, e_X2_kindsBehind_53, e_X2_kindsBehind_54, e_X2_kindsBehind_57, e_X2_kindsBehind_60, e_X2_kindsBehind_61, hci, hlenM, f_callV, f_getI, f_getR, f_goto, f_icmp, f_if0, f_iinc, f_iret, f_loadI, f_loadR, f_or, f_pop, f_push, f_storeI, stN, lget, lput, clrL, lputL, lenLe, lenGe, noL, swL, List.elem_cons, List.elem_nil, List.take_succ_cons, List.take_zero, List.take_nil, List.drop_succ_cons, List.drop_zero, List.reverse_cons, List.reverse_nil, List.nil_append, List.cons_append, Option.toList_some, Option.toList_none, Bool.and_true, Bool.or_false, Bool.false_or, Bool.true_or, Bool.and_self, true_and, and_true, Nat.reduceAdd, Nat.reduceBEq, Int.reduceAdd, Int.reduceNeg, Int.reduceLE, Int.reduceLT, Int.reduceSub, Int.reduceMul, Int.reduceToNat, cEq, cNe, cLt, cGe, cGt, cLe, iR, lR, cl_0, cl_1, cl_4, cl_9, cl_86, al_2, al_3, al_5, al_13, al_6, al_7, al_8, al_10, al_11, al_87, al_88, al_90, al_91, al_92, al_93, al_94, al_95, al_96, al_97, al_98, al_99, al_100, ne_eq, not_true_eq_false, not_false_eq_true, upM_eq, upM_ni, upM_nj, upM_24, upM_48, upM_i24, upM_i48, upM_2448, upM_4824, Nat.reduceEqDiff, reduceCtorEq, or_true, true_or, Int.reduceEq, true_implies, false_implies, Int.reducePow, Int.toNat_natCast]
      refine ⟨by omega, by omega, fun z => by omega, fun _ => ?_⟩
      refine c_X4_tickAt S (x := (p : Int)) hi ⟨by omega, by omega⟩ hRM ?_
      rw [htk]
      refine Runs.go S.1 mo_X2_kindsBehind [4, 8, 13, 26, 29, 45, 53] 38 ?_
      simp only [e_X2_kindsBehind_0, e_X2_kindsBehind_1, e_X2_kindsBehind_4, e_X2_kindsBehind_5, e_X2_kindsBehind_6, e_X2_kindsBehind_7, e_X2_kindsBehind_8, e_X2_kindsBehind_9, e_X2_kindsBehind_10, e_X2_kindsBehind_13, e_X2_kindsBehind_16, e_X2_kindsBehind_17, e_X2_kindsBehind_18, e_X2_kindsBehind_21, e_X2_kindsBehind_22, e_X2_kindsBehind_23, e_X2_kindsBehind_26, e_X2_kindsBehind_29, e_X2_kindsBehind_32, e_X2_kindsBehind_33, e_X2_kindsBehind_34, e_X2_kindsBehind_35, e_X2_kindsBehind_36, e_X2_kindsBehind_39, e_X2_kindsBehind_42, e_X2_kindsBehind_45, e_X2_kindsBehind_46, e_X2_kindsBehind_47, e_X2_kindsBehind_48, e_X2_kindsBehind_49, e_X2_kindsBehind_50, e_X2_kindsBehind_53, e_X2_kindsBehind_54, e_X2_kindsBehind_57, e_X2_kindsBehind_60, e_X2_kindsBehind_61, hci, f_callV, f_getI, f_getR, f_goto, f_icmp, f_if0, f_iinc, f_iret, f_loadI, f_loadR, f_or, f_pop, f_push, f_storeI, stN, lget, lput, clrL, lputL, lenLe, lenGe, noL, swL, List.elem_cons, List.elem_nil, List.take_succ_cons, List.take_zero, List.take_nil, List.drop_succ_cons, List.drop_zero, List.reverse_cons, List.reverse_nil, List.nil_append, List.cons_append, Option.toList_some, Option.toList_none, Bool.and_true, Bool.or_false, Bool.false_or, Bool.true_or, Bool.and_self, true_and, and_true, Nat.reduceAdd, Nat.reduceBEq, Int.reduceAdd, Int.reduceNeg, Int.reduceLE, Int.reduceLT, Int.reduceSub, Int.reduceMul, Int.reduceToNat, cEq, cNe, cLt, cGe, cGt, cLe, iR, lR, cl_0, cl_1, cl_4, cl_9, cl_86, al_2, al_3, al_5, al_13, al_6, al_7, al_8, al_10, al_11, al_87, al_88, al_90, al_91, al_92, al_93, al_94, al_95, al_96, al_97, al_98, al_99, al_100, ne_eq, not_true_eq_false, not_false_eq_true, upM_eq, upM_ni, upM_nj, upM_24, upM_48, upM_i24, upM_i48, upM_2448, upM_4824, Nat.reduceEqDiff, reduceCtorEq, or_true, true_or, Int.reduceEq, true_implies, false_implies, Int.reducePow, Int.toNat_natCast]
      refine c_X2_canFollow S (by omega) (by omega) hg2.1 hg2.2 hB (fun hf => ?_) (fun hf => ?_)
      · refine Runs.go S.1 mo_X2_kindsBehind [4, 8, 13, 26, 29, 45, 53] 38 ?_
        simp only [e_X2_kindsBehind_0, e_X2_kindsBehind_1, e_X2_kindsBehind_4, e_X2_kindsBehind_5, e_X2_kindsBehind_6, e_X2_kindsBehind_7, e_X2_kindsBehind_8, e_X2_kindsBehind_9, e_X2_kindsBehind_10, e_X2_kindsBehind_13, e_X2_kindsBehind_16, e_X2_kindsBehind_17, e_X2_kindsBehind_18, e_X2_kindsBehind_21, e_X2_kindsBehind_22, e_X2_kindsBehind_23, e_X2_kindsBehind_26, e_X2_kindsBehind_29, e_X2_kindsBehind_32, e_X2_kindsBehind_33, e_X2_kindsBehind_34, e_X2_kindsBehind_35, e_X2_kindsBehind_36, e_X2_kindsBehind_39, e_X2_kindsBehind_42, e_X2_kindsBehind_45, e_X2_kindsBehind_46, e_X2_kindsBehind_47, e_X2_kindsBehind_48, e_X2_kindsBehind_49, e_X2_kindsBehind_50, e_X2_kindsBehind_53, e_X2_kindsBehind_54, e_X2_kindsBehind_57, e_X2_kindsBehind_60, e_X2_kindsBehind_61, hci, f_callV, f_getI, f_getR, f_goto, f_icmp, f_if0, f_iinc, f_iret, f_loadI, f_loadR, f_or, f_pop, f_push, f_storeI, stN, lget, lput, clrL, lputL, lenLe, lenGe, noL, swL, List.elem_cons, List.elem_nil, List.take_succ_cons, List.take_zero, List.take_nil, List.drop_succ_cons, List.drop_zero, List.reverse_cons, List.reverse_nil, List.nil_append, List.cons_append, Option.toList_some, Option.toList_none, Bool.and_true, Bool.or_false, Bool.false_or, Bool.true_or, Bool.and_self, true_and, and_true, Nat.reduceAdd, Nat.reduceBEq, Int.reduceAdd, Int.reduceNeg, Int.reduceLE, Int.reduceLT, Int.reduceSub, Int.reduceMul, Int.reduceToNat, cEq, cNe, cLt, cGe, cGt, cLe, iR, lR, cl_0, cl_1, cl_4, cl_9, cl_86, al_2, al_3, al_5, al_13, al_6, al_7, al_8, al_10, al_11, al_87, al_88, al_90, al_91, al_92, al_93, al_94, al_95, al_96, al_97, al_98, al_99, al_100, ne_eq, not_true_eq_false, not_false_eq_true, upM_eq, upM_ni, upM_nj, upM_24, upM_48, upM_i24, upM_i48, upM_2448, upM_4824, Nat.reduceEqDiff, reduceCtorEq, or_true, true_or, Int.reduceEq, true_implies, false_implies, Int.reducePow, Int.toNat_natCast]
        refine c_X4_bitsAt S (a := 2) (x := (p : Int)) hi ⟨by omega, by omega⟩ hRM rfl ?_
        have hbt : btA M 2 i p = ((clm (N 3) 16 (N (i + 48) p) : Nat) : Int) := by
          rw [btA_in (by omega) (by omega), Int.toNat_natCast, hE (i + 48) (by omega) (by omega), hE 2 (by decide) (by decide), (hk (N (i + 48) p).toNat (by omega)).2, show (((N (i + 48) p).toNat : Nat) : Int) = N (i + 48) p by omega]
        have hclm : clm (N 3) 16 (N (i + 48) p) < 65536 := by
          have := clm.lt (hk (N (i + 48) p).toNat (by omega)).1
          rwa [show (((N (i + 48) p).toNat : Nat) : Int) = N (i + 48) p by omega] at this
        rw [hbt]
        refine Runs.go S.1 mo_X2_kindsBehind [4, 8, 13, 26, 29, 45, 53] 38 ?_
        simp only [e_X2_kindsBehind_0, e_X2_kindsBehind_1, e_X2_kindsBehind_4, e_X2_kindsBehind_5, e_X2_kindsBehind_6, e_X2_kindsBehind_7, e_X2_kindsBehind_8, e_X2_kindsBehind_9, e_X2_kindsBehind_10, e_X2_kindsBehind_13, e_X2_kindsBehind_16, e_X2_kindsBehind_17, e_X2_kindsBehind_18, e_X2_kindsBehind_21, e_X2_kindsBehind_22, e_X2_kindsBehind_23, e_X2_kindsBehind_26, e_X2_kindsBehind_29, e_X2_kindsBehind_32, e_X2_kindsBehind_33, e_X2_kindsBehind_34, e_X2_kindsBehind_35, e_X2_kindsBehind_36, e_X2_kindsBehind_39, e_X2_kindsBehind_42, e_X2_kindsBehind_45, e_X2_kindsBehind_46, e_X2_kindsBehind_47, e_X2_kindsBehind_48, e_X2_kindsBehind_49, e_X2_kindsBehind_50, e_X2_kindsBehind_53, e_X2_kindsBehind_54, e_X2_kindsBehind_57, e_X2_kindsBehind_60, e_X2_kindsBehind_61, hci, f_callV, f_getI, f_getR, f_goto, f_icmp, f_if0, f_iinc, f_iret, f_loadI, f_loadR, f_or, f_pop, f_push, f_storeI, stN, lget, lput, clrL, lputL, lenLe, lenGe, noL, swL, List.elem_cons, List.elem_nil, List.take_succ_cons, List.take_zero, List.take_nil, List.drop_succ_cons, List.drop_zero, List.reverse_cons, List.reverse_nil, List.nil_append, List.cons_append, Option.toList_some, Option.toList_none, Bool.and_true, Bool.or_false, Bool.false_or, Bool.true_or, Bool.and_self, true_and, and_true, Nat.reduceAdd, Nat.reduceBEq, Int.reduceAdd, Int.reduceNeg, Int.reduceLE, Int.reduceLT, Int.reduceSub, Int.reduceMul, Int.reduceToNat, cEq, cNe, cLt, cGe, cGt, cLe, iR, lR, cl_0, cl_1, cl_4, cl_9, cl_86, al_2, al_3, al_5, al_13, al_6, al_7, al_8, al_10, al_11, al_87, al_88, al_90, al_91, al_92, al_93, al_94, al_95, al_96, al_97, al_98, al_99, al_100, ne_eq, not_true_eq_false, not_false_eq_true, upM_eq, upM_ni, upM_nj, upM_24, upM_48, upM_i24, upM_i48, upM_2448, upM_4824, Nat.reduceEqDiff, reduceCtorEq, or_true, true_or, Int.reduceEq, true_implies, false_implies, Int.reducePow, Int.toNat_natCast]
        rw [bOr_nat (by omega) (by omega)]
        refine add _ (Nat.or_lt_two_pow (n := 16) hw hclm) (fun j => ?_)
        rw [Nat.testBit_or, Bool.or_eq_true]
        constructor
        · rintro (z | z)
          · exact Or.inl z
          · exact Or.inr ⟨z, hfol.mp hf⟩
        · rintro (z | z)
          · exact Or.inl z
          · exact Or.inr z.1
      · refine Runs.go S.1 mo_X2_kindsBehind [4, 8, 13, 26, 29, 45, 53] 38 ?_
        simp only [e_X2_kindsBehind_0, e_X2_kindsBehind_1, e_X2_kindsBehind_4, e_X2_kindsBehind_5, e_X2_kindsBehind_6, e_X2_kindsBehind_7, e_X2_kindsBehind_8, e_X2_kindsBehind_9, e_X2_kindsBehind_10, e_X2_kindsBehind_13, e_X2_kindsBehind_16, e_X2_kindsBehind_17, e_X2_kindsBehind_18, e_X2_kindsBehind_21, e_X2_kindsBehind_22, e_X2_kindsBehind_23, e_X2_kindsBehind_26, e_X2_kindsBehind_29, e_X2_kindsBehind_32, e_X2_kindsBehind_33, e_X2_kindsBehind_34, e_X2_kindsBehind_35, e_X2_kindsBehind_36, e_X2_kindsBehind_39, e_X2_kindsBehind_42, e_X2_kindsBehind_45, e_X2_kindsBehind_46, e_X2_kindsBehind_47, e_X2_kindsBehind_48, e_X2_kindsBehind_49, e_X2_kindsBehind_50, e_X2_kindsBehind_53, e_X2_kindsBehind_54, e_X2_kindsBehind_57, e_X2_kindsBehind_60, e_X2_kindsBehind_61, hci, f_callV, f_getI, f_getR, f_goto, f_icmp, f_if0, f_iinc, f_iret, f_loadI, f_loadR, f_or, f_pop, f_push, f_storeI, stN, lget, lput, clrL, lputL, lenLe, lenGe, noL, swL, List.elem_cons, List.elem_nil, List.take_succ_cons, List.take_zero, List.take_nil, List.drop_succ_cons, List.drop_zero, List.reverse_cons, List.reverse_nil, List.nil_append, List.cons_append, Option.toList_some, Option.toList_none, Bool.and_true, Bool.or_false, Bool.false_or, Bool.true_or, Bool.and_self, true_and, and_true, Nat.reduceAdd, Nat.reduceBEq, Int.reduceAdd, Int.reduceNeg, Int.reduceLE, Int.reduceLT, Int.reduceSub, Int.reduceMul, Int.reduceToNat, cEq, cNe, cLt, cGe, cGt, cLe, iR, lR, cl_0, cl_1, cl_4, cl_9, cl_86, al_2, al_3, al_5, al_13, al_6, al_7, al_8, al_10, al_11, al_87, al_88, al_90, al_91, al_92, al_93, al_94, al_95, al_96, al_97, al_98, al_99, al_100, ne_eq, not_true_eq_false, not_false_eq_true, upM_eq, upM_ni, upM_nj, upM_24, upM_48, upM_i24, upM_i48, upM_2448, upM_4824, Nat.reduceEqDiff, reduceCtorEq, or_true, true_or, Int.reduceEq, true_implies, false_implies, Int.reducePow, Int.toNat_natCast]
        refine add w hw (fun j => ?_)
        constructor
        · exact Or.inl
        · rintro (z | z)
          · exact z
          · exact absurd (hfol.mpr z.2) hf
  refine en_X2_kindsBehind S ?_
  refine Runs.go S.1 mo_X2_kindsBehind [4, 8, 13, 26, 29, 45, 53] 38 ?_
  simp only [e_X2_kindsBehind_0, e_X2_kindsBehind_1, e_X2_kindsBehind_4, e_X2_kindsBehind_5, e_X2_kindsBehind_6, e_X2_kindsBehind_7, e_X2_kindsBehind_8, e_X2_kindsBehind_9, e_X2_kindsBehind_10, e_X2_kindsBehind_13, e_X2_kindsBehind_16, e_X2_kindsBehind_17, e_X2_kindsBehind_18, e_X2_kindsBehind_21, e_X2_kindsBehind_22, e_X2_kindsBehind_23, e_X2_kindsBehind_26, e_X2_kindsBehind_29, e_X2_kindsBehind_32, e_X2_kindsBehind_33, e_X2_kindsBehind_34, e_X2_kindsBehind_35, e_X2_kindsBehind_36, e_X2_kindsBehind_39, e_X2_kindsBehind_42, e_X2_kindsBehind_45, e_X2_kindsBehind_46, e_X2_kindsBehind_47, e_X2_kindsBehind_48, e_X2_kindsBehind_49, e_X2_kindsBehind_50, e_X2_kindsBehind_53, e_X2_kindsBehind_54, e_X2_kindsBehind_57, e_X2_kindsBehind_60, e_X2_kindsBehind_61, hci, f_callV, f_getI, f_getR, f_goto, f_icmp, f_if0, f_iinc, f_iret, f_loadI, f_loadR, f_or, f_pop, f_push, f_storeI, stN, lget, lput, clrL, lputL, lenLe, lenGe, noL, swL, List.elem_cons, List.elem_nil, List.take_succ_cons, List.take_zero, List.take_nil, List.drop_succ_cons, List.drop_zero, List.reverse_cons, List.reverse_nil, List.nil_append, List.cons_append, Option.toList_some, Option.toList_none, Bool.and_true, Bool.or_false, Bool.false_or, Bool.true_or, Bool.and_self, true_and, and_true, Nat.reduceAdd, Nat.reduceBEq, Int.reduceAdd, Int.reduceNeg, Int.reduceLE, Int.reduceLT, Int.reduceSub, Int.reduceMul, Int.reduceToNat, cEq, cNe, cLt, cGe, cGt, cLe, iR, lR, cl_0, cl_1, cl_4, cl_9, cl_86, al_2, al_3, al_5, al_13, al_6, al_7, al_8, al_10, al_11, al_87, al_88, al_90, al_91, al_92, al_93, al_94, al_95, al_96, al_97, al_98, al_99, al_100, ne_eq, not_true_eq_false, not_false_eq_true, upM_eq, upM_ni, upM_nj, upM_24, upM_48, upM_i24, upM_i48, upM_2448, upM_4824, Nat.reduceEqDiff, reduceCtorEq, or_true, true_or, Int.reduceEq, true_implies, false_implies, Int.reducePow, Int.toNat_natCast]
  refine c_X2_loseChains S (fun M2 hE2 hm => ?_)
  refine Runs.go S.1 mo_X2_kindsBehind [4, 8, 13, 26, 29, 45, 53] 38 ?_
  simp only [e_X2_kindsBehind_0, e_X2_kindsBehind_1, e_X2_kindsBehind_4, e_X2_kindsBehind_5, e_X2_kindsBehind_6, e_X2_kindsBehind_7, e_X2_kindsBehind_8, e_X2_kindsBehind_9, e_X2_kindsBehind_10, e_X2_kindsBehind_13, e_X2_kindsBehind_16, e_X2_kindsBehind_17, e_X2_kindsBehind_18, e_X2_kindsBehind_21, e_X2_kindsBehind_22, e_X2_kindsBehind_23, e_X2_kindsBehind_26, e_X2_kindsBehind_29, e_X2_kindsBehind_32, e_X2_kindsBehind_33, e_X2_kindsBehind_34, e_X2_kindsBehind_35, e_X2_kindsBehind_36, e_X2_kindsBehind_39, e_X2_kindsBehind_42, e_X2_kindsBehind_45, e_X2_kindsBehind_46, e_X2_kindsBehind_47, e_X2_kindsBehind_48, e_X2_kindsBehind_49, e_X2_kindsBehind_50, e_X2_kindsBehind_53, e_X2_kindsBehind_54, e_X2_kindsBehind_57, e_X2_kindsBehind_60, e_X2_kindsBehind_61, hci, f_callV, f_getI, f_getR, f_goto, f_icmp, f_if0, f_iinc, f_iret, f_loadI, f_loadR, f_or, f_pop, f_push, f_storeI, stN, lget, lput, clrL, lputL, lenLe, lenGe, noL, swL, List.elem_cons, List.elem_nil, List.take_succ_cons, List.take_zero, List.take_nil, List.drop_succ_cons, List.drop_zero, List.reverse_cons, List.reverse_nil, List.nil_append, List.cons_append, Option.toList_some, Option.toList_none, Bool.and_true, Bool.or_false, Bool.false_or, Bool.true_or, Bool.and_self, true_and, and_true, Nat.reduceAdd, Nat.reduceBEq, Int.reduceAdd, Int.reduceNeg, Int.reduceLE, Int.reduceLT, Int.reduceSub, Int.reduceMul, Int.reduceToNat, cEq, cNe, cLt, cGe, cGt, cLe, iR, lR, cl_0, cl_1, cl_4, cl_9, cl_86, al_2, al_3, al_5, al_13, al_6, al_7, al_8, al_10, al_11, al_87, al_88, al_90, al_91, al_92, al_93, al_94, al_95, al_96, al_97, al_98, al_99, al_100, ne_eq, not_true_eq_false, not_false_eq_true, upM_eq, upM_ni, upM_nj, upM_24, upM_48, upM_i24, upM_i48, upM_2448, upM_4824, Nat.reduceEqDiff, reduceCtorEq, or_true, true_or, Int.reduceEq, true_implies, false_implies, Int.reducePow, Int.toNat_natCast]
  refine loop (nR N i) 0 (by omega) M2 0 hE2 (fun k hk => ?_) (fun j hj => ?_) (by omega) (fun j => ?_)
  · rw [(hm k (by omega)).1, (hm k (by omega)).2]
    exact LI.init
  · rw [(hm j hj).1, (hm j hj).2]
    omega
  · rw [Nat.zero_testBit]
    constructor
    · intro z; cases z
    · rintro ⟨b, e, z, -⟩; omega
end

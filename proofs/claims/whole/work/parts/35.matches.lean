/-! MATCHES one behind another: the search, as a function; Matcher.goToNextMatch, matchesIn, placeInFirst -/
def okB (t : Nat → Int) (K : Nat → Nat → Bool) (g s : Int) (pt : Nat → Nat) (rs : List Nat) (x : Nat) : Bool :=
  K x (pt rs.length) && (match rs with
    | [] => true
    | p :: _ => decide (t x - t p ≤ g) && decide (t x - t (rs.getLastD 0) ≤ s))
def srch (P : Nat → Bool) : Nat → Nat → Option Nat
  | 0, _ => none
  | f + 1, x => if P x = true then some x else srch P f (x + 1)
def seek (n : Nat) (ok : List Nat → Nat → Bool) (lst : Nat) : Nat → List Nat → Nat → Option (List Nat)
  | 0, _, _ => none
  | f + 1, rs, x => match srch (ok rs) (n - x) x with
    | none => match rs with
      | [] => none
      | p :: rs => seek n ok lst f rs (p + 1)
    | some v => if rs.length = lst then some (v :: rs) else seek n ok lst f (v :: rs) (v + 1)
theorem srch_s {P : Nat → Bool} {f x : Nat} : srch P (f + 1) x = if P x = true then some x else srch P f (x + 1) := rfl
theorem seek_nn {n : Nat} {ok : List Nat → Nat → Bool} {lst f x : Nat} (hs : srch (ok []) (n - x) x = none) : seek n ok lst (f + 1) [] x = none := by
  show (match srch (ok []) (n - x) x with | none => _ | some v => _) = _
  rw [hs]
theorem seek_nc {n : Nat} {ok : List Nat → Nat → Bool} {lst f x p : Nat} {rs : List Nat} (hs : srch (ok (p :: rs)) (n - x) x = none) : seek n ok lst (f + 1) (p :: rs) x = seek n ok lst f rs (p + 1) := by
  show (match srch (ok (p :: rs)) (n - x) x with | none => _ | some v => _) = _
  rw [hs]
theorem seek_sl {n : Nat} {ok : List Nat → Nat → Bool} {lst f x v : Nat} {rs : List Nat} (hs : srch (ok rs) (n - x) x = some v) (h : rs.length = lst) : seek n ok lst (f + 1) rs x = some (v :: rs) := by
  show (match srch (ok rs) (n - x) x with | none => _ | some v => _) = _
  rw [hs]
  show (if rs.length = lst then _ else _) = _
  rw [if_pos h]
theorem seek_ss {n : Nat} {ok : List Nat → Nat → Bool} {lst f x v : Nat} {rs : List Nat} (hs : srch (ok rs) (n - x) x = some v) (h : rs.length ≠ lst) : seek n ok lst (f + 1) rs x = seek n ok lst f (v :: rs) (v + 1) := by
  show (match srch (ok rs) (n - x) x with | none => _ | some v => _) = _
  rw [hs]
  show (if rs.length = lst then _ else _) = _
  rw [if_neg h]
def BIG : Nat := 1000000
def MMX : Nat := 27405
theorem srch_ok {P : Nat → Bool} : ∀ {f x v : Nat}, srch P f x = some v → x ≤ v ∧ v < x + f ∧ P v = true
  | 0, x, v, h => by simp [srch] at h
  | f + 1, x, v, h => by
    unfold srch at h
    split at h
    · rename_i q
      cases h
      exact ⟨Nat.le_refl _, by omega, q⟩
    · have := srch_ok h
      exact ⟨by omega, by omega, this.2.2⟩
def cho : Nat → Nat → Nat
  | _, 0 => 1
  | 0, _ + 1 => 0
  | n + 1, k + 1 => cho n k + cho n (k + 1)
theorem cho_1 : ∀ n, cho n 1 = n
  | 0 => rfl
  | n + 1 => by
    show cho n 0 + cho n 1 = n + 1
    rw [cho_1 n, show cho n 0 = 1 by cases n <;> rfl]
    omega
theorem cho_s : ∀ n k, cho n k ≤ cho (n + 1) k
  | n, 0 => by rw [show cho n 0 = 1 by cases n <;> rfl, show cho (n + 1) 0 = 1 from rfl]; exact Nat.le_refl _
  | n, k + 1 => by show cho n (k + 1) ≤ cho n k + cho n (k + 1); omega
theorem cho_mono {n m : Nat} (k : Nat) (h : n ≤ m) : cho n k ≤ cho m k := by
  obtain ⟨e, rfl⟩ : ∃ e, m = n + e := ⟨m - n, by omega⟩
  clear h
  induction e with
  | zero => exact Nat.le_refl _
  | succ e ih => exact Nat.le_trans ih (cho_s _ _)
def phR (n lst : Nat) : List Nat → Nat
  | [] => 0
  | p :: rs => cho (n - 1 - p) (lst + 1 - rs.length) + phR n lst rs
section
variable {n : Nat} {ok : List Nat → Nat → Bool} {lst : Nat}
theorem phR_c {p : Nat} {rs : List Nat} : phR n lst (p :: rs) = cho (n - 1 - p) (lst + 1 - rs.length) + phR n lst rs := rfl
theorem seek_ph : ∀ {f : Nat} {rs : List Nat} {x : Nat} {rs' : List Nat}, rs.length ≤ lst → seek n ok lst f rs x = some rs' → phR n lst rs' + 1 ≤ cho (n - x) (lst + 1 - rs.length) + phR n lst rs
  | 0, rs, x, rs', _, h => by simp [seek] at h
  | f + 1, rs, x, rs', hl, h => by
    cases hs : srch (ok rs) (n - x) x with
    | none =>
      cases rs with
      | nil => rw [seek_nn hs] at h; cases h
      | cons p rs =>
        rw [seek_nc hs] at h
        have := seek_ph (f := f) (by simp at hl; omega) h
        rw [phR_c]
        rw [show n - (p + 1) = n - 1 - p by omega] at this
        omega
    | some v =>
      obtain ⟨h1, h2, -⟩ := srch_ok hs
      by_cases q : rs.length = lst
      · rw [seek_sl hs q] at h
        cases h
        rw [phR_c, q, show lst + 1 - lst = 1 by omega, cho_1, cho_1]
        omega
      · rw [seek_ss hs q] at h
        have h3 := seek_ph (f := f) (by simp; omega) h
        rw [phR_c, List.length_cons, show n - (v + 1) = n - 1 - v by omega] at h3
        obtain ⟨j, hj⟩ : ∃ j, lst + 1 - rs.length = j + 1 := ⟨lst - rs.length, by omega⟩
        rw [show lst + 1 - (rs.length + 1) = j by omega, hj] at h3
        rw [hj]
        have hp : cho (n - 1 - v + 1) (j + 1) = cho (n - 1 - v) j + cho (n - 1 - v) (j + 1) := rfl
        have := cho_mono (j + 1) (show n - 1 - v + 1 ≤ n - x by omega)
        omega
theorem seek_len : ∀ {f : Nat} {rs : List Nat} {x : Nat} {rs' : List Nat}, rs.length ≤ lst → (∀ p ∈ rs, p < n) → seek n ok lst f rs x = some rs' → rs'.length = lst + 1 ∧ ∀ p ∈ rs', p < n
  | 0, rs, x, rs', _, _, h => by simp [seek] at h
  | f + 1, rs, x, rs', hl, hp, h => by
    cases hs : srch (ok rs) (n - x) x with
    | none =>
      cases rs with
      | nil => rw [seek_nn hs] at h; cases h
      | cons p rs =>
        rw [seek_nc hs] at h
        exact seek_len (f := f) (by simp at hl; omega) (fun q hq => hp q (List.mem_cons_of_mem _ hq)) h
    | some v =>
      obtain ⟨h1, h2, -⟩ := srch_ok hs
      have hv : ∀ p ∈ v :: rs, p < n := by
        intro p hq
        rcases List.mem_cons.mp hq with z | z
        · omega
        · exact hp p z
      by_cases q : rs.length = lst
      · rw [seek_sl hs q] at h
        cases h
        exact ⟨by simp [q], hv⟩
      · rw [seek_ss hs q] at h
        exact seek_len (f := f) (by simp; omega) hv h
/-- how many matches, from a found one on -/
def cmO (n : Nat) (ok : List Nat → Nat → Bool) (lst : Nat) : Nat → Option (List Nat) → Nat
  | 0, _ => 0
  | _ + 1, none => 0
  | _ + 1, some [] => 0
  | f + 1, some (v :: rs) => 1 + cmO n ok lst f (seek n ok lst BIG rs (v + 1))
end
abbrev okR (N : tM) (i : Nat) (l : List Nat) : List Nat → Nat → Bool := okB (tR N i) (KR N i) (N 4 0) (N 4 1) (fun k => l.getD k 0)
abbrev skR (N : tM) (i : Nat) (l : List Nat) : List Nat → Nat → Option (List Nat) := seek (nR N i) (okR N i l) (l.length - 1) BIG
/-- how many MATCHES -/
def mcR (N : tM) (i : Nat) (l : List Nat) : Nat := cmO (nR N i) (okR N i l) (l.length - 1) MMX (skR N i l [] 0)
abbrev E8 (M M2 : tM) : Prop := ∀ a : Nat, a ≠ 8 → M2 a = M a
theorem E8.sc {M M2 : tM} (h : E8 M M2) : Esc M M2 := fun a b _ _ _ c4 _ _ => by rw [h a c4]
def PS (M : tM) (rs : List Nat) : Prop := ∀ j, j < rs.length → M 8 j = (rs.getD (rs.length - 1 - j) 0 : Nat)
theorem getLastD_get : ∀ (rs : List Nat), 0 < rs.length → rs.getLastD 0 = rs.getD (rs.length - 1) 0 := by
  intro rs h
  rw [List.getLastD_eq_getLast?, List.getLast?_eq_getElem?, List.getD_eq_getElem?_getD]
theorem getD_mem {rs : List Nat} {j : Nat} (h : j < rs.length) : rs.getD j 0 ∈ rs := by
  rw [List.getD_eq_getElem?_getD, List.getElem?_eq_getElem h]
  exact List.getElem_mem h
theorem PS.push {M M2 : tM} {rs : List Nat} {v : Nat} (h : PS M rs) (h8 : ∀ j, j < rs.length → M2 8 j = M 8 j) (hv : M2 8 rs.length = (v : Nat)) : PS M2 (v :: rs) := by
  intro j hj
  rw [List.length_cons] at hj ⊢
  by_cases q : j = rs.length
  · subst q
    rw [hv, show rs.length + 1 - 1 - rs.length = 0 by omega]
    rfl
  · rw [h8 j (by omega), h j (by omega), show rs.length + 1 - 1 - j = (rs.length - 1 - j) + 1 by omega]
    rfl
theorem PS.pop {M M2 : tM} {rs : List Nat} {v : Nat} (h : PS M (v :: rs)) (h8 : ∀ j, j < rs.length → M2 8 j = M 8 j) : PS M2 rs := by
  intro j hj
  have := h j (by rw [List.length_cons]; omega)
  rw [List.length_cons, show rs.length + 1 - 1 - j = (rs.length - 1 - j) + 1 by omega] at this
  rw [h8 j hj, this]
  rfl
section
variable {C : tC} {Q : tQ} {d : Nat} {N : tM}
set_option maxRecDepth 40000 in
set_option maxHeartbeats 4000000 in
theorem c_X2_canStandAt (S : Snd C) {i x : Nat} {l rs : List Nat} (hi : IRow i) (hl : PL l) (hR : RowOk N i) (hg : WFg N) (hT : TU N l) {M : tM} (hE : E8 N M) (hrs : rs.length < l.length) (hP : PS M rs) (hv : ∀ p ∈ rs, p < nR N i) (hx : x < nR N i) (k : Q (some (vI (if okR N i l rs x = true then 1 else 0))) M) : C (d + 1) 23 [vR 4, vR i, vI x, vI rs.length] M Q := by
  have h4 := hl.1
  have hRn := hR.n
  have hR1 := hR.1
  have hci := cl_row hi
  have hRM : RowOk M i := hR.congr (hE i (by omega)) (hE (i + 24) (by omega)) (hE (i + 48) (by omega))
  obtain ⟨f, hf1, hf2, hf3⟩ := fit_bit hl hR hT hx
  have hbt : btA M 5 i x = f := by
    rw [← hf1]; unfold btA; rw [hE 5 (by decide), hE i (by omega), hE (i + 48) (by omega)]
  have htk : ∀ p, p < nR N i → tkA M i p = tR N i p := by
    intro p hp
    rw [← tk_in hR hp]; unfold tkA; rw [hE i (by omega), hE (i + 24) (by omega)]
  have hti := hR.t x hx
  have hg4 : M 4 = N 4 := hE 4 (by decide)
  have hgg := hg
  unfold WFg at hgg
  refine en_X2_canStandAt S ?_
  refine Runs.go S.1 mo_X2_canStandAt [9, 23, 43, 63] 48 ?_
  simp only [e_X2_canStandAt_0, e_X2_canStandAt_1, e_X2_canStandAt_2, e_X2_canStandAt_3, e_X2_canStandAt_6, e_X2_canStandAt_9, e_X2_canStandAt_10, e_X2_canStandAt_11, e_X2_canStandAt_12, e_X2_canStandAt_13, e_X2_canStandAt_16, e_X2_canStandAt_17, e_X2_canStandAt_18, e_X2_canStandAt_19, e_X2_canStandAt_20, e_X2_canStandAt_23, e_X2_canStandAt_25, e_X2_canStandAt_26, e_X2_canStandAt_29, e_X2_canStandAt_31, e_X2_canStandAt_32, e_X2_canStandAt_33, e_X2_canStandAt_36, e_X2_canStandAt_37, e_X2_canStandAt_38, e_X2_canStandAt_39, e_X2_canStandAt_40, e_X2_canStandAt_43, e_X2_canStandAt_44, e_X2_canStandAt_45, e_X2_canStandAt_48, e_X2_canStandAt_51, e_X2_canStandAt_53, e_X2_canStandAt_54, e_X2_canStandAt_55, e_X2_canStandAt_58, e_X2_canStandAt_59, e_X2_canStandAt_60, e_X2_canStandAt_63, e_X2_canStandAt_64, e_X2_canStandAt_65, e_X2_canStandAt_68, e_X2_canStandAt_71, e_X2_canStandAt_72, e_X2_canStandAt_75, e_X2_canStandAt_76, hci, f_and, f_callV, f_getI, f_getR, f_goto, f_iald, f_icmp, f_if0, f_loadI, f_loadR, f_push, f_shr, f_storeI, f_sub, f_zret, stN, lget, lput, clrL, lputL, lenLe, lenGe, noL, swL, List.elem_cons, List.elem_nil, List.take_succ_cons, List.take_zero, List.take_nil, List.drop_succ_cons, List.drop_zero, List.reverse_cons, List.reverse_nil, List.nil_append, List.cons_append, Option.toList_some, Option.toList_none, Bool.and_true, Bool.or_false, Bool.false_or, Bool.true_or, Bool.and_self, true_and, and_true, Nat.reduceAdd, Nat.reduceBEq, Int.reduceAdd, Int.reduceNeg, Int.reduceLE, Int.reduceLT, Int.reduceSub, Int.reduceMul, Int.reduceToNat, cEq, cNe, cLt, cGe, cGt, cLe, iR, lR, cl_0, cl_1, cl_4, cl_9, cl_86, al_2, al_3, al_5, al_13, al_6, al_7, al_8, al_10, al_11, al_87, al_88, al_90, al_91, al_92, al_93, al_94, al_95, al_96, al_97, al_98, al_99, al_100, ne_eq, not_true_eq_false, not_false_eq_true, upM_eq, upM_ni, upM_nj, upM_24, upM_48, upM_i24, upM_i48, upM_2448, upM_4824, Nat.reduceEqDiff, reduceCtorEq, or_true, true_or, Int.reduceEq, true_implies, false_implies, Int.reducePow, Int.toNat_natCast]
  refine c_X4_bitsAt S (a := 5) (x := (x : Int)) hi ⟨by omega, by omega⟩ hRM rfl ?_
  rw [hbt]
  refine Runs.go S.1 mo_X2_canStandAt [9, 23, 43, 63] 48 ?_
  simp only [e_X2_canStandAt_0, e_X2_canStandAt_1, e_X2_canStandAt_2, e_X2_canStandAt_3, e_X2_canStandAt_6, e_X2_canStandAt_9, e_X2_canStandAt_10, e_X2_canStandAt_11, e_X2_canStandAt_12, e_X2_canStandAt_13, e_X2_canStandAt_16, e_X2_canStandAt_17, e_X2_canStandAt_18, e_X2_canStandAt_19, e_X2_canStandAt_20, e_X2_canStandAt_23, e_X2_canStandAt_25, e_X2_canStandAt_26, e_X2_canStandAt_29, e_X2_canStandAt_31, e_X2_canStandAt_32, e_X2_canStandAt_33, e_X2_canStandAt_36, e_X2_canStandAt_37, e_X2_canStandAt_38, e_X2_canStandAt_39, e_X2_canStandAt_40, e_X2_canStandAt_43, e_X2_canStandAt_44, e_X2_canStandAt_45, e_X2_canStandAt_48, e_X2_canStandAt_51, e_X2_canStandAt_53, e_X2_canStandAt_54, e_X2_canStandAt_55, e_X2_canStandAt_58, e_X2_canStandAt_59, e_X2_canStandAt_60, e_X2_canStandAt_63, e_X2_canStandAt_64, e_X2_canStandAt_65, e_X2_canStandAt_68, e_X2_canStandAt_71, e_X2_canStandAt_72, e_X2_canStandAt_75, e_X2_canStandAt_76, hci, f_and, f_callV, f_getI, f_getR, f_goto, f_iald, f_icmp, f_if0, f_loadI, f_loadR, f_push, f_shr, f_storeI, f_sub, f_zret, stN, lget, lput, clrL, lputL, lenLe, lenGe, noL, swL, List.elem_cons, List.elem_nil, List.take_succ_cons, List.take_zero, List.take_nil, List.drop_succ_cons, List.drop_zero, List.reverse_cons, List.reverse_nil, List.nil_append, List.cons_append, Option.toList_some, Option.toList_none, Bool.and_true, Bool.or_false, Bool.false_or, Bool.true_or, Bool.and_self, true_and, and_true, Nat.reduceAdd, Nat.reduceBEq, Int.reduceAdd, Int.reduceNeg, Int.reduceLE, Int.reduceLT, Int.reduceSub, Int.reduceMul, Int.reduceToNat, cEq, cNe, cLt, cGe, cGt, cLe, iR, lR, cl_0, cl_1, cl_4, cl_9, cl_86, al_2, al_3, al_5, al_13, al_6, al_7, al_8, al_10, al_11, al_87, al_88, al_90, al_91, al_92, al_93, al_94, al_95, al_96, al_97, al_98, al_99, al_100, ne_eq, not_true_eq_false, not_false_eq_true, upM_eq, upM_ni, upM_nj, upM_24, upM_48, upM_i24, upM_i48, upM_2448, upM_4824, Nat.reduceEqDiff, reduceCtorEq, or_true, true_or, Int.reduceEq, true_implies, false_implies, Int.reducePow, Int.toNat_natCast]
  refine ⟨by omega, by omega, ?_⟩
  rw [bit_ask]
  have hbit : f.testBit rs.length = true ↔ KR N i x (l.getD rs.length 0) = true := by
    rw [hf3]
    exact ⟨fun z => z.2, fun z => ⟨hrs, z⟩⟩
  unfold okR okB at k
  by_cases q : f.testBit rs.length = true
  · rw [if_pos q]
    have hK := hbit.mp q
    rw [hK, Bool.true_and] at k
    refine ⟨by omega, fun _ => ?_, fun z => by omega⟩
    refine c_X4_tickAt S (x := (x : Int)) hi ⟨by omega, by omega⟩ hRM ?_
    rw [htk x hx]
    cases rs with
    | nil =>
      rw [if_pos rfl] at k
      simp only [List.length_nil]
      refine Runs.go S.1 mo_X2_canStandAt [9, 23, 43, 63] 48 ?_
      simp only [e_X2_canStandAt_0, e_X2_canStandAt_1, e_X2_canStandAt_2, e_X2_canStandAt_3, e_X2_canStandAt_6, e_X2_canStandAt_9, e_X2_canStandAt_10, e_X2_canStandAt_11, e_X2_canStandAt_12, e_X2_canStandAt_13, e_X2_canStandAt_16, e_X2_canStandAt_17, e_X2_canStandAt_18, e_X2_canStandAt_19, e_X2_canStandAt_20, e_X2_canStandAt_23, e_X2_canStandAt_25, e_X2_canStandAt_26, e_X2_canStandAt_29, e_X2_canStandAt_31, e_X2_canStandAt_32, e_X2_canStandAt_33, e_X2_canStandAt_36, e_X2_canStandAt_37, e_X2_canStandAt_38, e_X2_canStandAt_39, e_X2_canStandAt_40, e_X2_canStandAt_43, e_X2_canStandAt_44, e_X2_canStandAt_45, e_X2_canStandAt_48, e_X2_canStandAt_51, e_X2_canStandAt_53, e_X2_canStandAt_54, e_X2_canStandAt_55, e_X2_canStandAt_58, e_X2_canStandAt_59, e_X2_canStandAt_60, e_X2_canStandAt_63, e_X2_canStandAt_64, e_X2_canStandAt_65, e_X2_canStandAt_68, e_X2_canStandAt_71, e_X2_canStandAt_72, e_X2_canStandAt_75, e_X2_canStandAt_76, f_and, f_callV, f_getI, f_getR, f_goto, f_iald, f_icmp, f_if0, f_loadI, f_loadR, f_push, f_shr, f_storeI, f_sub, f_zret, stN, lget, lput, clrL, lputL, lenLe, lenGe, noL, swL, List.elem_cons, List.elem_nil, List.take_succ_cons, List.take_zero, List.take_nil, List.drop_succ_cons, List.drop_zero, List.reverse_cons, List.reverse_nil, List.nil_append, List.cons_append, Option.toList_some, Option.toList_none, Bool.and_true, Bool.or_false, Bool.false_or, Bool.true_or, Bool.and_self, true_and, and_true, Nat.reduceAdd, Nat.reduceBEq, Int.reduceAdd, Int.reduceNeg, Int.reduceLE, Int.reduceLT, Int.reduceSub, Int.reduceMul, Int.reduceToNat, cEq, cNe, cLt, cGe, cGt, cLe, iR, lR, cl_0, cl_1, cl_4, cl_9, cl_86, al_2, al_3, al_5, al_13, al_6, al_7, al_8, al_10, al_11, al_87, al_88, al_90, al_91, al_92, al_93, al_94, al_95, al_96, al_97, al_98, al_99, al_100, ne_eq, not_true_eq_false, not_false_eq_true, upM_eq, upM_ni, upM_nj, upM_24, upM_48, upM_i24, upM_i48, upM_2448, upM_4824, Nat.reduceEqDiff, reduceCtorEq, or_true, true_or, Int.reduceEq, true_implies, false_implies, Int.reducePow, Int.toNat_natCast]
      exact ⟨by omega, fun _ => k, fun z => absurd rfl z⟩
    | cons p rs =>
      have hp1 := hP rs.length (by simp)
      rw [show ((p :: rs).length - 1 - rs.length) = 0 by simp] at hp1
      have hp1 : M 8 rs.length = (p : Nat) := hp1
      have hp0 := hP 0 (by simp)
      rw [Nat.sub_zero, ← getLastD_get (p :: rs) (by simp)] at hp0
      have hpv := hv p List.mem_cons_self
      have hp0v : (p :: rs).getLastD 0 < nR N i := by rw [getLastD_get _ (by simp)]; exact hv _ (getD_mem (by simp))
      have t1 := hR.t p hpv
      have t0 := hR.t _ hp0v
      have e1 : ((((p :: rs).length : Nat) : Int) - 1).toNat = rs.length := by rw [List.length_cons]; omega
      have hl2 : ((p :: rs).length : Int) = (rs.length : Int) + 1 := by simp
      refine Runs.go S.1 mo_X2_canStandAt [9, 23, 43, 63] 48 ?_
      simp only [e_X2_canStandAt_0, e_X2_canStandAt_1, e_X2_canStandAt_2, e_X2_canStandAt_3, e_X2_canStandAt_6, e_X2_canStandAt_9, e_X2_canStandAt_10, e_X2_canStandAt_11, e_X2_canStandAt_12, e_X2_canStandAt_13, e_X2_canStandAt_16, e_X2_canStandAt_17, e_X2_canStandAt_18, e_X2_canStandAt_19, e_X2_canStandAt_20, e_X2_canStandAt_23, e_X2_canStandAt_25, e_X2_canStandAt_26, e_X2_canStandAt_29, e_X2_canStandAt_31, e_X2_canStandAt_32, e_X2_canStandAt_33, e_X2_canStandAt_36, e_X2_canStandAt_37, e_X2_canStandAt_38, e_X2_canStandAt_39, e_X2_canStandAt_40, e_X2_canStandAt_43, e_X2_canStandAt_44, e_X2_canStandAt_45, e_X2_canStandAt_48, e_X2_canStandAt_51, e_X2_canStandAt_53, e_X2_canStandAt_54, e_X2_canStandAt_55, e_X2_canStandAt_58, e_X2_canStandAt_59, e_X2_canStandAt_60, e_X2_canStandAt_63, e_X2_canStandAt_64, e_X2_canStandAt_65, e_X2_canStandAt_68, e_X2_canStandAt_71, e_X2_canStandAt_72, e_X2_canStandAt_75, e_X2_canStandAt_76, hci, e1, hp1, hp0, f_and, f_callV, f_getI, f_getR, f_goto, f_iald, f_icmp, f_if0, f_loadI, f_loadR, f_push, f_shr, f_storeI, f_sub, f_zret, stN, lget, lput, clrL, lputL, lenLe, lenGe, noL, swL, List.elem_cons, List.elem_nil, List.take_succ_cons, List.take_zero, List.take_nil, List.drop_succ_cons, List.drop_zero, List.reverse_cons, List.reverse_nil, List.nil_append, List.cons_append, Option.toList_some, Option.toList_none, Bool.and_true, Bool.or_false, Bool.false_or, Bool.true_or, Bool.and_self, true_and, and_true, Nat.reduceAdd, Nat.reduceBEq, Int.reduceAdd, Int.reduceNeg, Int.reduceLE, Int.reduceLT, Int.reduceSub, Int.reduceMul, Int.reduceToNat, cEq, cNe, cLt, cGe, cGt, cLe, iR, lR, cl_0, cl_1, cl_4, cl_9, cl_86, al_2, al_3, al_5, al_13, al_6, al_7, al_8, al_10, al_11, al_87, al_88, al_90, al_91, al_92, al_93, al_94, al_95, al_96, al_97, al_98, al_99, al_100, ne_eq, not_true_eq_false, not_false_eq_true, upM_eq, upM_ni, upM_nj, upM_24, upM_48, upM_i24, upM_i48, upM_2448, upM_4824, Nat.reduceEqDiff, reduceCtorEq, or_true, true_or, Int.reduceEq, true_implies, false_implies, Int.reducePow, Int.toNat_natCast]
      refine ⟨by omega, fun z => by omega, fun _ => ⟨by omega, ?_⟩⟩
      refine c_X4_tickAt S (x := (p : Int)) hi ⟨by omega, by omega⟩ hRM ?_
      rw [htk p hpv]
      refine Runs.go S.1 mo_X2_canStandAt [9, 23, 43, 63] 48 ?_
      simp only [e_X2_canStandAt_0, e_X2_canStandAt_1, e_X2_canStandAt_2, e_X2_canStandAt_3, e_X2_canStandAt_6, e_X2_canStandAt_9, e_X2_canStandAt_10, e_X2_canStandAt_11, e_X2_canStandAt_12, e_X2_canStandAt_13, e_X2_canStandAt_16, e_X2_canStandAt_17, e_X2_canStandAt_18, e_X2_canStandAt_19, e_X2_canStandAt_20, e_X2_canStandAt_23, e_X2_canStandAt_25, e_X2_canStandAt_26, e_X2_canStandAt_29, e_X2_canStandAt_31, e_X2_canStandAt_32, e_X2_canStandAt_33, e_X2_canStandAt_36, e_X2_canStandAt_37, e_X2_canStandAt_38, e_X2_canStandAt_39, e_X2_canStandAt_40, e_X2_canStandAt_43, e_X2_canStandAt_44, e_X2_canStandAt_45, e_X2_canStandAt_48, e_X2_canStandAt_51, e_X2_canStandAt_53, e_X2_canStandAt_54, e_X2_canStandAt_55, e_X2_canStandAt_58, e_X2_canStandAt_59, e_X2_canStandAt_60, e_X2_canStandAt_63, e_X2_canStandAt_64, e_X2_canStandAt_65, e_X2_canStandAt_68, e_X2_canStandAt_71, e_X2_canStandAt_72, e_X2_canStandAt_75, e_X2_canStandAt_76, hci, hg4, hp0, f_and, f_callV, f_getI, f_getR, f_goto, f_iald, f_icmp, f_if0, f_loadI, f_loadR, f_push, f_shr, f_storeI, f_sub, f_zret, stN, lget, lput, clrL, lputL, lenLe, lenGe, noL, swL, List.elem_cons, List.elem_nil, List.take_succ_cons, List.take_zero, List.take_nil, List.drop_succ_cons, List.drop_zero, List.reverse_cons, List.reverse_nil, List.nil_append, List.cons_append, Option.toList_some, Option.toList_none, Bool.and_true, Bool.or_false, Bool.false_or, Bool.true_or, Bool.and_self, true_and, and_true, Nat.reduceAdd, Nat.reduceBEq, Int.reduceAdd, Int.reduceNeg, Int.reduceLE, Int.reduceLT, Int.reduceSub, Int.reduceMul, Int.reduceToNat, cEq, cNe, cLt, cGe, cGt, cLe, iR, lR, cl_0, cl_1, cl_4, cl_9, cl_86, al_2, al_3, al_5, al_13, al_6, al_7, al_8, al_10, al_11, al_87, al_88, al_90, al_91, al_92, al_93, al_94, al_95, al_96, al_97, al_98, al_99, al_100, ne_eq, not_true_eq_false, not_false_eq_true, upM_eq, upM_ni, upM_nj, upM_24, upM_48, upM_i24, upM_i48, upM_2448, upM_4824, Nat.reduceEqDiff, reduceCtorEq, or_true, true_or, Int.reduceEq, true_implies, false_implies, Int.reducePow, Int.toNat_natCast]
      refine ⟨by omega, by omega, fun z => ?_, fun z => ?_⟩
      · rw [if_neg (by simp; intro y; omega)] at k; exact k
      · refine c_X4_tickAt S (x := ((p :: rs).getLastD 0 : Nat)) hi ⟨by omega, by omega⟩ hRM ?_
        rw [htk _ hp0v]
        refine Runs.go S.1 mo_X2_canStandAt [9, 23, 43, 63] 48 ?_
        simp only [e_X2_canStandAt_0, e_X2_canStandAt_1, e_X2_canStandAt_2, e_X2_canStandAt_3, e_X2_canStandAt_6, e_X2_canStandAt_9, e_X2_canStandAt_10, e_X2_canStandAt_11, e_X2_canStandAt_12, e_X2_canStandAt_13, e_X2_canStandAt_16, e_X2_canStandAt_17, e_X2_canStandAt_18, e_X2_canStandAt_19, e_X2_canStandAt_20, e_X2_canStandAt_23, e_X2_canStandAt_25, e_X2_canStandAt_26, e_X2_canStandAt_29, e_X2_canStandAt_31, e_X2_canStandAt_32, e_X2_canStandAt_33, e_X2_canStandAt_36, e_X2_canStandAt_37, e_X2_canStandAt_38, e_X2_canStandAt_39, e_X2_canStandAt_40, e_X2_canStandAt_43, e_X2_canStandAt_44, e_X2_canStandAt_45, e_X2_canStandAt_48, e_X2_canStandAt_51, e_X2_canStandAt_53, e_X2_canStandAt_54, e_X2_canStandAt_55, e_X2_canStandAt_58, e_X2_canStandAt_59, e_X2_canStandAt_60, e_X2_canStandAt_63, e_X2_canStandAt_64, e_X2_canStandAt_65, e_X2_canStandAt_68, e_X2_canStandAt_71, e_X2_canStandAt_72, e_X2_canStandAt_75, e_X2_canStandAt_76, hg4, f_and, f_callV, f_getI, f_getR, f_goto, f_iald, f_icmp, f_if0, f_loadI, f_loadR, f_push, f_shr, f_storeI, f_sub, f_zret, stN, lget, lput, clrL, lputL, lenLe, lenGe, noL, swL, List.elem_cons, List.elem_nil, List.take_succ_cons, List.take_zero, List.take_nil, List.drop_succ_cons, List.drop_zero, List.reverse_cons, List.reverse_nil, List.nil_append, List.cons_append, Option.toList_some, Option.toList_none, Bool.and_true, Bool.or_false, Bool.false_or, Bool.true_or, Bool.and_self, true_and, and_true, Nat.reduceAdd, Nat.reduceBEq, Int.reduceAdd, Int.reduceNeg, Int.reduceLE, Int.reduceLT, Int.reduceSub, Int.reduceMul, Int.reduceToNat, cEq, cNe, cLt, cGe, cGt, cLe, iR, lR, cl_0, cl_1, cl_4, cl_9, cl_86, al_2, al_3, al_5, al_13, al_6, al_7, al_8, al_10, al_11, al_87, al_88, al_90, al_91, al_92, al_93, al_94, al_95, al_96, al_97, al_98, al_99, al_100, ne_eq, not_true_eq_false, not_false_eq_true, upM_eq, upM_ni, upM_nj, upM_24, upM_48, upM_i24, upM_i48, upM_2448, upM_4824, Nat.reduceEqDiff, reduceCtorEq, or_true, true_or, Int.reduceEq, true_implies, false_implies, Int.reducePow, Int.toNat_natCast]
        refine ⟨by omega, by omega, fun y => ?_, fun y => ?_⟩
        · rw [if_neg (by rw [Bool.and_eq_true, decide_eq_true_eq, decide_eq_true_eq]; omega)] at k; exact k
        · rw [if_pos (by rw [Bool.and_eq_true, decide_eq_true_eq, decide_eq_true_eq]; omega)] at k; exact k
  · rw [if_neg q]
    have hK : KR N i x (l.getD rs.length 0) = false := by
      cases hk2 : KR N i x (l.getD rs.length 0) with
      | false => rfl
      | true => exact absurd (hbit.mpr hk2) q
    rw [hK, Bool.false_and, if_neg (by decide)] at k
    exact ⟨by omega, fun z => by omega, fun _ => k⟩
set_option maxRecDepth 40000 in
set_option maxHeartbeats 4000000 in
theorem c_X2_nextPlace (S : Snd C) {i x : Nat} {l rs : List Nat} (hi : IRow i) (hl : PL l) (hR : RowOk N i) (hg : WFg N) (hT : TU N l) {M : tM} (hE : E8 N M) (hrs : rs.length < l.length) (hP : PS M rs) (hv : ∀ p ∈ rs, p < nR N i) (h8 : M 8 rs.length = (x : Int) - 1) (hx : x ≤ nR N i) (k0 : srch (okR N i l rs) (nR N i - x) x = none → Q (some (vI (-1))) M) (k1 : ∀ v, srch (okR N i l rs) (nR N i - x) x = some v → Q (some (vI v)) M) : C (d + 2) 22 [vR 4, vR i, vI rs.length] M Q := by
  have h4 := hl.1
  have hRn := hR.n
  have hR1 := hR.1
  have hci := cl_row hi
  have hM4 : M i 4 = N i 4 := by rw [hE i (by omega)]
  have loop : ∀ (m y : Nat), y + m = nR N i → x ≤ y → srch (okR N i l rs) m y = srch (okR N i l rs) (nR N i - x) x → Runs C (tabF k_X2_nextPlace) (d + 2) Q 9 [some (vR 4), some (vR i), some (vI rs.length), some (vI y)] [] M := by
    intro m
    induction m with
    | zero =>
      intro y hy hxy hs
      refine Runs.go S.1 mo_X2_nextPlace [9, 14, 24] 25 ?_
      simp only [e_X2_nextPlace_0, e_X2_nextPlace_1, e_X2_nextPlace_4, e_X2_nextPlace_5, e_X2_nextPlace_6, e_X2_nextPlace_7, e_X2_nextPlace_8, e_X2_nextPlace_9, e_X2_nextPlace_10, e_X2_nextPlace_11, e_X2_nextPlace_14, e_X2_nextPlace_17, e_X2_nextPlace_18, e_X2_nextPlace_19, e_X2_nextPlace_20, e_X2_nextPlace_21, e_X2_nextPlace_24, e_X2_nextPlace_27, e_X2_nextPlace_28, e_X2_nextPlace_29, e_X2_nextPlace_32, e_X2_nextPlace_35, e_X2_nextPlace_36, hci, f_add, f_callV, f_getR, f_goto, f_iald, f_icmp, f_if0, f_iinc, f_iret, f_loadI, f_loadR, f_push, f_storeI, stN, lget, lput, clrL, lputL, lenLe, lenGe, noL, swL, List.elem_cons, List.elem_nil, List.take_succ_cons, List.take_zero, List.take_nil, List.drop_succ_cons, List.drop_zero, List.reverse_cons, List.reverse_nil, List.nil_append, List.cons_append, Option.toList_some, Option.toList_none, Bool.and_true, Bool.or_false, Bool.false_or, Bool.true_or, Bool.and_self, true_and, and_true, Nat.reduceAdd, Nat.reduceBEq, Int.reduceAdd, Int.reduceNeg, Int.reduceLE, Int.reduceLT, Int.reduceSub, Int.reduceMul, Int.reduceToNat, cEq, cNe, cLt, cGe, cGt, cLe, iR, lR, cl_0, cl_1, cl_4, cl_9, cl_86, al_2, al_3, al_5, al_13, al_6, al_7, al_8, al_10, al_11, al_87, al_88, al_90, al_91, al_92, al_93, al_94, al_95, al_96, al_97, al_98, al_99, al_100, ne_eq, not_true_eq_false, not_false_eq_true, upM_eq, upM_ni, upM_nj, upM_24, upM_48, upM_i24, upM_i48, upM_2448, upM_4824, Nat.reduceEqDiff, reduceCtorEq, or_true, true_or, Int.reduceEq, true_implies, false_implies, Int.reducePow, Int.toNat_natCast]
      refine c_X4_size S hi ?_
      rw [hM4]
      refine Runs.go S.1 mo_X2_nextPlace [9, 14, 24] 25 ?_
      simp only [e_X2_nextPlace_0, e_X2_nextPlace_1, e_X2_nextPlace_4, e_X2_nextPlace_5, e_X2_nextPlace_6, e_X2_nextPlace_7, e_X2_nextPlace_8, e_X2_nextPlace_9, e_X2_nextPlace_10, e_X2_nextPlace_11, e_X2_nextPlace_14, e_X2_nextPlace_17, e_X2_nextPlace_18, e_X2_nextPlace_19, e_X2_nextPlace_20, e_X2_nextPlace_21, e_X2_nextPlace_24, e_X2_nextPlace_27, e_X2_nextPlace_28, e_X2_nextPlace_29, e_X2_nextPlace_32, e_X2_nextPlace_35, e_X2_nextPlace_36, f_add, f_callV, f_getR, f_goto, f_iald, f_icmp, f_if0, f_iinc, f_iret, f_loadI, f_loadR, f_push, f_storeI, stN, lget, lput, clrL, lputL, lenLe, lenGe, noL, swL, List.elem_cons, List.elem_nil, List.take_succ_cons, List.take_zero, List.take_nil, List.drop_succ_cons, List.drop_zero, List.reverse_cons, List.reverse_nil, List.nil_append, List.cons_append, Option.toList_some, Option.toList_none, Bool.and_true, Bool.or_false, Bool.false_or, Bool.true_or, Bool.and_self, true_and, and_true, Nat.reduceAdd, Nat.reduceBEq, Int.reduceAdd, Int.reduceNeg, Int.reduceLE, Int.reduceLT, Int.reduceSub, Int.reduceMul, Int.reduceToNat, cEq, cNe, cLt, cGe, cGt, cLe, iR, lR, cl_0, cl_1, cl_4, cl_9, cl_86, al_2, al_3, al_5, al_13, al_6, al_7, al_8, al_10, al_11, al_87, al_88, al_90, al_91, al_92, al_93, al_94, al_95, al_96, al_97, al_98, al_99, al_100, ne_eq, not_true_eq_false, not_false_eq_true, upM_eq, upM_ni, upM_nj, upM_24, upM_48, upM_i24, upM_i48, upM_2448, upM_4824, Nat.reduceEqDiff, reduceCtorEq, or_true, true_or, Int.reduceEq, true_implies, false_implies, Int.reducePow, Int.toNat_natCast]
      exact ⟨by omega, by omega, fun _ => k0 (by rw [← hs]; rfl), fun z => by omega⟩
    | succ m ih =>
      intro y hy hxy hs
      refine Runs.go S.1 mo_X2_nextPlace [9, 14, 24] 25 ?_
      simp only [e_X2_nextPlace_0, e_X2_nextPlace_1, e_X2_nextPlace_4, e_X2_nextPlace_5, e_X2_nextPlace_6, e_X2_nextPlace_7, e_X2_nextPlace_8, e_X2_nextPlace_9, e_X2_nextPlace_10, e_X2_nextPlace_11, e_X2_nextPlace_14, e_X2_nextPlace_17, e_X2_nextPlace_18, e_X2_nextPlace_19, e_X2_nextPlace_20, e_X2_nextPlace_21, e_X2_nextPlace_24, e_X2_nextPlace_27, e_X2_nextPlace_28, e_X2_nextPlace_29, e_X2_nextPlace_32, e_X2_nextPlace_35, e_X2_nextPlace_36, hci, f_add, f_callV, f_getR, f_goto, f_iald, f_icmp, f_if0, f_iinc, f_iret, f_loadI, f_loadR, f_push, f_storeI, stN, lget, lput, clrL, lputL, lenLe, lenGe, noL, swL, List.elem_cons, List.elem_nil, List.take_succ_cons, List.take_zero, List.take_nil, List.drop_succ_cons, List.drop_zero, List.reverse_cons, List.reverse_nil, List.nil_append, List.cons_append, Option.toList_some, Option.toList_none, Bool.and_true, Bool.or_false, Bool.false_or, Bool.true_or, Bool.and_self, true_and, and_true, Nat.reduceAdd, Nat.reduceBEq, Int.reduceAdd, Int.reduceNeg, Int.reduceLE, Int.reduceLT, Int.reduceSub, Int.reduceMul, Int.reduceToNat, cEq, cNe, cLt, cGe, cGt, cLe, iR, lR, cl_0, cl_1, cl_4, cl_9, cl_86, al_2, al_3, al_5, al_13, al_6, al_7, al_8, al_10, al_11, al_87, al_88, al_90, al_91, al_92, al_93, al_94, al_95, al_96, al_97, al_98, al_99, al_100, ne_eq, not_true_eq_false, not_false_eq_true, upM_eq, upM_ni, upM_nj, upM_24, upM_48, upM_i24, upM_i48, upM_2448, upM_4824, Nat.reduceEqDiff, reduceCtorEq, or_true, true_or, Int.reduceEq, true_implies, false_implies, Int.reducePow, Int.toNat_natCast]
      refine c_X4_size S hi ?_
      rw [hM4]
      refine Runs.go S.1 mo_X2_nextPlace [9, 14, 24] 25 ?_
      simp only [e_X2_nextPlace_0, e_X2_nextPlace_1, e_X2_nextPlace_4, e_X2_nextPlace_5, e_X2_nextPlace_6, e_X2_nextPlace_7, e_X2_nextPlace_8, e_X2_nextPlace_9, e_X2_nextPlace_10, e_X2_nextPlace_11, e_X2_nextPlace_14, e_X2_nextPlace_17, e_X2_nextPlace_18, e_X2_nextPlace_19, e_X2_nextPlace_20, e_X2_nextPlace_21, e_X2_nextPlace_24, e_X2_nextPlace_27, e_X2_nextPlace_28, e_X2_nextPlace_29, e_X2_nextPlace_32, e_X2_nextPlace_35, e_X2_nextPlace_36, f_add, f_callV, f_getR, f_goto, f_iald, f_icmp, f_if0, f_iinc, f_iret, f_loadI, f_loadR, f_push, f_storeI, stN, lget, lput, clrL, lputL, lenLe, lenGe, noL, swL, List.elem_cons, List.elem_nil, List.take_succ_cons, List.take_zero, List.take_nil, List.drop_succ_cons, List.drop_zero, List.reverse_cons, List.reverse_nil, List.nil_append, List.cons_append, Option.toList_some, Option.toList_none, Bool.and_true, Bool.or_false, Bool.false_or, Bool.true_or, Bool.and_self, true_and, and_true, Nat.reduceAdd, Nat.reduceBEq, Int.reduceAdd, Int.reduceNeg, Int.reduceLE, Int.reduceLT, Int.reduceSub, Int.reduceMul, Int.reduceToNat, cEq, cNe, cLt, cGe, cGt, cLe, iR, lR, cl_0, cl_1, cl_4, cl_9, cl_86, al_2, al_3, al_5, al_13, al_6, al_7, al_8, al_10, al_11, al_87, al_88, al_90, al_91, al_92, al_93, al_94, al_95, al_96, al_97, al_98, al_99, al_100, ne_eq, not_true_eq_false, not_false_eq_true, upM_eq, upM_ni, upM_nj, upM_24, upM_48, upM_i24, upM_i48, upM_2448, upM_4824, Nat.reduceEqDiff, reduceCtorEq, or_true, true_or, Int.reduceEq, true_implies, false_implies, Int.reducePow, Int.toNat_natCast]
      refine ⟨by omega, by omega, fun z => by omega, fun _ => ?_⟩
      refine c_X2_canStandAt S hi hl hR hg hT hE hrs hP hv (by omega) ?_
      rw [srch_s] at hs
      by_cases q : okR N i l rs y = true
      · rw [if_pos q] at hs ⊢
        refine Runs.go S.1 mo_X2_nextPlace [9, 14, 24] 25 ?_
        simp only [e_X2_nextPlace_0, e_X2_nextPlace_1, e_X2_nextPlace_4, e_X2_nextPlace_5, e_X2_nextPlace_6, e_X2_nextPlace_7, e_X2_nextPlace_8, e_X2_nextPlace_9, e_X2_nextPlace_10, e_X2_nextPlace_11, e_X2_nextPlace_14, e_X2_nextPlace_17, e_X2_nextPlace_18, e_X2_nextPlace_19, e_X2_nextPlace_20, e_X2_nextPlace_21, e_X2_nextPlace_24, e_X2_nextPlace_27, e_X2_nextPlace_28, e_X2_nextPlace_29, e_X2_nextPlace_32, e_X2_nextPlace_35, e_X2_nextPlace_36, f_add, f_callV, f_getR, f_goto, f_iald, f_icmp, f_if0, f_iinc, f_iret, f_loadI, f_loadR, f_push, f_storeI, stN, lget, lput, clrL, lputL, lenLe, lenGe, noL, swL, List.elem_cons, List.elem_nil, List.take_succ_cons, List.take_zero, List.take_nil, List.drop_succ_cons, List.drop_zero, List.reverse_cons, List.reverse_nil, List.nil_append, List.cons_append, Option.toList_some, Option.toList_none, Bool.and_true, Bool.or_false, Bool.false_or, Bool.true_or, Bool.and_self, true_and, and_true, Nat.reduceAdd, Nat.reduceBEq, Int.reduceAdd, Int.reduceNeg, Int.reduceLE, Int.reduceLT, Int.reduceSub, Int.reduceMul, Int.reduceToNat, cEq, cNe, cLt, cGe, cGt, cLe, iR, lR, cl_0, cl_1, cl_4, cl_9, cl_86, al_2, al_3, al_5, al_13, al_6, al_7, al_8, al_10, al_11, al_87, al_88, al_90, al_91, al_92, al_93, al_94, al_95, al_96, al_97, al_98, al_99, al_100, ne_eq, not_true_eq_false, not_false_eq_true, upM_eq, upM_ni, upM_nj, upM_24, upM_48, upM_i24, upM_i48, upM_2448, upM_4824, Nat.reduceEqDiff, reduceCtorEq, or_true, true_or, Int.reduceEq, true_implies, false_implies, Int.reducePow, Int.toNat_natCast]
        exact k1 y hs.symm
      · rw [if_neg q] at hs ⊢
        refine Runs.go S.1 mo_X2_nextPlace [9, 14, 24] 25 ?_
        simp only [e_X2_nextPlace_0, e_X2_nextPlace_1, e_X2_nextPlace_4, e_X2_nextPlace_5, e_X2_nextPlace_6, e_X2_nextPlace_7, e_X2_nextPlace_8, e_X2_nextPlace_9, e_X2_nextPlace_10, e_X2_nextPlace_11, e_X2_nextPlace_14, e_X2_nextPlace_17, e_X2_nextPlace_18, e_X2_nextPlace_19, e_X2_nextPlace_20, e_X2_nextPlace_21, e_X2_nextPlace_24, e_X2_nextPlace_27, e_X2_nextPlace_28, e_X2_nextPlace_29, e_X2_nextPlace_32, e_X2_nextPlace_35, e_X2_nextPlace_36, f_add, f_callV, f_getR, f_goto, f_iald, f_icmp, f_if0, f_iinc, f_iret, f_loadI, f_loadR, f_push, f_storeI, stN, lget, lput, clrL, lputL, lenLe, lenGe, noL, swL, List.elem_cons, List.elem_nil, List.take_succ_cons, List.take_zero, List.take_nil, List.drop_succ_cons, List.drop_zero, List.reverse_cons, List.reverse_nil, List.nil_append, List.cons_append, Option.toList_some, Option.toList_none, Bool.and_true, Bool.or_false, Bool.false_or, Bool.true_or, Bool.and_self, true_and, and_true, Nat.reduceAdd, Nat.reduceBEq, Int.reduceAdd, Int.reduceNeg, Int.reduceLE, Int.reduceLT, Int.reduceSub, Int.reduceMul, Int.reduceToNat, cEq, cNe, cLt, cGe, cGt, cLe, iR, lR, cl_0, cl_1, cl_4, cl_9, cl_86, al_2, al_3, al_5, al_13, al_6, al_7, al_8, al_10, al_11, al_87, al_88, al_90, al_91, al_92, al_93, al_94, al_95, al_96, al_97, al_98, al_99, al_100, ne_eq, not_true_eq_false, not_false_eq_true, upM_eq, upM_ni, upM_nj, upM_24, upM_48, upM_i24, upM_i48, upM_2448, upM_4824, Nat.reduceEqDiff, reduceCtorEq, or_true, true_or, Int.reduceEq, true_implies, false_implies, Int.reducePow, Int.toNat_natCast]
        exact ih (y + 1) (by omega) (by omega) hs
  refine en_X2_nextPlace S ?_
  refine Runs.go S.1 mo_X2_nextPlace [9, 14, 24] 25 ?_
  simp only [e_X2_nextPlace_0, e_X2_nextPlace_1, e_X2_nextPlace_4, e_X2_nextPlace_5, e_X2_nextPlace_6, e_X2_nextPlace_7, e_X2_nextPlace_8, e_X2_nextPlace_9, e_X2_nextPlace_10, e_X2_nextPlace_11, e_X2_nextPlace_14, e_X2_nextPlace_17, e_X2_nextPlace_18, e_X2_nextPlace_19, e_X2_nextPlace_20, e_X2_nextPlace_21, e_X2_nextPlace_24, e_X2_nextPlace_27, e_X2_nextPlace_28, e_X2_nextPlace_29, e_X2_nextPlace_32, e_X2_nextPlace_35, e_X2_nextPlace_36, h8, f_add, f_callV, f_getR, f_goto, f_iald, f_icmp, f_if0, f_iinc, f_iret, f_loadI, f_loadR, f_push, f_storeI, stN, lget, lput, clrL, lputL, lenLe, lenGe, noL, swL, List.elem_cons, List.elem_nil, List.take_succ_cons, List.take_zero, List.take_nil, List.drop_succ_cons, List.drop_zero, List.reverse_cons, List.reverse_nil, List.nil_append, List.cons_append, Option.toList_some, Option.toList_none, Bool.and_true, Bool.or_false, Bool.false_or, Bool.true_or, Bool.and_self, true_and, and_true, Nat.reduceAdd, Nat.reduceBEq, Int.reduceAdd, Int.reduceNeg, Int.reduceLE, Int.reduceLT, Int.reduceSub, Int.reduceMul, Int.reduceToNat, cEq, cNe, cLt, cGe, cGt, cLe, iR, lR, cl_0, cl_1, cl_4, cl_9, cl_86, al_2, al_3, al_5, al_13, al_6, al_7, al_8, al_10, al_11, al_87, al_88, al_90, al_91, al_92, al_93, al_94, al_95, al_96, al_97, al_98, al_99, al_100, ne_eq, not_true_eq_false, not_false_eq_true, upM_eq, upM_ni, upM_nj, upM_24, upM_48, upM_i24, upM_i48, upM_2448, upM_4824, Nat.reduceEqDiff, reduceCtorEq, or_true, true_or, Int.reduceEq, true_implies, false_implies, Int.reducePow, Int.toNat_natCast]
  refine ⟨by omega, ?_⟩
  rw [show (x : Int) - 1 + 1 = (x : Nat) by omega]
  exact loop (nR N i - x) x (by omega) (Nat.le_refl _) rfl
set_option maxRecDepth 40000 in
set_option maxHeartbeats 4000000 in
theorem c_X2_goToNextMatch (S : Snd C) {i x : Nat} {l rs : List Nat} (hi : IRow i) (hl : PL l) (h1l : 0 < l.length) (hR : RowOk N i) (hg : WFg N) (hT : TU N l) {M : tM} (hE : E8 N M) (hrs : rs.length < l.length) (hP : PS M rs) (hv : ∀ p ∈ rs, p < nR N i) (h8 : M 8 rs.length = (x : Int) - 1) (hx : x ≤ nR N i) (k0 : skR N i l rs x = none → ∀ M2, E8 N M2 → Q (some (vI 0)) M2) (k1 : ∀ rs', skR N i l rs x = some rs' → ∀ M2, E8 N M2 → PS M2 rs' → Q (some (vI 1)) M2) : C (d + 3) 21 [vR 4, vR i, vI rs.length] M Q := by
  have h4 := hl.1
  have hRn := hR.n
  have hR1 := hR.1
  have hB : BIG = 1000000 := rfl
  have loop : ∀ (f : Nat), f ≤ BIG → ∀ (rs2 : List Nat) (y : Nat) (M2 : tM), E8 N M2 → rs2.length < l.length → PS M2 rs2 → (∀ p ∈ rs2, p < nR N i) → M2 8 rs2.length = (y : Int) - 1 → y ≤ nR N i → seek (nR N i) (okR N i l) (l.length - 1) f rs2 y = skR N i l rs x → Runs C (tabF k_X2_goToNextMatch) (d + 3) Q 5 [some (vR 4), some (vR i), some (vI rs.length), some (vI rs2.length), some (vI (1000000 - (f : Int)))] [] M2 := by
    intro f
    induction f with
    | zero =>
      intro _ rs2 y M2 hE2 hl2 hP2 hv2 h82 hy hs
      refine Runs.go S.1 mo_X2_goToNextMatch [5, 27] 50 ?_
      simp only [e_X2_goToNextMatch_0, e_X2_goToNextMatch_1, e_X2_goToNextMatch_2, e_X2_goToNextMatch_3, e_X2_goToNextMatch_5, e_X2_goToNextMatch_7, e_X2_goToNextMatch_9, e_X2_goToNextMatch_12, e_X2_goToNextMatch_13, e_X2_goToNextMatch_16, e_X2_goToNextMatch_17, e_X2_goToNextMatch_20, e_X2_goToNextMatch_21, e_X2_goToNextMatch_22, e_X2_goToNextMatch_23, e_X2_goToNextMatch_24, e_X2_goToNextMatch_27, e_X2_goToNextMatch_28, e_X2_goToNextMatch_29, e_X2_goToNextMatch_32, e_X2_goToNextMatch_33, e_X2_goToNextMatch_34, e_X2_goToNextMatch_35, e_X2_goToNextMatch_38, e_X2_goToNextMatch_41, e_X2_goToNextMatch_44, e_X2_goToNextMatch_45, e_X2_goToNextMatch_46, e_X2_goToNextMatch_49, e_X2_goToNextMatch_50, e_X2_goToNextMatch_51, e_X2_goToNextMatch_54, e_X2_goToNextMatch_55, e_X2_goToNextMatch_56, e_X2_goToNextMatch_57, e_X2_goToNextMatch_60, e_X2_goToNextMatch_61, e_X2_goToNextMatch_62, e_X2_goToNextMatch_63, e_X2_goToNextMatch_64, e_X2_goToNextMatch_67, e_X2_goToNextMatch_68, e_X2_goToNextMatch_69, e_X2_goToNextMatch_70, e_X2_goToNextMatch_73, e_X2_goToNextMatch_76, e_X2_goToNextMatch_79, e_X2_goToNextMatch_80, f_add, f_callV, f_getI, f_getR, f_goto, f_iald, f_iast, f_icmp, f_if0, f_iinc, f_loadI, f_loadR, f_push, f_storeI, f_sub, f_zret, stN, lget, lput, clrL, lputL, lenLe, lenGe, noL, swL, List.elem_cons, List.elem_nil, List.take_succ_cons, List.take_zero, List.take_nil, List.drop_succ_cons, List.drop_zero, List.reverse_cons, List.reverse_nil, List.nil_append, List.cons_append, Option.toList_some, Option.toList_none, Bool.and_true, Bool.or_false, Bool.false_or, Bool.true_or, Bool.and_self, true_and, and_true, Nat.reduceAdd, Nat.reduceBEq, Int.reduceAdd, Int.reduceNeg, Int.reduceLE, Int.reduceLT, Int.reduceSub, Int.reduceMul, Int.reduceToNat, cEq, cNe, cLt, cGe, cGt, cLe, iR, lR, cl_0, cl_1, cl_4, cl_9, cl_86, al_2, al_3, al_5, al_13, al_6, al_7, al_8, al_10, al_11, al_87, al_88, al_90, al_91, al_92, al_93, al_94, al_95, al_96, al_97, al_98, al_99, al_100, ne_eq, not_true_eq_false, not_false_eq_true, upM_eq, upM_ni, upM_nj, upM_24, upM_48, upM_i24, upM_i48, upM_2448, upM_4824, Nat.reduceEqDiff, reduceCtorEq, or_true, true_or, Int.reduceEq, true_implies, false_implies, Int.reducePow, Int.toNat_natCast]
      exact ⟨by omega, fun _ => k0 (by rw [← hs]; rfl) M2 hE2, fun z => by omega⟩
    | succ f ih =>
      intro hf rs2 y M2 hE2 hl2 hP2 hv2 h82 hy hs
      have hlen : ∀ M3, E8 N M3 → M3 4 3 = l.length := fun M3 h3 => by rw [h3 4 (by decide)]; exact hT.1
      refine Runs.go S.1 mo_X2_goToNextMatch [5, 27] 50 ?_
      simp only [e_X2_goToNextMatch_0, e_X2_goToNextMatch_1, e_X2_goToNextMatch_2, e_X2_goToNextMatch_3, e_X2_goToNextMatch_5, e_X2_goToNextMatch_7, e_X2_goToNextMatch_9, e_X2_goToNextMatch_12, e_X2_goToNextMatch_13, e_X2_goToNextMatch_16, e_X2_goToNextMatch_17, e_X2_goToNextMatch_20, e_X2_goToNextMatch_21, e_X2_goToNextMatch_22, e_X2_goToNextMatch_23, e_X2_goToNextMatch_24, e_X2_goToNextMatch_27, e_X2_goToNextMatch_28, e_X2_goToNextMatch_29, e_X2_goToNextMatch_32, e_X2_goToNextMatch_33, e_X2_goToNextMatch_34, e_X2_goToNextMatch_35, e_X2_goToNextMatch_38, e_X2_goToNextMatch_41, e_X2_goToNextMatch_44, e_X2_goToNextMatch_45, e_X2_goToNextMatch_46, e_X2_goToNextMatch_49, e_X2_goToNextMatch_50, e_X2_goToNextMatch_51, e_X2_goToNextMatch_54, e_X2_goToNextMatch_55, e_X2_goToNextMatch_56, e_X2_goToNextMatch_57, e_X2_goToNextMatch_60, e_X2_goToNextMatch_61, e_X2_goToNextMatch_62, e_X2_goToNextMatch_63, e_X2_goToNextMatch_64, e_X2_goToNextMatch_67, e_X2_goToNextMatch_68, e_X2_goToNextMatch_69, e_X2_goToNextMatch_70, e_X2_goToNextMatch_73, e_X2_goToNextMatch_76, e_X2_goToNextMatch_79, e_X2_goToNextMatch_80, f_add, f_callV, f_getI, f_getR, f_goto, f_iald, f_iast, f_icmp, f_if0, f_iinc, f_loadI, f_loadR, f_push, f_storeI, f_sub, f_zret, stN, lget, lput, clrL, lputL, lenLe, lenGe, noL, swL, List.elem_cons, List.elem_nil, List.take_succ_cons, List.take_zero, List.take_nil, List.drop_succ_cons, List.drop_zero, List.reverse_cons, List.reverse_nil, List.nil_append, List.cons_append, Option.toList_some, Option.toList_none, Bool.and_true, Bool.or_false, Bool.false_or, Bool.true_or, Bool.and_self, true_and, and_true, Nat.reduceAdd, Nat.reduceBEq, Int.reduceAdd, Int.reduceNeg, Int.reduceLE, Int.reduceLT, Int.reduceSub, Int.reduceMul, Int.reduceToNat, cEq, cNe, cLt, cGe, cGt, cLe, iR, lR, cl_0, cl_1, cl_4, cl_9, cl_86, al_2, al_3, al_5, al_13, al_6, al_7, al_8, al_10, al_11, al_87, al_88, al_90, al_91, al_92, al_93, al_94, al_95, al_96, al_97, al_98, al_99, al_100, ne_eq, not_true_eq_false, not_false_eq_true, upM_eq, upM_ni, upM_nj, upM_24, upM_48, upM_i24, upM_i48, upM_2448, upM_4824, Nat.reduceEqDiff, reduceCtorEq, or_true, true_or, Int.reduceEq, true_implies, false_implies, Int.reducePow, Int.toNat_natCast]
      refine ⟨by omega, fun z => by omega, fun _ => ⟨by omega, fun z => by omega, fun _ => ?_⟩⟩
      refine c_X2_nextPlace S hi hl hR hg hT hE2 hl2 hP2 hv2 h82 hy (fun hn => ?_) (fun v hn => ?_)
      · refine Runs.go S.1 mo_X2_goToNextMatch [5, 27] 50 ?_
        simp only [e_X2_goToNextMatch_0, e_X2_goToNextMatch_1, e_X2_goToNextMatch_2, e_X2_goToNextMatch_3, e_X2_goToNextMatch_5, e_X2_goToNextMatch_7, e_X2_goToNextMatch_9, e_X2_goToNextMatch_12, e_X2_goToNextMatch_13, e_X2_goToNextMatch_16, e_X2_goToNextMatch_17, e_X2_goToNextMatch_20, e_X2_goToNextMatch_21, e_X2_goToNextMatch_22, e_X2_goToNextMatch_23, e_X2_goToNextMatch_24, e_X2_goToNextMatch_27, e_X2_goToNextMatch_28, e_X2_goToNextMatch_29, e_X2_goToNextMatch_32, e_X2_goToNextMatch_33, e_X2_goToNextMatch_34, e_X2_goToNextMatch_35, e_X2_goToNextMatch_38, e_X2_goToNextMatch_41, e_X2_goToNextMatch_44, e_X2_goToNextMatch_45, e_X2_goToNextMatch_46, e_X2_goToNextMatch_49, e_X2_goToNextMatch_50, e_X2_goToNextMatch_51, e_X2_goToNextMatch_54, e_X2_goToNextMatch_55, e_X2_goToNextMatch_56, e_X2_goToNextMatch_57, e_X2_goToNextMatch_60, e_X2_goToNextMatch_61, e_X2_goToNextMatch_62, e_X2_goToNextMatch_63, e_X2_goToNextMatch_64, e_X2_goToNextMatch_67, e_X2_goToNextMatch_68, e_X2_goToNextMatch_69, e_X2_goToNextMatch_70, e_X2_goToNextMatch_73, e_X2_goToNextMatch_76, e_X2_goToNextMatch_79, e_X2_goToNextMatch_80, f_add, f_callV, f_getI, f_getR, f_goto, f_iald, f_iast, f_icmp, f_if0, f_iinc, f_loadI, f_loadR, f_push, f_storeI, f_sub, f_zret, stN, lget, lput, clrL, lputL, lenLe, lenGe, noL, swL, List.elem_cons, List.elem_nil, List.take_succ_cons, List.take_zero, List.take_nil, List.drop_succ_cons, List.drop_zero, List.reverse_cons, List.reverse_nil, List.nil_append, List.cons_append, Option.toList_some, Option.toList_none, Bool.and_true, Bool.or_false, Bool.false_or, Bool.true_or, Bool.and_self, true_and, and_true, Nat.reduceAdd, Nat.reduceBEq, Int.reduceAdd, Int.reduceNeg, Int.reduceLE, Int.reduceLT, Int.reduceSub, Int.reduceMul, Int.reduceToNat, cEq, cNe, cLt, cGe, cGt, cLe, iR, lR, cl_0, cl_1, cl_4, cl_9, cl_86, al_2, al_3, al_5, al_13, al_6, al_7, al_8, al_10, al_11, al_87, al_88, al_90, al_91, al_92, al_93, al_94, al_95, al_96, al_97, al_98, al_99, al_100, ne_eq, not_true_eq_false, not_false_eq_true, upM_eq, upM_ni, upM_nj, upM_24, upM_48, upM_i24, upM_i48, upM_2448, upM_4824, Nat.reduceEqDiff, reduceCtorEq, or_true, true_or, Int.reduceEq, true_implies, false_implies, Int.reducePow, Int.toNat_natCast]
        refine ⟨by omega, by omega, ?_⟩
        cases rs2 with
        | nil =>
          rw [seek_nn hn] at hs
          simp only [List.length_nil]
          refine Runs.go S.1 mo_X2_goToNextMatch [5, 27] 50 ?_
          simp only [e_X2_goToNextMatch_0, e_X2_goToNextMatch_1, e_X2_goToNextMatch_2, e_X2_goToNextMatch_3, e_X2_goToNextMatch_5, e_X2_goToNextMatch_7, e_X2_goToNextMatch_9, e_X2_goToNextMatch_12, e_X2_goToNextMatch_13, e_X2_goToNextMatch_16, e_X2_goToNextMatch_17, e_X2_goToNextMatch_20, e_X2_goToNextMatch_21, e_X2_goToNextMatch_22, e_X2_goToNextMatch_23, e_X2_goToNextMatch_24, e_X2_goToNextMatch_27, e_X2_goToNextMatch_28, e_X2_goToNextMatch_29, e_X2_goToNextMatch_32, e_X2_goToNextMatch_33, e_X2_goToNextMatch_34, e_X2_goToNextMatch_35, e_X2_goToNextMatch_38, e_X2_goToNextMatch_41, e_X2_goToNextMatch_44, e_X2_goToNextMatch_45, e_X2_goToNextMatch_46, e_X2_goToNextMatch_49, e_X2_goToNextMatch_50, e_X2_goToNextMatch_51, e_X2_goToNextMatch_54, e_X2_goToNextMatch_55, e_X2_goToNextMatch_56, e_X2_goToNextMatch_57, e_X2_goToNextMatch_60, e_X2_goToNextMatch_61, e_X2_goToNextMatch_62, e_X2_goToNextMatch_63, e_X2_goToNextMatch_64, e_X2_goToNextMatch_67, e_X2_goToNextMatch_68, e_X2_goToNextMatch_69, e_X2_goToNextMatch_70, e_X2_goToNextMatch_73, e_X2_goToNextMatch_76, e_X2_goToNextMatch_79, e_X2_goToNextMatch_80, f_add, f_callV, f_getI, f_getR, f_goto, f_iald, f_iast, f_icmp, f_if0, f_iinc, f_loadI, f_loadR, f_push, f_storeI, f_sub, f_zret, stN, lget, lput, clrL, lputL, lenLe, lenGe, noL, swL, List.elem_cons, List.elem_nil, List.take_succ_cons, List.take_zero, List.take_nil, List.drop_succ_cons, List.drop_zero, List.reverse_cons, List.reverse_nil, List.nil_append, List.cons_append, Option.toList_some, Option.toList_none, Bool.and_true, Bool.or_false, Bool.false_or, Bool.true_or, Bool.and_self, true_and, and_true, Nat.reduceAdd, Nat.reduceBEq, Int.reduceAdd, Int.reduceNeg, Int.reduceLE, Int.reduceLT, Int.reduceSub, Int.reduceMul, Int.reduceToNat, cEq, cNe, cLt, cGe, cGt, cLe, iR, lR, cl_0, cl_1, cl_4, cl_9, cl_86, al_2, al_3, al_5, al_13, al_6, al_7, al_8, al_10, al_11, al_87, al_88, al_90, al_91, al_92, al_93, al_94, al_95, al_96, al_97, al_98, al_99, al_100, ne_eq, not_true_eq_false, not_false_eq_true, upM_eq, upM_ni, upM_nj, upM_24, upM_48, upM_i24, upM_i48, upM_2448, upM_4824, Nat.reduceEqDiff, reduceCtorEq, or_true, true_or, Int.reduceEq, true_implies, false_implies, Int.reducePow, Int.toNat_natCast]
          refine ⟨by omega, fun z => k0 hs.symm _ (fun a h => by rw [upM_o h]; exact hE2 a h), fun _ => ⟨by omega, fun _ => k0 hs.symm _ (fun a h => by rw [upM_o h]; exact hE2 a h), fun z => by omega⟩⟩
        | cons p rs2 =>
          rw [seek_nc hn] at hs
          have := ih (by omega) rs2 (p + 1) (upM M2 8 (p :: rs2).length (-1)) (fun a h => by rw [upM_o h]; exact hE2 a h) (by simp at hl2; omega) (hP2.pop (fun j hj => upM_nj (by simp; omega))) (fun q hq => hv2 q (List.mem_cons_of_mem _ hq)) (by
            rw [upM_nj (by simp)]
            have := hP2 rs2.length (by simp)
            rw [show ((p :: rs2).length - 1 - rs2.length) = 0 by simp] at this
            rw [this]
            show ((p : Nat) : Int) = _
            omega) (by have := hv2 p List.mem_cons_self; omega) hs
          rw [show ((p :: rs2).length : Int) + -1 = (rs2.length : Int) by simp; omega, show 1000000 - ((f + 1 : Nat) : Int) + 1 = 1000000 - (f : Int) by omega]
          exact this
      · obtain ⟨v1, v2, -⟩ := srch_ok hn
        have hE3 : E8 N (upM M2 8 rs2.length v) := fun a h => by rw [upM_o h]; exact hE2 a h
        have hl3 := hlen _ hE3
        have hPv : PS (upM M2 8 rs2.length v) (v :: rs2) := hP2.push (fun j hj => upM_nj (by omega)) upM_eq
        have hvv : ∀ q ∈ v :: rs2, q < nR N i := by
          intro q hq
          rcases List.mem_cons.mp hq with z | z
          · omega
          · exact hv2 q z
        rw [upM_ni (by decide)] at hl3
        refine Runs.go S.1 mo_X2_goToNextMatch [5, 27] 50 ?_
        simp only [e_X2_goToNextMatch_0, e_X2_goToNextMatch_1, e_X2_goToNextMatch_2, e_X2_goToNextMatch_3, e_X2_goToNextMatch_5, e_X2_goToNextMatch_7, e_X2_goToNextMatch_9, e_X2_goToNextMatch_12, e_X2_goToNextMatch_13, e_X2_goToNextMatch_16, e_X2_goToNextMatch_17, e_X2_goToNextMatch_20, e_X2_goToNextMatch_21, e_X2_goToNextMatch_22, e_X2_goToNextMatch_23, e_X2_goToNextMatch_24, e_X2_goToNextMatch_27, e_X2_goToNextMatch_28, e_X2_goToNextMatch_29, e_X2_goToNextMatch_32, e_X2_goToNextMatch_33, e_X2_goToNextMatch_34, e_X2_goToNextMatch_35, e_X2_goToNextMatch_38, e_X2_goToNextMatch_41, e_X2_goToNextMatch_44, e_X2_goToNextMatch_45, e_X2_goToNextMatch_46, e_X2_goToNextMatch_49, e_X2_goToNextMatch_50, e_X2_goToNextMatch_51, e_X2_goToNextMatch_54, e_X2_goToNextMatch_55, e_X2_goToNextMatch_56, e_X2_goToNextMatch_57, e_X2_goToNextMatch_60, e_X2_goToNextMatch_61, e_X2_goToNextMatch_62, e_X2_goToNextMatch_63, e_X2_goToNextMatch_64, e_X2_goToNextMatch_67, e_X2_goToNextMatch_68, e_X2_goToNextMatch_69, e_X2_goToNextMatch_70, e_X2_goToNextMatch_73, e_X2_goToNextMatch_76, e_X2_goToNextMatch_79, e_X2_goToNextMatch_80, hl3, f_add, f_callV, f_getI, f_getR, f_goto, f_iald, f_iast, f_icmp, f_if0, f_iinc, f_loadI, f_loadR, f_push, f_storeI, f_sub, f_zret, stN, lget, lput, clrL, lputL, lenLe, lenGe, noL, swL, List.elem_cons, List.elem_nil, List.take_succ_cons, List.take_zero, List.take_nil, List.drop_succ_cons, List.drop_zero, List.reverse_cons, List.reverse_nil, List.nil_append, List.cons_append, Option.toList_some, Option.toList_none, Bool.and_true, Bool.or_false, Bool.false_or, Bool.true_or, Bool.and_self, true_and, and_true, Nat.reduceAdd, Nat.reduceBEq, Int.reduceAdd, Int.reduceNeg, Int.reduceLE, Int.reduceLT, Int.reduceSub, Int.reduceMul, Int.reduceToNat, cEq, cNe, cLt, cGe, cGt, cLe, iR, lR, cl_0, cl_1, cl_4, cl_9, cl_86, al_2, al_3, al_5, al_13, al_6, al_7, al_8, al_10, al_11, al_87, al_88, al_90, al_91, al_92, al_93, al_94, al_95, al_96, al_97, al_98, al_99, al_100, ne_eq, not_true_eq_false, not_false_eq_true, upM_eq, upM_ni, upM_nj, upM_24, upM_48, upM_i24, upM_i48, upM_2448, upM_4824, Nat.reduceEqDiff, reduceCtorEq, or_true, true_or, Int.reduceEq, true_implies, false_implies, Int.reducePow, Int.toNat_natCast]
        refine ⟨by omega, by omega, by omega, by omega, by omega, fun q => ⟨by omega, by omega, ?_⟩, fun q => ?_⟩
        · rw [seek_ss hn (by omega)] at hs
          have := ih (by omega) (v :: rs2) (v + 1) (upM (upM M2 8 rs2.length v) 8 (rs2.length + 1) v) (fun a h => by rw [upM_o h]; exact hE3 a h) (by simp; omega) (fun j hj => by rw [upM_nj (by simp at hj; omega)]; exact hPv j hj) hvv (by rw [List.length_cons, upM_eq]; omega) (by omega) hs
          rw [show 1000000 - ((f + 1 : Nat) : Int) + 1 = 1000000 - (f : Int) by omega, show ((rs2.length : Int) + 1).toNat = rs2.length + 1 by omega]
          rw [List.length_cons, Int.natCast_add] at this
          exact this
        · rw [seek_sl hn (by omega)] at hs
          exact k1 _ hs.symm _ hE3 hPv
  have := loop BIG (Nat.le_refl _) rs x M hE hrs hP hv h8 hx rfl
  refine en_X2_goToNextMatch S ?_
  refine Runs.go S.1 mo_X2_goToNextMatch [5, 27] 50 ?_
  simp only [e_X2_goToNextMatch_0, e_X2_goToNextMatch_1, e_X2_goToNextMatch_2, e_X2_goToNextMatch_3, e_X2_goToNextMatch_5, e_X2_goToNextMatch_7, e_X2_goToNextMatch_9, e_X2_goToNextMatch_12, e_X2_goToNextMatch_13, e_X2_goToNextMatch_16, e_X2_goToNextMatch_17, e_X2_goToNextMatch_20, e_X2_goToNextMatch_21, e_X2_goToNextMatch_22, e_X2_goToNextMatch_23, e_X2_goToNextMatch_24, e_X2_goToNextMatch_27, e_X2_goToNextMatch_28, e_X2_goToNextMatch_29, e_X2_goToNextMatch_32, e_X2_goToNextMatch_33, e_X2_goToNextMatch_34, e_X2_goToNextMatch_35, e_X2_goToNextMatch_38, e_X2_goToNextMatch_41, e_X2_goToNextMatch_44, e_X2_goToNextMatch_45, e_X2_goToNextMatch_46, e_X2_goToNextMatch_49, e_X2_goToNextMatch_50, e_X2_goToNextMatch_51, e_X2_goToNextMatch_54, e_X2_goToNextMatch_55, e_X2_goToNextMatch_56, e_X2_goToNextMatch_57, e_X2_goToNextMatch_60, e_X2_goToNextMatch_61, e_X2_goToNextMatch_62, e_X2_goToNextMatch_63, e_X2_goToNextMatch_64, e_X2_goToNextMatch_67, e_X2_goToNextMatch_68, e_X2_goToNextMatch_69, e_X2_goToNextMatch_70, e_X2_goToNextMatch_73, e_X2_goToNextMatch_76, e_X2_goToNextMatch_79, e_X2_goToNextMatch_80, f_add, f_callV, f_getI, f_getR, f_goto, f_iald, f_iast, f_icmp, f_if0, f_iinc, f_loadI, f_loadR, f_push, f_storeI, f_sub, f_zret, stN, lget, lput, clrL, lputL, lenLe, lenGe, noL, swL, List.elem_cons, List.elem_nil, List.take_succ_cons, List.take_zero, List.take_nil, List.drop_succ_cons, List.drop_zero, List.reverse_cons, List.reverse_nil, List.nil_append, List.cons_append, Option.toList_some, Option.toList_none, Bool.and_true, Bool.or_false, Bool.false_or, Bool.true_or, Bool.and_self, true_and, and_true, Nat.reduceAdd, Nat.reduceBEq, Int.reduceAdd, Int.reduceNeg, Int.reduceLE, Int.reduceLT, Int.reduceSub, Int.reduceMul, Int.reduceToNat, cEq, cNe, cLt, cGe, cGt, cLe, iR, lR, cl_0, cl_1, cl_4, cl_9, cl_86, al_2, al_3, al_5, al_13, al_6, al_7, al_8, al_10, al_11, al_87, al_88, al_90, al_91, al_92, al_93, al_94, al_95, al_96, al_97, al_98, al_99, al_100, ne_eq, not_true_eq_false, not_false_eq_true, upM_eq, upM_ni, upM_nj, upM_24, upM_48, upM_i24, upM_i48, upM_2448, upM_4824, Nat.reduceEqDiff, reduceCtorEq, or_true, true_or, Int.reduceEq, true_implies, false_implies, Int.reducePow, Int.toNat_natCast]
  rw [hB] at this
  exact this
set_option maxRecDepth 40000 in
set_option maxHeartbeats 4000000 in
theorem c_X2_goToFirstMatch (S : Snd C) {i : Nat} {l : List Nat} (hi : IRow i) (hl : PL l) (h1l : 0 < l.length) (hR : RowOk N i) (hg : WFg N) (hT : TU N l) (k0 : skR N i l [] 0 = none → ∀ M2, E8 N M2 → Q (some (vI 0)) M2) (k1 : ∀ rs', skR N i l [] 0 = some rs' → ∀ M2, E8 N M2 → PS M2 rs' → Q (some (vI 1)) M2) : C (d + 4) 20 [vR 4, vR i] N Q := by
  refine en_X2_goToFirstMatch S ?_
  refine Runs.go S.1 mo_X2_goToFirstMatch [13] 12 ?_
  simp only [e_X2_goToFirstMatch_0, e_X2_goToFirstMatch_1, e_X2_goToFirstMatch_4, e_X2_goToFirstMatch_5, e_X2_goToFirstMatch_6, e_X2_goToFirstMatch_7, e_X2_goToFirstMatch_8, e_X2_goToFirstMatch_9, e_X2_goToFirstMatch_10, e_X2_goToFirstMatch_13, f_callV, f_getR, f_iast, f_loadR, f_push, f_zret, stN, lget, lput, clrL, lputL, lenLe, lenGe, noL, swL, List.elem_cons, List.elem_nil, List.take_succ_cons, List.take_zero, List.take_nil, List.drop_succ_cons, List.drop_zero, List.reverse_cons, List.reverse_nil, List.nil_append, List.cons_append, Option.toList_some, Option.toList_none, Bool.and_true, Bool.or_false, Bool.false_or, Bool.true_or, Bool.and_self, true_and, and_true, Nat.reduceAdd, Nat.reduceBEq, Int.reduceAdd, Int.reduceNeg, Int.reduceLE, Int.reduceLT, Int.reduceSub, Int.reduceMul, Int.reduceToNat, cEq, cNe, cLt, cGe, cGt, cLe, iR, lR, cl_0, cl_1, cl_4, cl_9, cl_86, al_2, al_3, al_5, al_13, al_6, al_7, al_8, al_10, al_11, al_87, al_88, al_90, al_91, al_92, al_93, al_94, al_95, al_96, al_97, al_98, al_99, al_100, ne_eq, not_true_eq_false, not_false_eq_true, upM_eq, upM_ni, upM_nj, upM_24, upM_48, upM_i24, upM_i48, upM_2448, upM_4824, Nat.reduceEqDiff, reduceCtorEq, or_true, true_or, Int.reduceEq, true_implies, false_implies, Int.reducePow, Int.toNat_natCast]
  have := c_X2_goToNextMatch (d := d) (N := N) (Q := fun r M2 => Runs C (tabF k_X2_goToFirstMatch) (d + 4) Q 13 [some (vR 4), some (vR i)] (r.toList ++ []) M2) S (rs := []) (x := 0) hi hl h1l hR hg hT (M := upM N 8 0 (-1)) (fun a h => upM_o h) (by simp; omega) (fun j hj => by simp at hj) (fun p hp => by cases hp) upM_eq (Nat.zero_le _) (fun hs M2 hE2 => by
    refine Runs.go S.1 mo_X2_goToFirstMatch [13] 12 ?_
    simp only [e_X2_goToFirstMatch_0, e_X2_goToFirstMatch_1, e_X2_goToFirstMatch_4, e_X2_goToFirstMatch_5, e_X2_goToFirstMatch_6, e_X2_goToFirstMatch_7, e_X2_goToFirstMatch_8, e_X2_goToFirstMatch_9, e_X2_goToFirstMatch_10, e_X2_goToFirstMatch_13, f_callV, f_getR, f_iast, f_loadR, f_push, f_zret, stN, lget, lput, clrL, lputL, lenLe, lenGe, noL, swL, List.elem_cons, List.elem_nil, List.take_succ_cons, List.take_zero, List.take_nil, List.drop_succ_cons, List.drop_zero, List.reverse_cons, List.reverse_nil, List.nil_append, List.cons_append, Option.toList_some, Option.toList_none, Bool.and_true, Bool.or_false, Bool.false_or, Bool.true_or, Bool.and_self, true_and, and_true, Nat.reduceAdd, Nat.reduceBEq, Int.reduceAdd, Int.reduceNeg, Int.reduceLE, Int.reduceLT, Int.reduceSub, Int.reduceMul, Int.reduceToNat, cEq, cNe, cLt, cGe, cGt, cLe, iR, lR, cl_0, cl_1, cl_4, cl_9, cl_86, al_2, al_3, al_5, al_13, al_6, al_7, al_8, al_10, al_11, al_87, al_88, al_90, al_91, al_92, al_93, al_94, al_95, al_96, al_97, al_98, al_99, al_100, ne_eq, not_true_eq_false, not_false_eq_true, upM_eq, upM_ni, upM_nj, upM_24, upM_48, upM_i24, upM_i48, upM_2448, upM_4824, Nat.reduceEqDiff, reduceCtorEq, or_true, true_or, Int.reduceEq, true_implies, false_implies, Int.reducePow, Int.toNat_natCast]
    exact k0 hs M2 hE2) (fun rs' hs M2 hE2 hP => by
    refine Runs.go S.1 mo_X2_goToFirstMatch [13] 12 ?_
    simp only [e_X2_goToFirstMatch_0, e_X2_goToFirstMatch_1, e_X2_goToFirstMatch_4, e_X2_goToFirstMatch_5, e_X2_goToFirstMatch_6, e_X2_goToFirstMatch_7, e_X2_goToFirstMatch_8, e_X2_goToFirstMatch_9, e_X2_goToFirstMatch_10, e_X2_goToFirstMatch_13, f_callV, f_getR, f_iast, f_loadR, f_push, f_zret, stN, lget, lput, clrL, lputL, lenLe, lenGe, noL, swL, List.elem_cons, List.elem_nil, List.take_succ_cons, List.take_zero, List.take_nil, List.drop_succ_cons, List.drop_zero, List.reverse_cons, List.reverse_nil, List.nil_append, List.cons_append, Option.toList_some, Option.toList_none, Bool.and_true, Bool.or_false, Bool.false_or, Bool.true_or, Bool.and_self, true_and, and_true, Nat.reduceAdd, Nat.reduceBEq, Int.reduceAdd, Int.reduceNeg, Int.reduceLE, Int.reduceLT, Int.reduceSub, Int.reduceMul, Int.reduceToNat, cEq, cNe, cLt, cGe, cGt, cLe, iR, lR, cl_0, cl_1, cl_4, cl_9, cl_86, al_2, al_3, al_5, al_13, al_6, al_7, al_8, al_10, al_11, al_87, al_88, al_90, al_91, al_92, al_93, al_94, al_95, al_96, al_97, al_98, al_99, al_100, ne_eq, not_true_eq_false, not_false_eq_true, upM_eq, upM_ni, upM_nj, upM_24, upM_48, upM_i24, upM_i48, upM_2448, upM_4824, Nat.reduceEqDiff, reduceCtorEq, or_true, true_or, Int.reduceEq, true_implies, false_implies, Int.reducePow, Int.toNat_natCast]
    exact k1 rs' hs M2 hE2 hP)
  exact this
theorem cho_30 : ∀ k : Nat, k < 4 → cho 30 (k + 1) ≤ 27405 := by decide +kernel
set_option maxRecDepth 40000 in
set_option maxHeartbeats 4000000 in
theorem c_X2_matchesIn (S : Snd C) {i : Nat} {l : List Nat} (hi : IRow i) (hl : PL l) (h1l : 0 < l.length) (hR : RowOk N i) (hg : WFg N) (hT : TU N l) (k : ∀ M2, E8 N M2 → Q (some (vL (mcR N i l : Nat))) M2) : C (d + 5) 18 [vR 4, vR i] N Q := by
  have h4 := hl.1
  have hR1 := hR.1
  have hRn := hR.n
  have hX : MMX = 27405 := rfl
  have cm0 : ∀ f, cmO (nR N i) (okR N i l) (l.length - 1) f none = 0 := fun f => by cases f <;> rfl
  have loop : ∀ (f : Nat), f ≤ MMX → ∀ (o : Option (List Nat)) M, E8 N M → (∀ rs', o = some rs' → rs'.length = l.length ∧ (∀ p ∈ rs', p < nR N i) ∧ PS M rs' ∧ phR (nR N i) (l.length - 1) rs' + 1 ≤ f) → (MMX - f) + cmO (nR N i) (okR N i l) (l.length - 1) f o = mcR N i l → Runs C (tabF k_X2_matchesIn) (d + 5) Q 9 [some (vR 4), some (vR i), some (vL ((MMX - f : Nat) : Int)), none, some (vI (if o = none then 0 else 1))] [] M := by
    intro f
    induction f with
    | zero =>
      intro hf o M hE ho hc
      cases o with
      | none =>
        rw [if_pos rfl]
        rw [cm0] at hc
        refine Runs.go S.1 mo_X2_matchesIn [7, 9, 37] 29 ?_
        simp only [e_X2_matchesIn_0, e_X2_matchesIn_1, e_X2_matchesIn_2, e_X2_matchesIn_3, e_X2_matchesIn_4, e_X2_matchesIn_7, e_X2_matchesIn_9, e_X2_matchesIn_11, e_X2_matchesIn_14, e_X2_matchesIn_15, e_X2_matchesIn_18, e_X2_matchesIn_19, e_X2_matchesIn_22, e_X2_matchesIn_23, e_X2_matchesIn_24, e_X2_matchesIn_25, e_X2_matchesIn_26, e_X2_matchesIn_27, e_X2_matchesIn_28, e_X2_matchesIn_29, e_X2_matchesIn_32, e_X2_matchesIn_33, e_X2_matchesIn_34, e_X2_matchesIn_37, e_X2_matchesIn_39, e_X2_matchesIn_42, e_X2_matchesIn_43, f_callV, f_getI, f_goto, f_if0, f_ladd, f_lcmp, f_loadI, f_loadL, f_loadR, f_lret, f_push, f_pushL, f_storeI, f_storeL, f_sub, stN, lget, lput, clrL, lputL, lenLe, lenGe, noL, swL, List.elem_cons, List.elem_nil, List.take_succ_cons, List.take_zero, List.take_nil, List.drop_succ_cons, List.drop_zero, List.reverse_cons, List.reverse_nil, List.nil_append, List.cons_append, Option.toList_some, Option.toList_none, Bool.and_true, Bool.or_false, Bool.false_or, Bool.true_or, Bool.and_self, true_and, and_true, Nat.reduceAdd, Nat.reduceBEq, Int.reduceAdd, Int.reduceNeg, Int.reduceLE, Int.reduceLT, Int.reduceSub, Int.reduceMul, Int.reduceToNat, cEq, cNe, cLt, cGe, cGt, cLe, iR, lR, cl_0, cl_1, cl_4, cl_9, cl_86, al_2, al_3, al_5, al_13, al_6, al_7, al_8, al_10, al_11, al_87, al_88, al_90, al_91, al_92, al_93, al_94, al_95, al_96, al_97, al_98, al_99, al_100, ne_eq, not_true_eq_false, not_false_eq_true, upM_eq, upM_ni, upM_nj, upM_24, upM_48, upM_i24, upM_i48, upM_2448, upM_4824, Nat.reduceEqDiff, reduceCtorEq, or_true, true_or, Int.reduceEq, true_implies, false_implies, Int.reducePow, Int.toNat_natCast]
        have := k M hE
        rw [← hc] at this
        exact this
      | some rs' => have := (ho rs' rfl).2.2.2; omega
    | succ f ih =>
      intro hf o M hE ho hc
      cases o with
      | none =>
        rw [if_pos rfl]
        rw [cm0] at hc
        refine Runs.go S.1 mo_X2_matchesIn [7, 9, 37] 29 ?_
        simp only [e_X2_matchesIn_0, e_X2_matchesIn_1, e_X2_matchesIn_2, e_X2_matchesIn_3, e_X2_matchesIn_4, e_X2_matchesIn_7, e_X2_matchesIn_9, e_X2_matchesIn_11, e_X2_matchesIn_14, e_X2_matchesIn_15, e_X2_matchesIn_18, e_X2_matchesIn_19, e_X2_matchesIn_22, e_X2_matchesIn_23, e_X2_matchesIn_24, e_X2_matchesIn_25, e_X2_matchesIn_26, e_X2_matchesIn_27, e_X2_matchesIn_28, e_X2_matchesIn_29, e_X2_matchesIn_32, e_X2_matchesIn_33, e_X2_matchesIn_34, e_X2_matchesIn_37, e_X2_matchesIn_39, e_X2_matchesIn_42, e_X2_matchesIn_43, f_callV, f_getI, f_goto, f_if0, f_ladd, f_lcmp, f_loadI, f_loadL, f_loadR, f_lret, f_push, f_pushL, f_storeI, f_storeL, f_sub, stN, lget, lput, clrL, lputL, lenLe, lenGe, noL, swL, List.elem_cons, List.elem_nil, List.take_succ_cons, List.take_zero, List.take_nil, List.drop_succ_cons, List.drop_zero, List.reverse_cons, List.reverse_nil, List.nil_append, List.cons_append, Option.toList_some, Option.toList_none, Bool.and_true, Bool.or_false, Bool.false_or, Bool.true_or, Bool.and_self, true_and, and_true, Nat.reduceAdd, Nat.reduceBEq, Int.reduceAdd, Int.reduceNeg, Int.reduceLE, Int.reduceLT, Int.reduceSub, Int.reduceMul, Int.reduceToNat, cEq, cNe, cLt, cGe, cGt, cLe, iR, lR, cl_0, cl_1, cl_4, cl_9, cl_86, al_2, al_3, al_5, al_13, al_6, al_7, al_8, al_10, al_11, al_87, al_88, al_90, al_91, al_92, al_93, al_94, al_95, al_96, al_97, al_98, al_99, al_100, ne_eq, not_true_eq_false, not_false_eq_true, upM_eq, upM_ni, upM_nj, upM_24, upM_48, upM_i24, upM_i48, upM_2448, upM_4824, Nat.reduceEqDiff, reduceCtorEq, or_true, true_or, Int.reduceEq, true_implies, false_implies, Int.reducePow, Int.toNat_natCast]
        have := k M hE
        rw [← hc] at this
        exact this
      | some rs' =>
        obtain ⟨o1, o2, o3, o4⟩ := ho rs' rfl
        cases rs' with
        | nil => simp at o1; omega
        | cons v rs =>
          have hc2 : (MMX - (f + 1)) + (1 + cmO (nR N i) (okR N i l) (l.length - 1) f (skR N i l rs (v + 1))) = mcR N i l := hc
          have e1 : cmpL ((MMX - (f + 1) : Nat) : Int) 27405 = -1 := by unfold cmpL; rw [if_neg (by omega), if_neg (by omega)]
          have hlen : M 4 3 = l.length := by rw [hE 4 (by decide)]; exact hT.1
          rw [if_neg (by simp)]
          have e2 : ((MMX - (f + 1) : Nat) : Int) + 1 = ((MMX - f : Nat) : Int) := by omega
          refine Runs.go S.1 mo_X2_matchesIn [7, 9, 37] 29 ?_
          simp only [e_X2_matchesIn_0, e_X2_matchesIn_1, e_X2_matchesIn_2, e_X2_matchesIn_3, e_X2_matchesIn_4, e_X2_matchesIn_7, e_X2_matchesIn_9, e_X2_matchesIn_11, e_X2_matchesIn_14, e_X2_matchesIn_15, e_X2_matchesIn_18, e_X2_matchesIn_19, e_X2_matchesIn_22, e_X2_matchesIn_23, e_X2_matchesIn_24, e_X2_matchesIn_25, e_X2_matchesIn_26, e_X2_matchesIn_27, e_X2_matchesIn_28, e_X2_matchesIn_29, e_X2_matchesIn_32, e_X2_matchesIn_33, e_X2_matchesIn_34, e_X2_matchesIn_37, e_X2_matchesIn_39, e_X2_matchesIn_42, e_X2_matchesIn_43, e1, hlen, e2, f_callV, f_getI, f_goto, f_if0, f_ladd, f_lcmp, f_loadI, f_loadL, f_loadR, f_lret, f_push, f_pushL, f_storeI, f_storeL, f_sub, stN, lget, lput, clrL, lputL, lenLe, lenGe, noL, swL, List.elem_cons, List.elem_nil, List.take_succ_cons, List.take_zero, List.take_nil, List.drop_succ_cons, List.drop_zero, List.reverse_cons, List.reverse_nil, List.nil_append, List.cons_append, Option.toList_some, Option.toList_none, Bool.and_true, Bool.or_false, Bool.false_or, Bool.true_or, Bool.and_self, true_and, and_true, Nat.reduceAdd, Nat.reduceBEq, Int.reduceAdd, Int.reduceNeg, Int.reduceLE, Int.reduceLT, Int.reduceSub, Int.reduceMul, Int.reduceToNat, cEq, cNe, cLt, cGe, cGt, cLe, iR, lR, cl_0, cl_1, cl_4, cl_9, cl_86, al_2, al_3, al_5, al_13, al_6, al_7, al_8, al_10, al_11, al_87, al_88, al_90, al_91, al_92, al_93, al_94, al_95, al_96, al_97, al_98, al_99, al_100, ne_eq, not_true_eq_false, not_false_eq_true, upM_eq, upM_ni, upM_nj, upM_24, upM_48, upM_i24, upM_i48, upM_2448, upM_4824, Nat.reduceEqDiff, reduceCtorEq, or_true, true_or, Int.reduceEq, true_implies, false_implies, Int.reducePow, Int.toNat_natCast]
          refine ⟨⟨by omega, by omega⟩, ?_⟩
          have hv1 : M 8 rs.length = (v : Nat) := by
            have := o3 rs.length (by simp)
            rw [show ((v :: rs).length - 1 - rs.length) = 0 by simp] at this
            exact this
          have hrl : rs.length = l.length - 1 := by simp at o1; omega
          rw [show ((l.length : Int) - 1) = (rs.length : Int) by omega]
          refine c_X2_goToNextMatch S (rs := rs) (x := v + 1) hi hl h1l hR hg hT hE (by omega) (o3.pop (fun j hj => rfl)) (fun p hp => o2 p (List.mem_cons_of_mem _ hp)) (by rw [hv1]; omega) (by have := o2 v List.mem_cons_self; omega) (fun hs M2 hE2 => ?_) (fun rs2 hs M2 hE2 hP2 => ?_)
          · rw [hs] at hc2
            refine Runs.go S.1 mo_X2_matchesIn [7, 9, 37] 29 ?_
            simp only [e_X2_matchesIn_0, e_X2_matchesIn_1, e_X2_matchesIn_2, e_X2_matchesIn_3, e_X2_matchesIn_4, e_X2_matchesIn_7, e_X2_matchesIn_9, e_X2_matchesIn_11, e_X2_matchesIn_14, e_X2_matchesIn_15, e_X2_matchesIn_18, e_X2_matchesIn_19, e_X2_matchesIn_22, e_X2_matchesIn_23, e_X2_matchesIn_24, e_X2_matchesIn_25, e_X2_matchesIn_26, e_X2_matchesIn_27, e_X2_matchesIn_28, e_X2_matchesIn_29, e_X2_matchesIn_32, e_X2_matchesIn_33, e_X2_matchesIn_34, e_X2_matchesIn_37, e_X2_matchesIn_39, e_X2_matchesIn_42, e_X2_matchesIn_43, f_callV, f_getI, f_goto, f_if0, f_ladd, f_lcmp, f_loadI, f_loadL, f_loadR, f_lret, f_push, f_pushL, f_storeI, f_storeL, f_sub, stN, lget, lput, clrL, lputL, lenLe, lenGe, noL, swL, List.elem_cons, List.elem_nil, List.take_succ_cons, List.take_zero, List.take_nil, List.drop_succ_cons, List.drop_zero, List.reverse_cons, List.reverse_nil, List.nil_append, List.cons_append, Option.toList_some, Option.toList_none, Bool.and_true, Bool.or_false, Bool.false_or, Bool.true_or, Bool.and_self, true_and, and_true, Nat.reduceAdd, Nat.reduceBEq, Int.reduceAdd, Int.reduceNeg, Int.reduceLE, Int.reduceLT, Int.reduceSub, Int.reduceMul, Int.reduceToNat, cEq, cNe, cLt, cGe, cGt, cLe, iR, lR, cl_0, cl_1, cl_4, cl_9, cl_86, al_2, al_3, al_5, al_13, al_6, al_7, al_8, al_10, al_11, al_87, al_88, al_90, al_91, al_92, al_93, al_94, al_95, al_96, al_97, al_98, al_99, al_100, ne_eq, not_true_eq_false, not_false_eq_true, upM_eq, upM_ni, upM_nj, upM_24, upM_48, upM_i24, upM_i48, upM_2448, upM_4824, Nat.reduceEqDiff, reduceCtorEq, or_true, true_or, Int.reduceEq, true_implies, false_implies, Int.reducePow, Int.toNat_natCast]
            have := ih (by omega) none M2 hE2 (fun _ z => by cases z) (by rw [cm0] at hc2 ⊢; omega)
            rw [if_pos rfl] at this
            exact this
          · rw [hs] at hc2
            refine Runs.go S.1 mo_X2_matchesIn [7, 9, 37] 29 ?_
            simp only [e_X2_matchesIn_0, e_X2_matchesIn_1, e_X2_matchesIn_2, e_X2_matchesIn_3, e_X2_matchesIn_4, e_X2_matchesIn_7, e_X2_matchesIn_9, e_X2_matchesIn_11, e_X2_matchesIn_14, e_X2_matchesIn_15, e_X2_matchesIn_18, e_X2_matchesIn_19, e_X2_matchesIn_22, e_X2_matchesIn_23, e_X2_matchesIn_24, e_X2_matchesIn_25, e_X2_matchesIn_26, e_X2_matchesIn_27, e_X2_matchesIn_28, e_X2_matchesIn_29, e_X2_matchesIn_32, e_X2_matchesIn_33, e_X2_matchesIn_34, e_X2_matchesIn_37, e_X2_matchesIn_39, e_X2_matchesIn_42, e_X2_matchesIn_43, f_callV, f_getI, f_goto, f_if0, f_ladd, f_lcmp, f_loadI, f_loadL, f_loadR, f_lret, f_push, f_pushL, f_storeI, f_storeL, f_sub, stN, lget, lput, clrL, lputL, lenLe, lenGe, noL, swL, List.elem_cons, List.elem_nil, List.take_succ_cons, List.take_zero, List.take_nil, List.drop_succ_cons, List.drop_zero, List.reverse_cons, List.reverse_nil, List.nil_append, List.cons_append, Option.toList_some, Option.toList_none, Bool.and_true, Bool.or_false, Bool.false_or, Bool.true_or, Bool.and_self, true_and, and_true, Nat.reduceAdd, Nat.reduceBEq, Int.reduceAdd, Int.reduceNeg, Int.reduceLE, Int.reduceLT, Int.reduceSub, Int.reduceMul, Int.reduceToNat, cEq, cNe, cLt, cGe, cGt, cLe, iR, lR, cl_0, cl_1, cl_4, cl_9, cl_86, al_2, al_3, al_5, al_13, al_6, al_7, al_8, al_10, al_11, al_87, al_88, al_90, al_91, al_92, al_93, al_94, al_95, al_96, al_97, al_98, al_99, al_100, ne_eq, not_true_eq_false, not_false_eq_true, upM_eq, upM_ni, upM_nj, upM_24, upM_48, upM_i24, upM_i48, upM_2448, upM_4824, Nat.reduceEqDiff, reduceCtorEq, or_true, true_or, Int.reduceEq, true_implies, false_implies, Int.reducePow, Int.toNat_natCast]
            have hl2 := seek_len (by omega) (fun p hp => o2 p (List.mem_cons_of_mem _ hp)) hs
            have hph := seek_ph (by omega) hs
            rw [phR_c] at o4
            rw [show nR N i - (v + 1) = nR N i - 1 - v by omega] at hph
            have := ih (by omega) (some rs2) M2 hE2 (fun rs3 z => by
              cases z
              exact ⟨by omega, hl2.2, hP2, by omega⟩) (by omega)
            rw [if_neg (by simp)] at this
            exact this
  refine en_X2_matchesIn S ?_
  refine Runs.go S.1 mo_X2_matchesIn [7, 9, 37] 29 ?_
  simp only [e_X2_matchesIn_0, e_X2_matchesIn_1, e_X2_matchesIn_2, e_X2_matchesIn_3, e_X2_matchesIn_4, e_X2_matchesIn_7, e_X2_matchesIn_9, e_X2_matchesIn_11, e_X2_matchesIn_14, e_X2_matchesIn_15, e_X2_matchesIn_18, e_X2_matchesIn_19, e_X2_matchesIn_22, e_X2_matchesIn_23, e_X2_matchesIn_24, e_X2_matchesIn_25, e_X2_matchesIn_26, e_X2_matchesIn_27, e_X2_matchesIn_28, e_X2_matchesIn_29, e_X2_matchesIn_32, e_X2_matchesIn_33, e_X2_matchesIn_34, e_X2_matchesIn_37, e_X2_matchesIn_39, e_X2_matchesIn_42, e_X2_matchesIn_43, f_callV, f_getI, f_goto, f_if0, f_ladd, f_lcmp, f_loadI, f_loadL, f_loadR, f_lret, f_push, f_pushL, f_storeI, f_storeL, f_sub, stN, lget, lput, clrL, lputL, lenLe, lenGe, noL, swL, List.elem_cons, List.elem_nil, List.take_succ_cons, List.take_zero, List.take_nil, List.drop_succ_cons, List.drop_zero, List.reverse_cons, List.reverse_nil, List.nil_append, List.cons_append, Option.toList_some, Option.toList_none, Bool.and_true, Bool.or_false, Bool.false_or, Bool.true_or, Bool.and_self, true_and, and_true, Nat.reduceAdd, Nat.reduceBEq, Int.reduceAdd, Int.reduceNeg, Int.reduceLE, Int.reduceLT, Int.reduceSub, Int.reduceMul, Int.reduceToNat, cEq, cNe, cLt, cGe, cGt, cLe, iR, lR, cl_0, cl_1, cl_4, cl_9, cl_86, al_2, al_3, al_5, al_13, al_6, al_7, al_8, al_10, al_11, al_87, al_88, al_90, al_91, al_92, al_93, al_94, al_95, al_96, al_97, al_98, al_99, al_100, ne_eq, not_true_eq_false, not_false_eq_true, upM_eq, upM_ni, upM_nj, upM_24, upM_48, upM_i24, upM_i48, upM_2448, upM_4824, Nat.reduceEqDiff, reduceCtorEq, or_true, true_or, Int.reduceEq, true_implies, false_implies, Int.reducePow, Int.toNat_natCast]
  have z0 : ((MMX - MMX : Nat) : Int) = 0 := by omega
  refine c_X2_goToFirstMatch S hi hl h1l hR hg hT (fun hs M2 hE2 => ?_) (fun rs2 hs M2 hE2 hP2 => ?_)
  · refine Runs.go S.1 mo_X2_matchesIn [7, 9, 37] 29 ?_
    simp only [e_X2_matchesIn_0, e_X2_matchesIn_1, e_X2_matchesIn_2, e_X2_matchesIn_3, e_X2_matchesIn_4, e_X2_matchesIn_7, e_X2_matchesIn_9, e_X2_matchesIn_11, e_X2_matchesIn_14, e_X2_matchesIn_15, e_X2_matchesIn_18, e_X2_matchesIn_19, e_X2_matchesIn_22, e_X2_matchesIn_23, e_X2_matchesIn_24, e_X2_matchesIn_25, e_X2_matchesIn_26, e_X2_matchesIn_27, e_X2_matchesIn_28, e_X2_matchesIn_29, e_X2_matchesIn_32, e_X2_matchesIn_33, e_X2_matchesIn_34, e_X2_matchesIn_37, e_X2_matchesIn_39, e_X2_matchesIn_42, e_X2_matchesIn_43, f_callV, f_getI, f_goto, f_if0, f_ladd, f_lcmp, f_loadI, f_loadL, f_loadR, f_lret, f_push, f_pushL, f_storeI, f_storeL, f_sub, stN, lget, lput, clrL, lputL, lenLe, lenGe, noL, swL, List.elem_cons, List.elem_nil, List.take_succ_cons, List.take_zero, List.take_nil, List.drop_succ_cons, List.drop_zero, List.reverse_cons, List.reverse_nil, List.nil_append, List.cons_append, Option.toList_some, Option.toList_none, Bool.and_true, Bool.or_false, Bool.false_or, Bool.true_or, Bool.and_self, true_and, and_true, Nat.reduceAdd, Nat.reduceBEq, Int.reduceAdd, Int.reduceNeg, Int.reduceLE, Int.reduceLT, Int.reduceSub, Int.reduceMul, Int.reduceToNat, cEq, cNe, cLt, cGe, cGt, cLe, iR, lR, cl_0, cl_1, cl_4, cl_9, cl_86, al_2, al_3, al_5, al_13, al_6, al_7, al_8, al_10, al_11, al_87, al_88, al_90, al_91, al_92, al_93, al_94, al_95, al_96, al_97, al_98, al_99, al_100, ne_eq, not_true_eq_false, not_false_eq_true, upM_eq, upM_ni, upM_nj, upM_24, upM_48, upM_i24, upM_i48, upM_2448, upM_4824, Nat.reduceEqDiff, reduceCtorEq, or_true, true_or, Int.reduceEq, true_implies, false_implies, Int.reducePow, Int.toNat_natCast]
    have := loop MMX (Nat.le_refl _) none M2 hE2 (fun _ z => by cases z) (by unfold mcR; rw [hs]; omega)
    rw [if_pos rfl, z0] at this
    exact this
  · refine Runs.go S.1 mo_X2_matchesIn [7, 9, 37] 29 ?_
    simp only [e_X2_matchesIn_0, e_X2_matchesIn_1, e_X2_matchesIn_2, e_X2_matchesIn_3, e_X2_matchesIn_4, e_X2_matchesIn_7, e_X2_matchesIn_9, e_X2_matchesIn_11, e_X2_matchesIn_14, e_X2_matchesIn_15, e_X2_matchesIn_18, e_X2_matchesIn_19, e_X2_matchesIn_22, e_X2_matchesIn_23, e_X2_matchesIn_24, e_X2_matchesIn_25, e_X2_matchesIn_26, e_X2_matchesIn_27, e_X2_matchesIn_28, e_X2_matchesIn_29, e_X2_matchesIn_32, e_X2_matchesIn_33, e_X2_matchesIn_34, e_X2_matchesIn_37, e_X2_matchesIn_39, e_X2_matchesIn_42, e_X2_matchesIn_43, f_callV, f_getI, f_goto, f_if0, f_ladd, f_lcmp, f_loadI, f_loadL, f_loadR, f_lret, f_push, f_pushL, f_storeI, f_storeL, f_sub, stN, lget, lput, clrL, lputL, lenLe, lenGe, noL, swL, List.elem_cons, List.elem_nil, List.take_succ_cons, List.take_zero, List.take_nil, List.drop_succ_cons, List.drop_zero, List.reverse_cons, List.reverse_nil, List.nil_append, List.cons_append, Option.toList_some, Option.toList_none, Bool.and_true, Bool.or_false, Bool.false_or, Bool.true_or, Bool.and_self, true_and, and_true, Nat.reduceAdd, Nat.reduceBEq, Int.reduceAdd, Int.reduceNeg, Int.reduceLE, Int.reduceLT, Int.reduceSub, Int.reduceMul, Int.reduceToNat, cEq, cNe, cLt, cGe, cGt, cLe, iR, lR, cl_0, cl_1, cl_4, cl_9, cl_86, al_2, al_3, al_5, al_13, al_6, al_7, al_8, al_10, al_11, al_87, al_88, al_90, al_91, al_92, al_93, al_94, al_95, al_96, al_97, al_98, al_99, al_100, ne_eq, not_true_eq_false, not_false_eq_true, upM_eq, upM_ni, upM_nj, upM_24, upM_48, upM_i24, upM_i48, upM_2448, upM_4824, Nat.reduceEqDiff, reduceCtorEq, or_true, true_or, Int.reduceEq, true_implies, false_implies, Int.reducePow, Int.toNat_natCast]
    have hl2 := seek_len (by simp) (fun p hp => by cases hp) hs
    have hph := seek_ph (by simp) hs
    have hc1 := cho_mono (l.length - 1 + 1) (show nR N i ≤ 30 by omega)
    have hc2 := cho_30 (l.length - 1) (by omega)
    have hph2 : phR (nR N i) (l.length - 1) rs2 + 1 ≤ cho (nR N i) (l.length - 1 + 1) + 0 := hph
    have := loop MMX (Nat.le_refl _) (some rs2) M2 hE2 (fun rs3 z => by
      cases z
      exact ⟨by omega, hl2.2, hP2, by omega⟩) (by unfold mcR; rw [hs]; omega)
    rw [if_neg (by simp), z0] at this
    exact this
-- a place of the first match
def pfR (N : tM) (i : Nat) (l : List Nat) (x : Int) : Int := if 0 ≤ x ∧ x < l.length then (match skR N i l [] 0 with
  | none => -1
  | some rs => (rs.getD (l.length - 1 - x.toNat) 0 : Nat)) else -1
set_option maxRecDepth 40000 in
set_option maxHeartbeats 4000000 in
theorem c_X2_placeInFirst (S : Snd C) {i : Nat} {l : List Nat} {x : Int} (hi : IRow i) (hl : PL l) (h1l : 0 < l.length) (hR : RowOk N i) (hg : WFg N) (hT : TU N l) (hx : iR x) (k : ∀ M2, E8 N M2 → Q (some (vI (pfR N i l x))) M2) : C (d + 5) 19 [vR 4, vR i, vI x] N Q := by
  have h4 := hl.1
  unfold iR at hx
  have hlen : N 4 3 = l.length := hT.1
  unfold pfR at k
  refine en_X2_placeInFirst S ?_
  refine Runs.go S.1 mo_X2_placeInFirst [17] 19 ?_
  simp only [e_X2_placeInFirst_0, e_X2_placeInFirst_1, e_X2_placeInFirst_4, e_X2_placeInFirst_5, e_X2_placeInFirst_6, e_X2_placeInFirst_9, e_X2_placeInFirst_12, e_X2_placeInFirst_13, e_X2_placeInFirst_14, e_X2_placeInFirst_17, e_X2_placeInFirst_20, e_X2_placeInFirst_21, e_X2_placeInFirst_24, e_X2_placeInFirst_25, e_X2_placeInFirst_26, e_X2_placeInFirst_29, e_X2_placeInFirst_30, hlen, f_callV, f_getI, f_getR, f_goto, f_iald, f_icmp, f_if0, f_iret, f_loadI, f_loadR, f_push, stN, lget, lput, clrL, lputL, lenLe, lenGe, noL, swL, List.elem_cons, List.elem_nil, List.take_succ_cons, List.take_zero, List.take_nil, List.drop_succ_cons, List.drop_zero, List.reverse_cons, List.reverse_nil, List.nil_append, List.cons_append, Option.toList_some, Option.toList_none, Bool.and_true, Bool.or_false, Bool.false_or, Bool.true_or, Bool.and_self, true_and, and_true, Nat.reduceAdd, Nat.reduceBEq, Int.reduceAdd, Int.reduceNeg, Int.reduceLE, Int.reduceLT, Int.reduceSub, Int.reduceMul, Int.reduceToNat, cEq, cNe, cLt, cGe, cGt, cLe, iR, lR, cl_0, cl_1, cl_4, cl_9, cl_86, al_2, al_3, al_5, al_13, al_6, al_7, al_8, al_10, al_11, al_87, al_88, al_90, al_91, al_92, al_93, al_94, al_95, al_96, al_97, al_98, al_99, al_100, ne_eq, not_true_eq_false, not_false_eq_true, upM_eq, upM_ni, upM_nj, upM_24, upM_48, upM_i24, upM_i48, upM_2448, upM_4824, Nat.reduceEqDiff, reduceCtorEq, or_true, true_or, Int.reduceEq, true_implies, false_implies, Int.reducePow, Int.toNat_natCast]
  refine ⟨by omega, fun q => ?_, fun q => ⟨by omega, by omega, fun q2 => ?_, fun q2 => ?_⟩⟩
  · rw [if_neg (by omega)] at k; exact k N (fun _ _ => rfl)
  · rw [if_neg (by omega)] at k; exact k N (fun _ _ => rfl)
  · rw [if_pos (by omega)] at k
    refine c_X2_goToFirstMatch S hi hl h1l hR hg hT (fun hs M2 hE2 => ?_) (fun rs2 hs M2 hE2 hP2 => ?_)
    · refine Runs.go S.1 mo_X2_placeInFirst [17] 19 ?_
      simp only [e_X2_placeInFirst_0, e_X2_placeInFirst_1, e_X2_placeInFirst_4, e_X2_placeInFirst_5, e_X2_placeInFirst_6, e_X2_placeInFirst_9, e_X2_placeInFirst_12, e_X2_placeInFirst_13, e_X2_placeInFirst_14, e_X2_placeInFirst_17, e_X2_placeInFirst_20, e_X2_placeInFirst_21, e_X2_placeInFirst_24, e_X2_placeInFirst_25, e_X2_placeInFirst_26, e_X2_placeInFirst_29, e_X2_placeInFirst_30, f_callV, f_getI, f_getR, f_goto, f_iald, f_icmp, f_if0, f_iret, f_loadI, f_loadR, f_push, stN, lget, lput, clrL, lputL, lenLe, lenGe, noL, swL, List.elem_cons, List.elem_nil, List.take_succ_cons, List.take_zero, List.take_nil, List.drop_succ_cons, List.drop_zero, List.reverse_cons, List.reverse_nil, List.nil_append, List.cons_append, Option.toList_some, Option.toList_none, Bool.and_true, Bool.or_false, Bool.false_or, Bool.true_or, Bool.and_self, true_and, and_true, Nat.reduceAdd, Nat.reduceBEq, Int.reduceAdd, Int.reduceNeg, Int.reduceLE, Int.reduceLT, Int.reduceSub, Int.reduceMul, Int.reduceToNat, cEq, cNe, cLt, cGe, cGt, cLe, iR, lR, cl_0, cl_1, cl_4, cl_9, cl_86, al_2, al_3, al_5, al_13, al_6, al_7, al_8, al_10, al_11, al_87, al_88, al_90, al_91, al_92, al_93, al_94, al_95, al_96, al_97, al_98, al_99, al_100, ne_eq, not_true_eq_false, not_false_eq_true, upM_eq, upM_ni, upM_nj, upM_24, upM_48, upM_i24, upM_i48, upM_2448, upM_4824, Nat.reduceEqDiff, reduceCtorEq, or_true, true_or, Int.reduceEq, true_implies, false_implies, Int.reducePow, Int.toNat_natCast]
      have := k M2 hE2
      rw [hs] at this
      exact this
    · have hl2 := seek_len (by simp) (fun p hp => by cases hp) hs
      refine Runs.go S.1 mo_X2_placeInFirst [17] 19 ?_
      simp only [e_X2_placeInFirst_0, e_X2_placeInFirst_1, e_X2_placeInFirst_4, e_X2_placeInFirst_5, e_X2_placeInFirst_6, e_X2_placeInFirst_9, e_X2_placeInFirst_12, e_X2_placeInFirst_13, e_X2_placeInFirst_14, e_X2_placeInFirst_17, e_X2_placeInFirst_20, e_X2_placeInFirst_21, e_X2_placeInFirst_24, e_X2_placeInFirst_25, e_X2_placeInFirst_26, e_X2_placeInFirst_29, e_X2_placeInFirst_30, f_callV, f_getI, f_getR, f_goto, f_iald, f_icmp, f_if0, f_iret, f_loadI, f_loadR, f_push, stN, lget, lput, clrL, lputL, lenLe, lenGe, noL, swL, List.elem_cons, List.elem_nil, List.take_succ_cons, List.take_zero, List.take_nil, List.drop_succ_cons, List.drop_zero, List.reverse_cons, List.reverse_nil, List.nil_append, List.cons_append, Option.toList_some, Option.toList_none, Bool.and_true, Bool.or_false, Bool.false_or, Bool.true_or, Bool.and_self, true_and, and_true, Nat.reduceAdd, Nat.reduceBEq, Int.reduceAdd, Int.reduceNeg, Int.reduceLE, Int.reduceLT, Int.reduceSub, Int.reduceMul, Int.reduceToNat, cEq, cNe, cLt, cGe, cGt, cLe, iR, lR, cl_0, cl_1, cl_4, cl_9, cl_86, al_2, al_3, al_5, al_13, al_6, al_7, al_8, al_10, al_11, al_87, al_88, al_90, al_91, al_92, al_93, al_94, al_95, al_96, al_97, al_98, al_99, al_100, ne_eq, not_true_eq_false, not_false_eq_true, upM_eq, upM_ni, upM_nj, upM_24, upM_48, upM_i24, upM_i48, upM_2448, upM_4824, Nat.reduceEqDiff, reduceCtorEq, or_true, true_or, Int.reduceEq, true_implies, false_implies, Int.reducePow, Int.toNat_natCast]
      refine ⟨by omega, ?_⟩
      have := k M2 hE2
      rw [hs] at this
      rw [hP2 x.toNat (by omega), show rs2.length - 1 - x.toNat = l.length - 1 - x.toNat by omega]
      exact this
set_option maxRecDepth 40000 in
set_option maxHeartbeats 4000000 in
theorem c_X5_matches (S : Snd C) {r a b c e : Int} (hr : iR r) (ha : iR a) (hb : iR b) (hc : iR c) (he : iR e) (hk : WFk N) (h : WFr N) (hg : WFg N) (k0 : ¬ ((0 ≤ r ∧ r < N 0 5) ∧ ∃ l, patL a b c e = some l) → Q (some (vL (-1))) N) (k1 : (0 ≤ r ∧ r < N 0 5) → ∀ l, patL a b c e = some l → ∀ M2, Esc N M2 → Q (some (vL (mcR N (14 + r.toNat) l : Nat))) M2) : C (d + 6) 47 [vR 0, vI r, vI a, vI b, vI c, vI e] N Q := by
  have h1 := h.1
  refine en_X5_matches S ?_
  refine Runs.go S.1 mo_X5_matches [9, 16, 38, 51] 29 ?_
  simp only [e_X5_matches_0, e_X5_matches_1, e_X5_matches_2, e_X5_matches_4, e_X5_matches_6, e_X5_matches_9, e_X5_matches_11, e_X5_matches_12, e_X5_matches_13, e_X5_matches_16, e_X5_matches_19, e_X5_matches_21, e_X5_matches_22, e_X5_matches_25, e_X5_matches_28, e_X5_matches_29, e_X5_matches_30, e_X5_matches_33, e_X5_matches_35, e_X5_matches_38, e_X5_matches_39, e_X5_matches_42, e_X5_matches_43, e_X5_matches_46, e_X5_matches_47, e_X5_matches_48, e_X5_matches_51, f_aald, f_callS, f_callV, f_getR, f_icmp, f_if0, f_loadI, f_loadR, f_lret, f_push, f_pushL, f_storeI, stN, lget, lput, clrL, lputL, lenLe, lenGe, noL, swL, List.elem_cons, List.elem_nil, List.take_succ_cons, List.take_zero, List.take_nil, List.drop_succ_cons, List.drop_zero, List.reverse_cons, List.reverse_nil, List.nil_append, List.cons_append, Option.toList_some, Option.toList_none, Bool.and_true, Bool.or_false, Bool.false_or, Bool.true_or, Bool.and_self, true_and, and_true, Nat.reduceAdd, Nat.reduceBEq, Int.reduceAdd, Int.reduceNeg, Int.reduceLE, Int.reduceLT, Int.reduceSub, Int.reduceMul, Int.reduceToNat, cEq, cNe, cLt, cGe, cGt, cLe, iR, lR, cl_0, cl_1, cl_4, cl_9, cl_86, al_2, al_3, al_5, al_13, al_6, al_7, al_8, al_10, al_11, al_87, al_88, al_90, al_91, al_92, al_93, al_94, al_95, al_96, al_97, al_98, al_99, al_100, ne_eq, not_true_eq_false, not_false_eq_true, upM_eq, upM_ni, upM_nj, upM_24, upM_48, upM_i24, upM_i48, upM_2448, upM_4824, Nat.reduceEqDiff, reduceCtorEq, or_true, true_or, Int.reduceEq, true_implies, false_implies, Int.reducePow, Int.toNat_natCast]
  refine c_X3_of S ha hb hc he ?_
  cases hp : patL a b c e with
  | none =>
    have kn := k0 (fun z => by obtain ⟨-, l, z⟩ := z; rw [hp] at z; cases z)
    show Runs _ _ _ _ _ _ ((some (vI (-1))).toList ++ []) _
    refine Runs.go S.1 mo_X5_matches [9, 16, 38, 51] 29 ?_
    simp only [e_X5_matches_0, e_X5_matches_1, e_X5_matches_2, e_X5_matches_4, e_X5_matches_6, e_X5_matches_9, e_X5_matches_11, e_X5_matches_12, e_X5_matches_13, e_X5_matches_16, e_X5_matches_19, e_X5_matches_21, e_X5_matches_22, e_X5_matches_25, e_X5_matches_28, e_X5_matches_29, e_X5_matches_30, e_X5_matches_33, e_X5_matches_35, e_X5_matches_38, e_X5_matches_39, e_X5_matches_42, e_X5_matches_43, e_X5_matches_46, e_X5_matches_47, e_X5_matches_48, e_X5_matches_51, f_aald, f_callS, f_callV, f_getR, f_icmp, f_if0, f_loadI, f_loadR, f_lret, f_push, f_pushL, f_storeI, stN, lget, lput, clrL, lputL, lenLe, lenGe, noL, swL, List.elem_cons, List.elem_nil, List.take_succ_cons, List.take_zero, List.take_nil, List.drop_succ_cons, List.drop_zero, List.reverse_cons, List.reverse_nil, List.nil_append, List.cons_append, Option.toList_some, Option.toList_none, Bool.and_true, Bool.or_false, Bool.false_or, Bool.true_or, Bool.and_self, true_and, and_true, Nat.reduceAdd, Nat.reduceBEq, Int.reduceAdd, Int.reduceNeg, Int.reduceLE, Int.reduceLT, Int.reduceSub, Int.reduceMul, Int.reduceToNat, cEq, cNe, cLt, cGe, cGt, cLe, iR, lR, cl_0, cl_1, cl_4, cl_9, cl_86, al_2, al_3, al_5, al_13, al_6, al_7, al_8, al_10, al_11, al_87, al_88, al_90, al_91, al_92, al_93, al_94, al_95, al_96, al_97, al_98, al_99, al_100, ne_eq, not_true_eq_false, not_false_eq_true, upM_eq, upM_ni, upM_nj, upM_24, upM_48, upM_i24, upM_i48, upM_2448, upM_4824, Nat.reduceEqDiff, reduceCtorEq, or_true, true_or, Int.reduceEq, true_implies, false_implies, Int.reducePow, Int.toNat_natCast]
    refine c_X5_isRow S hr h (fun a1 a2 => ?_) (fun a => ?_)
    · refine Runs.go S.1 mo_X5_matches [9, 16, 38, 51] 29 ?_
      simp only [e_X5_matches_0, e_X5_matches_1, e_X5_matches_2, e_X5_matches_4, e_X5_matches_6, e_X5_matches_9, e_X5_matches_11, e_X5_matches_12, e_X5_matches_13, e_X5_matches_16, e_X5_matches_19, e_X5_matches_21, e_X5_matches_22, e_X5_matches_25, e_X5_matches_28, e_X5_matches_29, e_X5_matches_30, e_X5_matches_33, e_X5_matches_35, e_X5_matches_38, e_X5_matches_39, e_X5_matches_42, e_X5_matches_43, e_X5_matches_46, e_X5_matches_47, e_X5_matches_48, e_X5_matches_51, f_aald, f_callS, f_callV, f_getR, f_icmp, f_if0, f_loadI, f_loadR, f_lret, f_push, f_pushL, f_storeI, stN, lget, lput, clrL, lputL, lenLe, lenGe, noL, swL, List.elem_cons, List.elem_nil, List.take_succ_cons, List.take_zero, List.take_nil, List.drop_succ_cons, List.drop_zero, List.reverse_cons, List.reverse_nil, List.nil_append, List.cons_append, Option.toList_some, Option.toList_none, Bool.and_true, Bool.or_false, Bool.false_or, Bool.true_or, Bool.and_self, true_and, and_true, Nat.reduceAdd, Nat.reduceBEq, Int.reduceAdd, Int.reduceNeg, Int.reduceLE, Int.reduceLT, Int.reduceSub, Int.reduceMul, Int.reduceToNat, cEq, cNe, cLt, cGe, cGt, cLe, iR, lR, cl_0, cl_1, cl_4, cl_9, cl_86, al_2, al_3, al_5, al_13, al_6, al_7, al_8, al_10, al_11, al_87, al_88, al_90, al_91, al_92, al_93, al_94, al_95, al_96, al_97, al_98, al_99, al_100, ne_eq, not_true_eq_false, not_false_eq_true, upM_eq, upM_ni, upM_nj, upM_24, upM_48, upM_i24, upM_i48, upM_2448, upM_4824, Nat.reduceEqDiff, reduceCtorEq, or_true, true_or, Int.reduceEq, true_implies, false_implies, Int.reducePow, Int.toNat_natCast]
      exact kn
    · refine Runs.go S.1 mo_X5_matches [9, 16, 38, 51] 29 ?_
      simp only [e_X5_matches_0, e_X5_matches_1, e_X5_matches_2, e_X5_matches_4, e_X5_matches_6, e_X5_matches_9, e_X5_matches_11, e_X5_matches_12, e_X5_matches_13, e_X5_matches_16, e_X5_matches_19, e_X5_matches_21, e_X5_matches_22, e_X5_matches_25, e_X5_matches_28, e_X5_matches_29, e_X5_matches_30, e_X5_matches_33, e_X5_matches_35, e_X5_matches_38, e_X5_matches_39, e_X5_matches_42, e_X5_matches_43, e_X5_matches_46, e_X5_matches_47, e_X5_matches_48, e_X5_matches_51, f_aald, f_callS, f_callV, f_getR, f_icmp, f_if0, f_loadI, f_loadR, f_lret, f_push, f_pushL, f_storeI, stN, lget, lput, clrL, lputL, lenLe, lenGe, noL, swL, List.elem_cons, List.elem_nil, List.take_succ_cons, List.take_zero, List.take_nil, List.drop_succ_cons, List.drop_zero, List.reverse_cons, List.reverse_nil, List.nil_append, List.cons_append, Option.toList_some, Option.toList_none, Bool.and_true, Bool.or_false, Bool.false_or, Bool.true_or, Bool.and_self, true_and, and_true, Nat.reduceAdd, Nat.reduceBEq, Int.reduceAdd, Int.reduceNeg, Int.reduceLE, Int.reduceLT, Int.reduceSub, Int.reduceMul, Int.reduceToNat, cEq, cNe, cLt, cGe, cGt, cLe, iR, lR, cl_0, cl_1, cl_4, cl_9, cl_86, al_2, al_3, al_5, al_13, al_6, al_7, al_8, al_10, al_11, al_87, al_88, al_90, al_91, al_92, al_93, al_94, al_95, al_96, al_97, al_98, al_99, al_100, ne_eq, not_true_eq_false, not_false_eq_true, upM_eq, upM_ni, upM_nj, upM_24, upM_48, upM_i24, upM_i48, upM_2448, upM_4824, Nat.reduceEqDiff, reduceCtorEq, or_true, true_or, Int.reduceEq, true_implies, false_implies, Int.reducePow, Int.toNat_natCast]
      exact kn
  | some l =>
    obtain ⟨hl, h1l⟩ := patL_PL hp
    have hbd := enc_b l hl
    show Runs _ _ _ _ _ _ ((some (vI (enc l : Nat))).toList ++ []) _
    refine Runs.go S.1 mo_X5_matches [9, 16, 38, 51] 29 ?_
    simp only [e_X5_matches_0, e_X5_matches_1, e_X5_matches_2, e_X5_matches_4, e_X5_matches_6, e_X5_matches_9, e_X5_matches_11, e_X5_matches_12, e_X5_matches_13, e_X5_matches_16, e_X5_matches_19, e_X5_matches_21, e_X5_matches_22, e_X5_matches_25, e_X5_matches_28, e_X5_matches_29, e_X5_matches_30, e_X5_matches_33, e_X5_matches_35, e_X5_matches_38, e_X5_matches_39, e_X5_matches_42, e_X5_matches_43, e_X5_matches_46, e_X5_matches_47, e_X5_matches_48, e_X5_matches_51, f_aald, f_callS, f_callV, f_getR, f_icmp, f_if0, f_loadI, f_loadR, f_lret, f_push, f_pushL, f_storeI, stN, lget, lput, clrL, lputL, lenLe, lenGe, noL, swL, List.elem_cons, List.elem_nil, List.take_succ_cons, List.take_zero, List.take_nil, List.drop_succ_cons, List.drop_zero, List.reverse_cons, List.reverse_nil, List.nil_append, List.cons_append, Option.toList_some, Option.toList_none, Bool.and_true, Bool.or_false, Bool.false_or, Bool.true_or, Bool.and_self, true_and, and_true, Nat.reduceAdd, Nat.reduceBEq, Int.reduceAdd, Int.reduceNeg, Int.reduceLE, Int.reduceLT, Int.reduceSub, Int.reduceMul, Int.reduceToNat, cEq, cNe, cLt, cGe, cGt, cLe, iR, lR, cl_0, cl_1, cl_4, cl_9, cl_86, al_2, al_3, al_5, al_13, al_6, al_7, al_8, al_10, al_11, al_87, al_88, al_90, al_91, al_92, al_93, al_94, al_95, al_96, al_97, al_98, al_99, al_100, ne_eq, not_true_eq_false, not_false_eq_true, upM_eq, upM_ni, upM_nj, upM_24, upM_48, upM_i24, upM_i48, upM_2448, upM_4824, Nat.reduceEqDiff, reduceCtorEq, or_true, true_or, Int.reduceEq, true_implies, false_implies, Int.reducePow, Int.toNat_natCast]
    refine c_X5_isRow S hr h (fun a1 a2 => ?_) (fun a => ?_)
    rotate_left
    · refine Runs.go S.1 mo_X5_matches [9, 16, 38, 51] 29 ?_
      simp only [e_X5_matches_0, e_X5_matches_1, e_X5_matches_2, e_X5_matches_4, e_X5_matches_6, e_X5_matches_9, e_X5_matches_11, e_X5_matches_12, e_X5_matches_13, e_X5_matches_16, e_X5_matches_19, e_X5_matches_21, e_X5_matches_22, e_X5_matches_25, e_X5_matches_28, e_X5_matches_29, e_X5_matches_30, e_X5_matches_33, e_X5_matches_35, e_X5_matches_38, e_X5_matches_39, e_X5_matches_42, e_X5_matches_43, e_X5_matches_46, e_X5_matches_47, e_X5_matches_48, e_X5_matches_51, f_aald, f_callS, f_callV, f_getR, f_icmp, f_if0, f_loadI, f_loadR, f_lret, f_push, f_pushL, f_storeI, stN, lget, lput, clrL, lputL, lenLe, lenGe, noL, swL, List.elem_cons, List.elem_nil, List.take_succ_cons, List.take_zero, List.take_nil, List.drop_succ_cons, List.drop_zero, List.reverse_cons, List.reverse_nil, List.nil_append, List.cons_append, Option.toList_some, Option.toList_none, Bool.and_true, Bool.or_false, Bool.false_or, Bool.true_or, Bool.and_self, true_and, and_true, Nat.reduceAdd, Nat.reduceBEq, Int.reduceAdd, Int.reduceNeg, Int.reduceLE, Int.reduceLT, Int.reduceSub, Int.reduceMul, Int.reduceToNat, cEq, cNe, cLt, cGe, cGt, cLe, iR, lR, cl_0, cl_1, cl_4, cl_9, cl_86, al_2, al_3, al_5, al_13, al_6, al_7, al_8, al_10, al_11, al_87, al_88, al_90, al_91, al_92, al_93, al_94, al_95, al_96, al_97, al_98, al_99, al_100, ne_eq, not_true_eq_false, not_false_eq_true, upM_eq, upM_ni, upM_nj, upM_24, upM_48, upM_i24, upM_i48, upM_2448, upM_4824, Nat.reduceEqDiff, reduceCtorEq, or_true, true_or, Int.reduceEq, true_implies, false_implies, Int.reducePow, Int.toNat_natCast]
      exact k0 (fun z => a z.1)
    have k := k1 ⟨a1, a2⟩ l hp
    have hrow := (h.2 r.toNat (by omega)).1
    refine Runs.go S.1 mo_X5_matches [9, 16, 38, 51] 29 ?_
    simp only [e_X5_matches_0, e_X5_matches_1, e_X5_matches_2, e_X5_matches_4, e_X5_matches_6, e_X5_matches_9, e_X5_matches_11, e_X5_matches_12, e_X5_matches_13, e_X5_matches_16, e_X5_matches_19, e_X5_matches_21, e_X5_matches_22, e_X5_matches_25, e_X5_matches_28, e_X5_matches_29, e_X5_matches_30, e_X5_matches_33, e_X5_matches_35, e_X5_matches_38, e_X5_matches_39, e_X5_matches_42, e_X5_matches_43, e_X5_matches_46, e_X5_matches_47, e_X5_matches_48, e_X5_matches_51, f_aald, f_callS, f_callV, f_getR, f_icmp, f_if0, f_loadI, f_loadR, f_lret, f_push, f_pushL, f_storeI, stN, lget, lput, clrL, lputL, lenLe, lenGe, noL, swL, List.elem_cons, List.elem_nil, List.take_succ_cons, List.take_zero, List.take_nil, List.drop_succ_cons, List.drop_zero, List.reverse_cons, List.reverse_nil, List.nil_append, List.cons_append, Option.toList_some, Option.toList_none, Bool.and_true, Bool.or_false, Bool.false_or, Bool.true_or, Bool.and_self, true_and, and_true, Nat.reduceAdd, Nat.reduceBEq, Int.reduceAdd, Int.reduceNeg, Int.reduceLE, Int.reduceLT, Int.reduceSub, Int.reduceMul, Int.reduceToNat, cEq, cNe, cLt, cGe, cGt, cLe, iR, lR, cl_0, cl_1, cl_4, cl_9, cl_86, al_2, al_3, al_5, al_13, al_6, al_7, al_8, al_10, al_11, al_87, al_88, al_90, al_91, al_92, al_93, al_94, al_95, al_96, al_97, al_98, al_99, al_100, ne_eq, not_true_eq_false, not_false_eq_true, upM_eq, upM_ni, upM_nj, upM_24, upM_48, upM_i24, upM_i48, upM_2448, upM_4824, Nat.reduceEqDiff, reduceCtorEq, or_true, true_or, Int.reduceEq, true_implies, false_implies, Int.reducePow, Int.toNat_natCast]
    refine ⟨by omega, ?_⟩
    refine c_X2_takeUp S hl hk (fun M2 hE2 hT => ?_)
    have hE := hE2.sc
    refine Runs.go S.1 mo_X5_matches [9, 16, 38, 51] 29 ?_
    simp only [e_X5_matches_0, e_X5_matches_1, e_X5_matches_2, e_X5_matches_4, e_X5_matches_6, e_X5_matches_9, e_X5_matches_11, e_X5_matches_12, e_X5_matches_13, e_X5_matches_16, e_X5_matches_19, e_X5_matches_21, e_X5_matches_22, e_X5_matches_25, e_X5_matches_28, e_X5_matches_29, e_X5_matches_30, e_X5_matches_33, e_X5_matches_35, e_X5_matches_38, e_X5_matches_39, e_X5_matches_42, e_X5_matches_43, e_X5_matches_46, e_X5_matches_47, e_X5_matches_48, e_X5_matches_51, f_aald, f_callS, f_callV, f_getR, f_icmp, f_if0, f_loadI, f_loadR, f_lret, f_push, f_pushL, f_storeI, stN, lget, lput, clrL, lputL, lenLe, lenGe, noL, swL, List.elem_cons, List.elem_nil, List.take_succ_cons, List.take_zero, List.take_nil, List.drop_succ_cons, List.drop_zero, List.reverse_cons, List.reverse_nil, List.nil_append, List.cons_append, Option.toList_some, Option.toList_none, Bool.and_true, Bool.or_false, Bool.false_or, Bool.true_or, Bool.and_self, true_and, and_true, Nat.reduceAdd, Nat.reduceBEq, Int.reduceAdd, Int.reduceNeg, Int.reduceLE, Int.reduceLT, Int.reduceSub, Int.reduceMul, Int.reduceToNat, cEq, cNe, cLt, cGe, cGt, cLe, iR, lR, cl_0, cl_1, cl_4, cl_9, cl_86, al_2, al_3, al_5, al_13, al_6, al_7, al_8, al_10, al_11, al_87, al_88, al_90, al_91, al_92, al_93, al_94, al_95, al_96, al_97, al_98, al_99, al_100, ne_eq, not_true_eq_false, not_false_eq_true, upM_eq, upM_ni, upM_nj, upM_24, upM_48, upM_i24, upM_i48, upM_2448, upM_4824, Nat.reduceEqDiff, reduceCtorEq, or_true, true_or, Int.reduceEq, true_implies, false_implies, Int.reducePow, Int.toNat_natCast]
    refine ⟨by omega, ?_⟩
    refine c_X2_matchesIn S (by omega) hl (by omega) (hE.ro (by omega) hrow) (hE.wg hg) hT (fun M3 hE3 => ?_)
    have em : mcR M2 (14 + r.toNat) l = mcR N (14 + r.toNat) l := by
      have e1 := hE.row (a := 14 + r.toNat) (by omega)
      have e2 := hE.row (a := 14 + r.toNat + 24) (by omega)
      have e3 := hE.row (a := 14 + r.toNat + 48) (by omega)
      have e4 : KR M2 (14 + r.toNat) = KR N (14 + r.toNat) := by unfold KR; rw [e3, hE.c3]
      show cmO (M2 (14 + r.toNat) 4).toNat (okB (M2 (14 + r.toNat + 24)) (KR M2 (14 + r.toNat)) (M2 4 0) (M2 4 1) _) _ _ (seek (M2 (14 + r.toNat) 4).toNat (okB (M2 (14 + r.toNat + 24)) (KR M2 (14 + r.toNat)) (M2 4 0) (M2 4 1) _) _ _ _ _) = _
      rw [e4, e1, e2, hE.g0, hE.g1]
      rfl
    rw [em]
    refine Runs.go S.1 mo_X5_matches [9, 16, 38, 51] 29 ?_
    simp only [e_X5_matches_0, e_X5_matches_1, e_X5_matches_2, e_X5_matches_4, e_X5_matches_6, e_X5_matches_9, e_X5_matches_11, e_X5_matches_12, e_X5_matches_13, e_X5_matches_16, e_X5_matches_19, e_X5_matches_21, e_X5_matches_22, e_X5_matches_25, e_X5_matches_28, e_X5_matches_29, e_X5_matches_30, e_X5_matches_33, e_X5_matches_35, e_X5_matches_38, e_X5_matches_39, e_X5_matches_42, e_X5_matches_43, e_X5_matches_46, e_X5_matches_47, e_X5_matches_48, e_X5_matches_51, f_aald, f_callS, f_callV, f_getR, f_icmp, f_if0, f_loadI, f_loadR, f_lret, f_push, f_pushL, f_storeI, stN, lget, lput, clrL, lputL, lenLe, lenGe, noL, swL, List.elem_cons, List.elem_nil, List.take_succ_cons, List.take_zero, List.take_nil, List.drop_succ_cons, List.drop_zero, List.reverse_cons, List.reverse_nil, List.nil_append, List.cons_append, Option.toList_some, Option.toList_none, Bool.and_true, Bool.or_false, Bool.false_or, Bool.true_or, Bool.and_self, true_and, and_true, Nat.reduceAdd, Nat.reduceBEq, Int.reduceAdd, Int.reduceNeg, Int.reduceLE, Int.reduceLT, Int.reduceSub, Int.reduceMul, Int.reduceToNat, cEq, cNe, cLt, cGe, cGt, cLe, iR, lR, cl_0, cl_1, cl_4, cl_9, cl_86, al_2, al_3, al_5, al_13, al_6, al_7, al_8, al_10, al_11, al_87, al_88, al_90, al_91, al_92, al_93, al_94, al_95, al_96, al_97, al_98, al_99, al_100, ne_eq, not_true_eq_false, not_false_eq_true, upM_eq, upM_ni, upM_nj, upM_24, upM_48, upM_i24, upM_i48, upM_2448, upM_4824, Nat.reduceEqDiff, reduceCtorEq, or_true, true_or, Int.reduceEq, true_implies, false_implies, Int.reducePow, Int.toNat_natCast]
    exact k M3 (hE.tr hE3.sc)
set_option maxRecDepth 40000 in
set_option maxHeartbeats 4000000 in
theorem c_X5_match (S : Snd C) {r a b c e i : Int} (hr : iR r) (ha : iR a) (hb : iR b) (hc : iR c) (he : iR e) (hi : iR i) (hk : WFk N) (h : WFr N) (hg : WFg N) (k0 : ¬ ((0 ≤ r ∧ r < N 0 5) ∧ ∃ l, patL a b c e = some l) → Q (some (vI (-1))) N) (k1 : (0 ≤ r ∧ r < N 0 5) → ∀ l, patL a b c e = some l → ∀ M2, Esc N M2 → Q (some (vI (pfR N (14 + r.toNat) l i))) M2) : C (d + 6) 48 [vR 0, vI r, vI a, vI b, vI c, vI e, vI i] N Q := by
  have h1 := h.1
  refine en_X5_match S ?_
  refine Runs.go S.1 mo_X5_match [9, 16, 36, 51] 30 ?_
  simp only [e_X5_match_0, e_X5_match_1, e_X5_match_2, e_X5_match_4, e_X5_match_6, e_X5_match_9, e_X5_match_11, e_X5_match_12, e_X5_match_13, e_X5_match_16, e_X5_match_19, e_X5_match_21, e_X5_match_22, e_X5_match_25, e_X5_match_26, e_X5_match_27, e_X5_match_28, e_X5_match_31, e_X5_match_33, e_X5_match_36, e_X5_match_37, e_X5_match_40, e_X5_match_41, e_X5_match_44, e_X5_match_45, e_X5_match_46, e_X5_match_48, e_X5_match_51, f_aald, f_callS, f_callV, f_getR, f_icmp, f_if0, f_iret, f_loadI, f_loadR, f_push, f_storeI, stN, lget, lput, clrL, lputL, lenLe, lenGe, noL, swL, List.elem_cons, List.elem_nil, List.take_succ_cons, List.take_zero, List.take_nil, List.drop_succ_cons, List.drop_zero, List.reverse_cons, List.reverse_nil, List.nil_append, List.cons_append, Option.toList_some, Option.toList_none, Bool.and_true, Bool.or_false, Bool.false_or, Bool.true_or, Bool.and_self, true_and, and_true, Nat.reduceAdd, Nat.reduceBEq, Int.reduceAdd, Int.reduceNeg, Int.reduceLE, Int.reduceLT, Int.reduceSub, Int.reduceMul, Int.reduceToNat, cEq, cNe, cLt, cGe, cGt, cLe, iR, lR, cl_0, cl_1, cl_4, cl_9, cl_86, al_2, al_3, al_5, al_13, al_6, al_7, al_8, al_10, al_11, al_87, al_88, al_90, al_91, al_92, al_93, al_94, al_95, al_96, al_97, al_98, al_99, al_100, ne_eq, not_true_eq_false, not_false_eq_true, upM_eq, upM_ni, upM_nj, upM_24, upM_48, upM_i24, upM_i48, upM_2448, upM_4824, Nat.reduceEqDiff, reduceCtorEq, or_true, true_or, Int.reduceEq, true_implies, false_implies, Int.reducePow, Int.toNat_natCast]
  refine c_X3_of S ha hb hc he ?_
  cases hp : patL a b c e with
  | none =>
    have kn := k0 (fun z => by obtain ⟨-, l, z⟩ := z; rw [hp] at z; cases z)
    show Runs _ _ _ _ _ _ ((some (vI (-1))).toList ++ []) _
    refine Runs.go S.1 mo_X5_match [9, 16, 36, 51] 30 ?_
    simp only [e_X5_match_0, e_X5_match_1, e_X5_match_2, e_X5_match_4, e_X5_match_6, e_X5_match_9, e_X5_match_11, e_X5_match_12, e_X5_match_13, e_X5_match_16, e_X5_match_19, e_X5_match_21, e_X5_match_22, e_X5_match_25, e_X5_match_26, e_X5_match_27, e_X5_match_28, e_X5_match_31, e_X5_match_33, e_X5_match_36, e_X5_match_37, e_X5_match_40, e_X5_match_41, e_X5_match_44, e_X5_match_45, e_X5_match_46, e_X5_match_48, e_X5_match_51, f_aald, f_callS, f_callV, f_getR, f_icmp, f_if0, f_iret, f_loadI, f_loadR, f_push, f_storeI, stN, lget, lput, clrL, lputL, lenLe, lenGe, noL, swL, List.elem_cons, List.elem_nil, List.take_succ_cons, List.take_zero, List.take_nil, List.drop_succ_cons, List.drop_zero, List.reverse_cons, List.reverse_nil, List.nil_append, List.cons_append, Option.toList_some, Option.toList_none, Bool.and_true, Bool.or_false, Bool.false_or, Bool.true_or, Bool.and_self, true_and, and_true, Nat.reduceAdd, Nat.reduceBEq, Int.reduceAdd, Int.reduceNeg, Int.reduceLE, Int.reduceLT, Int.reduceSub, Int.reduceMul, Int.reduceToNat, cEq, cNe, cLt, cGe, cGt, cLe, iR, lR, cl_0, cl_1, cl_4, cl_9, cl_86, al_2, al_3, al_5, al_13, al_6, al_7, al_8, al_10, al_11, al_87, al_88, al_90, al_91, al_92, al_93, al_94, al_95, al_96, al_97, al_98, al_99, al_100, ne_eq, not_true_eq_false, not_false_eq_true, upM_eq, upM_ni, upM_nj, upM_24, upM_48, upM_i24, upM_i48, upM_2448, upM_4824, Nat.reduceEqDiff, reduceCtorEq, or_true, true_or, Int.reduceEq, true_implies, false_implies, Int.reducePow, Int.toNat_natCast]
    refine c_X5_isRow S hr h (fun a1 a2 => ?_) (fun a => ?_)
    · refine Runs.go S.1 mo_X5_match [9, 16, 36, 51] 30 ?_
      simp only [e_X5_match_0, e_X5_match_1, e_X5_match_2, e_X5_match_4, e_X5_match_6, e_X5_match_9, e_X5_match_11, e_X5_match_12, e_X5_match_13, e_X5_match_16, e_X5_match_19, e_X5_match_21, e_X5_match_22, e_X5_match_25, e_X5_match_26, e_X5_match_27, e_X5_match_28, e_X5_match_31, e_X5_match_33, e_X5_match_36, e_X5_match_37, e_X5_match_40, e_X5_match_41, e_X5_match_44, e_X5_match_45, e_X5_match_46, e_X5_match_48, e_X5_match_51, f_aald, f_callS, f_callV, f_getR, f_icmp, f_if0, f_iret, f_loadI, f_loadR, f_push, f_storeI, stN, lget, lput, clrL, lputL, lenLe, lenGe, noL, swL, List.elem_cons, List.elem_nil, List.take_succ_cons, List.take_zero, List.take_nil, List.drop_succ_cons, List.drop_zero, List.reverse_cons, List.reverse_nil, List.nil_append, List.cons_append, Option.toList_some, Option.toList_none, Bool.and_true, Bool.or_false, Bool.false_or, Bool.true_or, Bool.and_self, true_and, and_true, Nat.reduceAdd, Nat.reduceBEq, Int.reduceAdd, Int.reduceNeg, Int.reduceLE, Int.reduceLT, Int.reduceSub, Int.reduceMul, Int.reduceToNat, cEq, cNe, cLt, cGe, cGt, cLe, iR, lR, cl_0, cl_1, cl_4, cl_9, cl_86, al_2, al_3, al_5, al_13, al_6, al_7, al_8, al_10, al_11, al_87, al_88, al_90, al_91, al_92, al_93, al_94, al_95, al_96, al_97, al_98, al_99, al_100, ne_eq, not_true_eq_false, not_false_eq_true, upM_eq, upM_ni, upM_nj, upM_24, upM_48, upM_i24, upM_i48, upM_2448, upM_4824, Nat.reduceEqDiff, reduceCtorEq, or_true, true_or, Int.reduceEq, true_implies, false_implies, Int.reducePow, Int.toNat_natCast]
      exact kn
    · refine Runs.go S.1 mo_X5_match [9, 16, 36, 51] 30 ?_
      simp only [e_X5_match_0, e_X5_match_1, e_X5_match_2, e_X5_match_4, e_X5_match_6, e_X5_match_9, e_X5_match_11, e_X5_match_12, e_X5_match_13, e_X5_match_16, e_X5_match_19, e_X5_match_21, e_X5_match_22, e_X5_match_25, e_X5_match_26, e_X5_match_27, e_X5_match_28, e_X5_match_31, e_X5_match_33, e_X5_match_36, e_X5_match_37, e_X5_match_40, e_X5_match_41, e_X5_match_44, e_X5_match_45, e_X5_match_46, e_X5_match_48, e_X5_match_51, f_aald, f_callS, f_callV, f_getR, f_icmp, f_if0, f_iret, f_loadI, f_loadR, f_push, f_storeI, stN, lget, lput, clrL, lputL, lenLe, lenGe, noL, swL, List.elem_cons, List.elem_nil, List.take_succ_cons, List.take_zero, List.take_nil, List.drop_succ_cons, List.drop_zero, List.reverse_cons, List.reverse_nil, List.nil_append, List.cons_append, Option.toList_some, Option.toList_none, Bool.and_true, Bool.or_false, Bool.false_or, Bool.true_or, Bool.and_self, true_and, and_true, Nat.reduceAdd, Nat.reduceBEq, Int.reduceAdd, Int.reduceNeg, Int.reduceLE, Int.reduceLT, Int.reduceSub, Int.reduceMul, Int.reduceToNat, cEq, cNe, cLt, cGe, cGt, cLe, iR, lR, cl_0, cl_1, cl_4, cl_9, cl_86, al_2, al_3, al_5, al_13, al_6, al_7, al_8, al_10, al_11, al_87, al_88, al_90, al_91, al_92, al_93, al_94, al_95, al_96, al_97, al_98, al_99, al_100, ne_eq, not_true_eq_false, not_false_eq_true, upM_eq, upM_ni, upM_nj, upM_24, upM_48, upM_i24, upM_i48, upM_2448, upM_4824, Nat.reduceEqDiff, reduceCtorEq, or_true, true_or, Int.reduceEq, true_implies, false_implies, Int.reducePow, Int.toNat_natCast]
      exact kn
  | some l =>
    obtain ⟨hl, h1l⟩ := patL_PL hp
    have hbd := enc_b l hl
    show Runs _ _ _ _ _ _ ((some (vI (enc l : Nat))).toList ++ []) _
    refine Runs.go S.1 mo_X5_match [9, 16, 36, 51] 30 ?_
    simp only [e_X5_match_0, e_X5_match_1, e_X5_match_2, e_X5_match_4, e_X5_match_6, e_X5_match_9, e_X5_match_11, e_X5_match_12, e_X5_match_13, e_X5_match_16, e_X5_match_19, e_X5_match_21, e_X5_match_22, e_X5_match_25, e_X5_match_26, e_X5_match_27, e_X5_match_28, e_X5_match_31, e_X5_match_33, e_X5_match_36, e_X5_match_37, e_X5_match_40, e_X5_match_41, e_X5_match_44, e_X5_match_45, e_X5_match_46, e_X5_match_48, e_X5_match_51, f_aald, f_callS, f_callV, f_getR, f_icmp, f_if0, f_iret, f_loadI, f_loadR, f_push, f_storeI, stN, lget, lput, clrL, lputL, lenLe, lenGe, noL, swL, List.elem_cons, List.elem_nil, List.take_succ_cons, List.take_zero, List.take_nil, List.drop_succ_cons, List.drop_zero, List.reverse_cons, List.reverse_nil, List.nil_append, List.cons_append, Option.toList_some, Option.toList_none, Bool.and_true, Bool.or_false, Bool.false_or, Bool.true_or, Bool.and_self, true_and, and_true, Nat.reduceAdd, Nat.reduceBEq, Int.reduceAdd, Int.reduceNeg, Int.reduceLE, Int.reduceLT, Int.reduceSub, Int.reduceMul, Int.reduceToNat, cEq, cNe, cLt, cGe, cGt, cLe, iR, lR, cl_0, cl_1, cl_4, cl_9, cl_86, al_2, al_3, al_5, al_13, al_6, al_7, al_8, al_10, al_11, al_87, al_88, al_90, al_91, al_92, al_93, al_94, al_95, al_96, al_97, al_98, al_99, al_100, ne_eq, not_true_eq_false, not_false_eq_true, upM_eq, upM_ni, upM_nj, upM_24, upM_48, upM_i24, upM_i48, upM_2448, upM_4824, Nat.reduceEqDiff, reduceCtorEq, or_true, true_or, Int.reduceEq, true_implies, false_implies, Int.reducePow, Int.toNat_natCast]
    refine c_X5_isRow S hr h (fun a1 a2 => ?_) (fun a => ?_)
    rotate_left
    · refine Runs.go S.1 mo_X5_match [9, 16, 36, 51] 30 ?_
      simp only [e_X5_match_0, e_X5_match_1, e_X5_match_2, e_X5_match_4, e_X5_match_6, e_X5_match_9, e_X5_match_11, e_X5_match_12, e_X5_match_13, e_X5_match_16, e_X5_match_19, e_X5_match_21, e_X5_match_22, e_X5_match_25, e_X5_match_26, e_X5_match_27, e_X5_match_28, e_X5_match_31, e_X5_match_33, e_X5_match_36, e_X5_match_37, e_X5_match_40, e_X5_match_41, e_X5_match_44, e_X5_match_45, e_X5_match_46, e_X5_match_48, e_X5_match_51, f_aald, f_callS, f_callV, f_getR, f_icmp, f_if0, f_iret, f_loadI, f_loadR, f_push, f_storeI, stN, lget, lput, clrL, lputL, lenLe, lenGe, noL, swL, List.elem_cons, List.elem_nil, List.take_succ_cons, List.take_zero, List.take_nil, List.drop_succ_cons, List.drop_zero, List.reverse_cons, List.reverse_nil, List.nil_append, List.cons_append, Option.toList_some, Option.toList_none, Bool.and_true, Bool.or_false, Bool.false_or, Bool.true_or, Bool.and_self, true_and, and_true, Nat.reduceAdd, Nat.reduceBEq, Int.reduceAdd, Int.reduceNeg, Int.reduceLE, Int.reduceLT, Int.reduceSub, Int.reduceMul, Int.reduceToNat, cEq, cNe, cLt, cGe, cGt, cLe, iR, lR, cl_0, cl_1, cl_4, cl_9, cl_86, al_2, al_3, al_5, al_13, al_6, al_7, al_8, al_10, al_11, al_87, al_88, al_90, al_91, al_92, al_93, al_94, al_95, al_96, al_97, al_98, al_99, al_100, ne_eq, not_true_eq_false, not_false_eq_true, upM_eq, upM_ni, upM_nj, upM_24, upM_48, upM_i24, upM_i48, upM_2448, upM_4824, Nat.reduceEqDiff, reduceCtorEq, or_true, true_or, Int.reduceEq, true_implies, false_implies, Int.reducePow, Int.toNat_natCast]
      exact k0 (fun z => a z.1)
    have k := k1 ⟨a1, a2⟩ l hp
    have hrow := (h.2 r.toNat (by omega)).1
    refine Runs.go S.1 mo_X5_match [9, 16, 36, 51] 30 ?_
    simp only [e_X5_match_0, e_X5_match_1, e_X5_match_2, e_X5_match_4, e_X5_match_6, e_X5_match_9, e_X5_match_11, e_X5_match_12, e_X5_match_13, e_X5_match_16, e_X5_match_19, e_X5_match_21, e_X5_match_22, e_X5_match_25, e_X5_match_26, e_X5_match_27, e_X5_match_28, e_X5_match_31, e_X5_match_33, e_X5_match_36, e_X5_match_37, e_X5_match_40, e_X5_match_41, e_X5_match_44, e_X5_match_45, e_X5_match_46, e_X5_match_48, e_X5_match_51, f_aald, f_callS, f_callV, f_getR, f_icmp, f_if0, f_iret, f_loadI, f_loadR, f_push, f_storeI, stN, lget, lput, clrL, lputL, lenLe, lenGe, noL, swL, List.elem_cons, List.elem_nil, List.take_succ_cons, List.take_zero, List.take_nil, List.drop_succ_cons, List.drop_zero, List.reverse_cons, List.reverse_nil, List.nil_append, List.cons_append, Option.toList_some, Option.toList_none, Bool.and_true, Bool.or_false, Bool.false_or, Bool.true_or, Bool.and_self, true_and, and_true, Nat.reduceAdd, Nat.reduceBEq, Int.reduceAdd, Int.reduceNeg, Int.reduceLE, Int.reduceLT, Int.reduceSub, Int.reduceMul, Int.reduceToNat, cEq, cNe, cLt, cGe, cGt, cLe, iR, lR, cl_0, cl_1, cl_4, cl_9, cl_86, al_2, al_3, al_5, al_13, al_6, al_7, al_8, al_10, al_11, al_87, al_88, al_90, al_91, al_92, al_93, al_94, al_95, al_96, al_97, al_98, al_99, al_100, ne_eq, not_true_eq_false, not_false_eq_true, upM_eq, upM_ni, upM_nj, upM_24, upM_48, upM_i24, upM_i48, upM_2448, upM_4824, Nat.reduceEqDiff, reduceCtorEq, or_true, true_or, Int.reduceEq, true_implies, false_implies, Int.reducePow, Int.toNat_natCast]
    refine ⟨by omega, ?_⟩
    refine c_X2_takeUp S hl hk (fun M2 hE2 hT => ?_)
    have hE := hE2.sc
    refine Runs.go S.1 mo_X5_match [9, 16, 36, 51] 30 ?_
    simp only [e_X5_match_0, e_X5_match_1, e_X5_match_2, e_X5_match_4, e_X5_match_6, e_X5_match_9, e_X5_match_11, e_X5_match_12, e_X5_match_13, e_X5_match_16, e_X5_match_19, e_X5_match_21, e_X5_match_22, e_X5_match_25, e_X5_match_26, e_X5_match_27, e_X5_match_28, e_X5_match_31, e_X5_match_33, e_X5_match_36, e_X5_match_37, e_X5_match_40, e_X5_match_41, e_X5_match_44, e_X5_match_45, e_X5_match_46, e_X5_match_48, e_X5_match_51, f_aald, f_callS, f_callV, f_getR, f_icmp, f_if0, f_iret, f_loadI, f_loadR, f_push, f_storeI, stN, lget, lput, clrL, lputL, lenLe, lenGe, noL, swL, List.elem_cons, List.elem_nil, List.take_succ_cons, List.take_zero, List.take_nil, List.drop_succ_cons, List.drop_zero, List.reverse_cons, List.reverse_nil, List.nil_append, List.cons_append, Option.toList_some, Option.toList_none, Bool.and_true, Bool.or_false, Bool.false_or, Bool.true_or, Bool.and_self, true_and, and_true, Nat.reduceAdd, Nat.reduceBEq, Int.reduceAdd, Int.reduceNeg, Int.reduceLE, Int.reduceLT, Int.reduceSub, Int.reduceMul, Int.reduceToNat, cEq, cNe, cLt, cGe, cGt, cLe, iR, lR, cl_0, cl_1, cl_4, cl_9, cl_86, al_2, al_3, al_5, al_13, al_6, al_7, al_8, al_10, al_11, al_87, al_88, al_90, al_91, al_92, al_93, al_94, al_95, al_96, al_97, al_98, al_99, al_100, ne_eq, not_true_eq_false, not_false_eq_true, upM_eq, upM_ni, upM_nj, upM_24, upM_48, upM_i24, upM_i48, upM_2448, upM_4824, Nat.reduceEqDiff, reduceCtorEq, or_true, true_or, Int.reduceEq, true_implies, false_implies, Int.reducePow, Int.toNat_natCast]
    refine ⟨by omega, ?_⟩
    refine c_X2_placeInFirst S (by omega) hl (by omega) (hE.ro (by omega) hrow) (hE.wg hg) hT hi (fun M3 hE3 => ?_)
    have em : pfR M2 (14 + r.toNat) l i = pfR N (14 + r.toNat) l i := by
      have e1 := hE.row (a := 14 + r.toNat) (by omega)
      have e2 := hE.row (a := 14 + r.toNat + 24) (by omega)
      have e3 := hE.row (a := 14 + r.toNat + 48) (by omega)
      have e4 : KR M2 (14 + r.toNat) = KR N (14 + r.toNat) := by unfold KR; rw [e3, hE.c3]
      have e5 : skR M2 (14 + r.toNat) l [] 0 = skR N (14 + r.toNat) l [] 0 := by
        show (seek (M2 (14 + r.toNat) 4).toNat (okB (M2 (14 + r.toNat + 24)) (KR M2 (14 + r.toNat)) (M2 4 0) (M2 4 1) _) _ _ _ _) = _
        rw [e4, e1, e2, hE.g0, hE.g1]
      unfold pfR
      rw [e5]
    rw [em]
    refine Runs.go S.1 mo_X5_match [9, 16, 36, 51] 30 ?_
    simp only [e_X5_match_0, e_X5_match_1, e_X5_match_2, e_X5_match_4, e_X5_match_6, e_X5_match_9, e_X5_match_11, e_X5_match_12, e_X5_match_13, e_X5_match_16, e_X5_match_19, e_X5_match_21, e_X5_match_22, e_X5_match_25, e_X5_match_26, e_X5_match_27, e_X5_match_28, e_X5_match_31, e_X5_match_33, e_X5_match_36, e_X5_match_37, e_X5_match_40, e_X5_match_41, e_X5_match_44, e_X5_match_45, e_X5_match_46, e_X5_match_48, e_X5_match_51, f_aald, f_callS, f_callV, f_getR, f_icmp, f_if0, f_iret, f_loadI, f_loadR, f_push, f_storeI, stN, lget, lput, clrL, lputL, lenLe, lenGe, noL, swL, List.elem_cons, List.elem_nil, List.take_succ_cons, List.take_zero, List.take_nil, List.drop_succ_cons, List.drop_zero, List.reverse_cons, List.reverse_nil, List.nil_append, List.cons_append, Option.toList_some, Option.toList_none, Bool.and_true, Bool.or_false, Bool.false_or, Bool.true_or, Bool.and_self, true_and, and_true, Nat.reduceAdd, Nat.reduceBEq, Int.reduceAdd, Int.reduceNeg, Int.reduceLE, Int.reduceLT, Int.reduceSub, Int.reduceMul, Int.reduceToNat, cEq, cNe, cLt, cGe, cGt, cLe, iR, lR, cl_0, cl_1, cl_4, cl_9, cl_86, al_2, al_3, al_5, al_13, al_6, al_7, al_8, al_10, al_11, al_87, al_88, al_90, al_91, al_92, al_93, al_94, al_95, al_96, al_97, al_98, al_99, al_100, ne_eq, not_true_eq_false, not_false_eq_true, upM_eq, upM_ni, upM_nj, upM_24, upM_48, upM_i24, upM_i48, upM_2448, upM_4824, Nat.reduceEqDiff, reduceCtorEq, or_true, true_or, Int.reduceEq, true_implies, false_implies, Int.reducePow, Int.toNat_natCast]
    exact k M3 (hE.tr hE3.sc)
end

/-! calls, ends of methods, and what a method's contract is -/
abbrev vNw (s : State) : Prop := va_Nw (.methodLinkNest RX3 9 yX5_isKind RX5) s
def sC (l : Launch) (L : Nat → Nat) (D : va_G) (cI cZ cR : ClassId) : tC := fun d k as M Q =>
  iL L → noL as = true → as.length ≤ (mT k).2.2.1 → Met l (mT k).1 (.code (mT k).1 (mT k).2.1 (mT k).2.2.1 (mT k).2.2.2 :: TB) (rmD d)
    (va_Pc (as.map (toV L)) (fun U => va_P D vwCl (wW L cI cZ cR M) U.heap ∧ va_K D vwCl (tyL cI cZ cR) U ∧ vNw U)) (qc L D cI cZ cR Q) 0 0 (AL L)
theorem blindP {L : Nat → Nat} {D : va_G} {cI cZ cR : ClassId} {M : tM} {av : List Value} : FrameBlind (va_Pc av (fun U => va_P D vwCl (wW L cI cZ cR M) U.heap ∧ va_K D vwCl (tyL cI cZ cR) U ∧ vNw U)) := by
  intro a U g mk q
  obtain ⟨q0, qP, qK, qN⟩ := q
  exact ⟨q0, qP, va_K.moved (u := U) (U := U.calling g mk a) (Vm.Alike.refl U.vm) qK, va_Nw.same (u := U) (U := U.calling g mk a) rfl rfl qN⟩
theorem lenLe.sum {L : Nat → Nat} : ∀ (l : List tV) (n : Nat), lenLe l n = true → ((l.map (toV L)).map fun v => v.category).sum ≤ 2 * n
  | [], n, _ => by simp
  | a :: l, 0, h => by simp [lenLe] at h
  | a :: l, n + 1, h => by
    have h1 := lenLe.sum (L := L) l n h
    have h2 : (toV L a).category ≤ 2 := by rcases lv_cat (toV L a) with q | q <;> omega
    simp only [List.map_cons, List.sum_cons]
    omega
theorem lenGe.le : ∀ (l : List tV) (n : Nat), lenGe l n = true → n ≤ l.length
  | _, 0, _ => Nat.zero_le _
  | [], n + 1, h => by simp [lenGe] at h
  | a :: l, n + 1, h => by
    have := lenGe.le l n h
    simp only [List.length_cons]
    omega
theorem noL.rev {l : List tV} (h : noL l = true) : noL l.reverse = true := by
  have key : ∀ (l : List tV), noL l = true ↔ ∀ v ∈ l, ∀ x, v ≠ .inr (.inr x) := by
    intro l
    induction l with
    | nil => simp [noL]
    | cons a l ih =>
      rcases a with x | i | x
      · simp only [noL, ih, List.mem_cons, forall_eq_or_imp]
        exact ⟨fun h => ⟨fun y z => (by cases z), h⟩, fun h => h.2⟩
      · simp only [noL, ih, List.mem_cons, forall_eq_or_imp]
        exact ⟨fun h => ⟨fun y z => (by cases z), h⟩, fun h => h.2⟩
      · simp only [noL, List.mem_cons, forall_eq_or_imp]
        exact ⟨fun h => (by cases h), fun h => absurd rfl (h.1 x)⟩
  rw [key] at h ⊢
  exact fun v hv => h v (List.mem_reverse.mp hv)
section CC
variable {p : Program} {l : Launch} {e : Env} {R : Room} {s : State} {m : MethodId} {args : Array Value} {below : List Frame} {meth : Method} {c : Code} {cells slots : Nat} {QQ : State → Prop} {cc : ByteArray} {nL : Nat} {own : String} {A : Nat → Prop} {L : Nat → Nat} {D : va_G} {cI cZ cR : ClassId} {d : Nat} {C : tC} {Q Q1 : tQ} {pc : Nat} {H : Heap} {locs : List Loc} {lsA : Array Slot} {st0 rest : List Value} {a : Array Value}
theorem callG (hr : va_Run p l e R s m args below meth c H locs cells slots 0 0 (F0 m pc lsA st0) rest (qc L D cI cZ cR Q1 a) (AL L)) (hS : va_S A s.heap H locs) (hA : ∀ i, i < 101 → A (L i))
    (kk : ∀ (r : Option tV) (M2 : tM) (H1 : Heap) (locs1 : List Loc), Q1 r M2 → va_P D vwCl (wW L cI cZ cR M2) H1 → va_S A s.heap H1 locs1 → W p l e R s m args below meth c H1 locs1 cells slots QQ (F0 m (pc + 3) lsA ((r.map (toV L)).toList ++ rest))) : W p l e R s m args below meth c H locs cells slots QQ (F0 m pc lsA st0) := by
  intro T hT X
  obtain ⟨v, st₀, t, T', L2, h0, X', hL, e1, e2, ⟨⟨r, M2, hv, hp, hb⟩, hz, hk⟩, st⟩ := hr T hT X
  cases hv
  rw [h0] at hz hk
  have hAL : ∀ q, AL L q → A q := fun q ⟨i, h1, h2⟩ => h2 ▸ hA i h1
  obtain ⟨t2, a1, b1⟩ := kk r M2 T'.heap (locs ++ L2) hp (by rw [e1]; exact hb.1)
    ⟨Nat.le_trans hS.1 (by rw [e1]; exact hz), fun q h1 h2 => by rw [e1, hk q (Nat.lt_of_lt_of_le h1 hS.1) (fun z => h2 (hAL q z))]; exact hS.2.1 q h1 h2, fun q hq => by
      rcases List.mem_append.mp hq with h | h
      · exact hS.2.2 q h
      · exact hAL _ (hL q h)⟩ T' rfl X'
  exact ⟨t2, st t2 a1, b1⟩
theorem cB {k idx n : Nat} {y : MethodName} {bytes : ByteArray} {maxL : Nat} {ret : Option FieldType} (hts : ∀ w ∈ TB, w.before args s = true) (hR : d + 1 ≤ R.frames ∧ 31 * (d + 1) ≤ R.locals) (hmax : maxL ≤ 12) (w1 : Cond.methodLink own idx y ∈ TB) (w3 : Cond.initialized y.cls ∈ TB) (w4 : Cond.code y bytes maxL ret ∈ TB)
    (hdd : y.cls ≠ "java/lang/invoke/MethodHandle" ∧ y.cls ≠ "java/lang/invoke/VarHandle" ∧ (parseMethodDescriptor y.desc).map (fun d => d.parameters.length) = some n) : CallB R s args own idx y bytes maxL ret (Cond.code y bytes maxL ret :: TB) (rmD d) 0 0 n := by
  refine callB_of (Ts := TB) n hts (TB.good ?_) rfl rfl rfl (hts _ w3) (hts _ w1) hdd ⟨hR.1, ?_⟩
  · intro w hw
    rcases List.mem_cons.mp hw with rfl | h
    · exact w4
    · exact h
  · show 8 + (maxL + 11) + 31 * d ≤ R.locals
    omega
theorem r_callS (F : Fx p R s m args c cells slots cc nL own A L D cI cZ cR d) {idx k n : Nat} {y : MethodName} {bytes : ByteArray} {maxL : Nat} {ret : Option FieldType} (hd : decode cc pc = .ok (.invokestatic idx, 3)) (hm : mT k = (y, bytes, maxL, ret)) (hmax : maxL ≤ 12) (hn2 : n ≤ maxL) (w1 : Cond.methodLink own idx y ∈ TB) (w2 : Cond.static y ∈ TB) (w3 : Cond.initialized y.cls ∈ TB) (w4 : Cond.code y bytes maxL ret ∈ TB)
    (hdd : y.cls ≠ "java/lang/invoke/MethodHandle" ∧ y.cls ≠ "java/lang/invoke/VarHandle" ∧ (parseMethodDescriptor y.desc).map (fun d => d.parameters.length) = some n) : ∀ ls st M, f_callS k n (sC l L D cI cZ cR) d Q (sY p l e R s m args below meth c cells slots QQ nL A L D cI cZ cR) pc ls st M → sY p l e R s m args below meth c cells slots QQ nL A L D cI cZ cR pc ls st M := by
  intro ls st M h H locs lsA hP hS hl
  obtain ⟨hx, hb, hml, hown, hts, hK, hi, hA, hR, hcs, hNw⟩ := F
  unfold f_callS at h
  cases d with
  | zero => exact h.elim
  | succ d =>
    obtain ⟨hc, hC⟩ := h
    simp only [Bool.and_eq_true] at hc
    obtain ⟨⟨c1, c2⟩, c3⟩ := hc
    have hlen : (st.take n).reverse.length = n := by
      rw [List.length_reverse, List.length_take]
      have := lenGe.le _ _ c1
      omega
    have hM := hC hi (noL.rev c3) (by rw [hm, hlen]; exact hn2)
    rw [hm] at hM
    refine callG (rest := (st.drop n).map (toV L)) (va_runS (As := ((st.take n).reverse).map (toV L)) ⟨hx, hb, hml, hown, hts⟩ hM ⟨cB (k := k) hts hR hmax w1 w3 w4 hdd, hts _ w2⟩ ⟨blindP, fun U hU hW => ⟨rfl, by rw [hU]; exact hP, va_K.moved hW.alike hK, hNw.warmM hW⟩⟩ rfl (by rw [List.length_map, hlen]) hl.1 ?_ (lv_room (lenLe.sum _ 4 c2)) hd ⟨hcs.1, hcs.2⟩) hS hA (fun r M2 H1 locs1 hq hP1 hS1 => ?_)
    · show st.map (toV L) = _
      rw [← List.map_reverse, List.reverse_reverse, ← List.map_append, List.take_append_drop]
    · have k2 := hq H1 locs1 lsA hP1 hS1 hl
      rw [List.map_append] at k2
      cases r <;> exact k2
theorem r_callN (F : Fx p R s m args c cells slots cc nL RX3 A L D cI cZ cR d) {k n : Nat} {bytes : ByteArray} {maxL : Nat} {ret : Option FieldType} (hd : decode cc pc = .ok (.invokestatic 9, 3)) (hm : mT k = (yX5_isKind, bytes, maxL, ret)) (hmax : maxL ≤ 12) (hn2 : n ≤ maxL) (w2 : Cond.static yX5_isKind ∈ TB) (w3 : Cond.initialized yX5_isKind.cls ∈ TB) (w4 : Cond.code yX5_isKind bytes maxL ret ∈ TB)
    (hdd : yX5_isKind.cls ≠ "java/lang/invoke/MethodHandle" ∧ yX5_isKind.cls ≠ "java/lang/invoke/VarHandle" ∧ (parseMethodDescriptor yX5_isKind.desc).map (fun d => d.parameters.length) = some n) : ∀ ls st M, f_callS k n (sC l L D cI cZ cR) d Q (sY p l e R s m args below meth c cells slots QQ nL A L D cI cZ cR) pc ls st M → sY p l e R s m args below meth c cells slots QQ nL A L D cI cZ cR pc ls st M := by
  intro ls st M h H locs lsA hP hS hl
  obtain ⟨hx, hb, hml, hown, hts, hK, hi, hA, hR, hcs, hNw⟩ := F
  unfold f_callS at h
  cases d with
  | zero => exact h.elim
  | succ d =>
    obtain ⟨hc, hC⟩ := h
    simp only [Bool.and_eq_true] at hc
    obtain ⟨⟨c1, c2⟩, c3⟩ := hc
    have hlen : (st.take n).reverse.length = n := by
      rw [List.length_reverse, List.length_take]
      have := lenGe.le _ _ c1
      omega
    have hM := hC hi (noL.rev c3) (by rw [hm, hlen]; exact hn2)
    rw [hm] at hM
    refine callG (rest := (st.drop n).map (toV L)) (va_runSN (host := RX5) (As := ((st.take n).reverse).map (toV L)) ⟨hx, hb, hml, hown, hts⟩ hM ⟨va_cnB (Ts := TB) n hts (TB.good ?_) rfl rfl rfl hNw (hts _ w3) hdd ⟨hR.1, ?_⟩, hts _ w2, trivial⟩ ⟨blindP, fun U hU hW => ⟨rfl, by rw [hU]; exact hP, va_K.moved hW.alike hK, hNw.warmM hW⟩⟩ rfl (by rw [List.length_map, hlen]) hl.1 ?_ (lv_room (lenLe.sum _ 4 c2)) hd ⟨hcs.1, hcs.2⟩) hS hA (fun r M2 H1 locs1 hq hP1 hS1 => ?_)
    · intro w hw
      rcases List.mem_cons.mp hw with rfl | h
      · exact w4
      · exact h
    · show 8 + (maxL + 11) + 31 * d ≤ R.locals
      have := hR.2
      omega
    · show st.map (toV L) = _
      rw [← List.map_reverse, List.reverse_reverse, ← List.map_append, List.take_append_drop]
    · have k2 := hq H1 locs1 lsA hP1 hS1 hl
      rw [List.map_append] at k2
      cases r <;> exact k2
theorem r_callV (F : Fx p R s m args c cells slots cc nL own A L D cI cZ cR d) {idx k n ci : Nat} {q : vw_C} {y : MethodName} {bytes : ByteArray} {maxL : Nat} {ret : Option FieldType} (hd : decode cc pc = .ok (.invokevirtual idx, 3)) (hm : mT k = (y, bytes, maxL, ret)) (hq0 : vwCl[ci]? = some q) (hqy : q.1 = y.cls) (hmax : maxL ≤ 12) (hn2 : n + 1 ≤ maxL) (h9 : ci ≠ 9) (w1 : Cond.methodLink own idx y ∈ TB) (w2 : Cond.instanceMethod y ∈ TB) (w5 : Cond.selects y.cls y y ∈ TB) (w3 : Cond.initialized y.cls ∈ TB) (w4 : Cond.code y bytes maxL ret ∈ TB)
    (hdd : y.cls ≠ "java/lang/invoke/MethodHandle" ∧ y.cls ≠ "java/lang/invoke/VarHandle" ∧ (parseMethodDescriptor y.desc).map (fun d => d.parameters.length) = some n) : ∀ ls st M, f_callV ci k n (sC l L D cI cZ cR) d Q (sY p l e R s m args below meth c cells slots QQ nL A L D cI cZ cR) pc ls st M → sY p l e R s m args below meth c cells slots QQ nL A L D cI cZ cR pc ls st M := by
  intro ls st M h H locs lsA hP hS hl
  obtain ⟨hx, hb, hml, hown, hts, hK, hi, hA, hR, hcs, hNw⟩ := F
  unfold f_callV at h
  cases d with
  | zero => exact h.elim
  | succ d =>
    obtain ⟨hc, h2⟩ := h
    simp only [Bool.and_eq_true] at hc
    obtain ⟨c2, c3⟩ := hc
    split at h2
    · rename_i i st2 hst
      obtain ⟨hcl, hC⟩ := h2
      have hlt := clsOf_lt hcl h9
      have hat := wW.at (L := L) (cI := cI) (cZ := cZ) (cR := cR) (M := M) hlt
      rw [clsOf_cE hcl h9] at hat
      have hge : n < st.length := by
        have h3 := congrArg List.length hst
        rw [List.length_drop, List.length_cons] at h3
        omega
      have hlen : (st.take n).reverse.length = n := by
        rw [List.length_reverse, List.length_take]
        omega
      have hd1 : st.drop (n + 1) = st2 := by rw [← List.drop_drop, hst, List.drop_one, List.tail_cons]
      have hM := hC hi (by show noL (vR i :: _) = true; exact noL.rev c3) (by rw [hm, List.length_cons, hlen]; exact hn2)
      rw [hm] at hM
      have hrecv := va_recv hK hP hq0 hat
      rw [hqy] at hrecv
      refine callG (rest := (st.drop (n + 1)).map (toV L)) (va_runV (b := L i) (As := ((st.take n).reverse).map (toV L)) ⟨hx, hb, hml, hown, hts⟩ hM ⟨cB (k := k) hts hR hmax w1 w3 w4 hdd, hts _ w2, hts _ w5⟩ ⟨blindP, hrecv, fun U hU hW => ⟨rfl, by rw [hU]; exact hP, va_K.moved hW.alike hK, hNw.warmM hW⟩⟩ rfl (by rw [List.length_map, hlen]) hl.1 ?_ (lv_room (lenLe.sum _ 4 c2)) hd ⟨hcs.1, hcs.2⟩) hS hA (fun r M2 H1 locs1 hq hP1 hS1 => ?_)
      · show st.map (toV L) = _
        rw [← List.map_reverse, List.reverse_reverse, hd1]
        have h4 : st = st.take n ++ vR i :: st2 := by rw [← hst, List.take_append_drop]
        have h5 := congrArg (List.map (toV L)) h4
        rw [List.map_append, List.map_cons] at h5
        exact h5
      · have k2 := hq H1 locs1 lsA hP1 hS1 hl
        rw [List.map_append] at k2
        cases r <;> exact k2
    · exact h2.elim
theorem r_lsw2 (F : Fx p R s m args c cells slots cc nL own A L D cI cZ cR d) {a b oa ob od : Int} {ta tb td len : Nat} (hd : decode cc pc = .ok (.lookupswitch od #[(a, oa), (b, ob)], len)) (hp : (([(a, oa), (b, ob)] : List (Int × Int)).zip (([(a, oa), (b, ob)] : List (Int × Int)).drop 1)).all (fun (a, next) => a.1 < next.1) = true) (hta : (pc : Int) + oa = ta) (htb : (pc : Int) + ob = tb) (htd : (pc : Int) + od = td) (hab : a ≠ b) : ∀ ls st M, f_lsw2 a b ta tb td C d Q (sY p l e R s m args below meth c cells slots QQ nL A L D cI cZ cR) pc ls st M → sY p l e R s m args below meth c cells slots QQ nL A L D cI cZ cR pc ls st M := by
  intro ls st M h H locs lsA hP hS hl
  obtain ⟨hx, hb, hml, hown, hts, hK, hi, hA, hR, hcs, hNw⟩ := F
  unfold f_lsw2 at h
  split at h
  · rename_i x st
    obtain ⟨hr, h1, h2, h3⟩ := h
    have ho : ∀ y, Op.lookupswitch.offset [(a, oa), (b, ob)] od y = if y = a then oa else if y = b then ob else od := by
      intro y
      simp only [Op.lookupswitch.offset, List.find?]
      by_cases q : y = a
      · subst q; simp
      · by_cases q2 : y = b
        · subst q2; simp [q, Ne.symm q]
        · simp [q, q2, Ne.symm q, Ne.symm q2]
    by_cases q : x = a
    · exact lv_lookup (off := oa) (tgt := ta) hx hb hd hp (by rw [iN_toInt hr]; show Op.lookupswitch.offset [(a, oa), (b, ob)] od x = oa; rw [ho, if_pos q]) hta (h1 q H locs lsA hP hS hl)
    · by_cases q2 : x = b
      · exact lv_lookup (off := ob) (tgt := tb) hx hb hd hp (by rw [iN_toInt hr]; show Op.lookupswitch.offset [(a, oa), (b, ob)] od x = ob; rw [ho, if_neg q, if_pos q2]) htb (h2 q2 H locs lsA hP hS hl)
      · exact lv_lookup (off := od) (tgt := td) hx hb hd hp (by rw [iN_toInt hr]; show Op.lookupswitch.offset [(a, oa), (b, ob)] od x = od; rw [ho, if_neg q, if_neg q2]) htd (h3 ⟨q, q2⟩ H locs lsA hP hS hl)
  · exact h.elim
end CC
/-! ends -/
abbrev mYY (p : Program) (l : Launch) (e : Env) (s : State) (m : MethodId) (args : Array Value) (below : List Frame) (meth : Method) (c : Code) (nL : Nat) (L : Nat → Nat) (D : va_G) (cI cZ cR : ClassId) (d : Nat) (Q : tQ) : tY :=
  sY p l e (rmD d) s m args below meth c 0 0 (MQ below (qc L D cI cZ cR Q) args s 0 0 (AL L)) nL (AL L) L D cI cZ cR
abbrev RowOK (p : Program) (l : Launch) (e : Env) (s : State) (m : MethodId) (args : Array Value) (below : List Frame) (meth : Method) (c : Code) (nL : Nat) (L : Nat → Nat) (D : va_G) (cI cZ cR : ClassId) (d : Nat) (Q : tQ) (x : Nat × tF) : Prop :=
  ∀ ls st M, x.2 (sC l L D cI cZ cR) d Q (mYY p l e s m args below meth c nL L D cI cZ cR d Q) x.1 ls st M → mYY p l e s m args below meth c nL L D cI cZ cR d Q x.1 ls st M
section EE
variable {p : Program} {l : Launch} {e : Env} {s : State} {m : MethodId} {args : Array Value} {below : List Frame} {meth : Method} {c : Code} {cc : ByteArray} {nL : Nat} {own : String} {L : Nat → Nat} {D : va_G} {cI cZ cR : ClassId} {d : Nat} {Q : tQ} {pc : Nat} {C : tC}
theorem r_iret (F : Fx p (rmD d) s m args c 0 0 cc nL own (AL L) L D cI cZ cR d) (hd : decode cc pc = .ok (.ireturn, 1)) (hr : meth.sig.returnType = some .int) (hlk : meth.locks = false) : ∀ ls st M, f_iret C d Q (mYY p l e s m args below meth c nL L D cI cZ cR d Q) pc ls st M → mYY p l e s m args below meth c nL L D cI cZ cR d Q pc ls st M := by
  intro ls st M h H locs lsA hP hS hl
  obtain ⟨hx, hb, hml, hown, hts, hK, hi, hA, hR, hcs, hNw⟩ := F
  unfold f_iret at h
  split at h
  · rename_i x
    exact W.iret hx hb hr (fun t ht hW => ⟨⟨some (vI x), M, rfl, h, by rw [ht]; exact hP, va_K.moved hW.alike hK⟩, hS.F ht⟩) hS.2.2 hd (hlocks := hlk)
  · exact h.elim
theorem r_zret (F : Fx p (rmD d) s m args c 0 0 cc nL own (AL L) L D cI cZ cR d) (hd : decode cc pc = .ok (.ireturn, 1)) (hr : meth.sig.returnType = some .boolean) (hlk : meth.locks = false) : ∀ ls st M, f_zret C d Q (mYY p l e s m args below meth c nL L D cI cZ cR d Q) pc ls st M → mYY p l e s m args below meth c nL L D cI cZ cR d Q pc ls st M := by
  intro ls st M h H locs lsA hP hS hl
  obtain ⟨hx, hb, hml, hown, hts, hK, hi, hA, hR, hcs, hNw⟩ := F
  unfold f_zret at h
  split at h
  · rename_i x
    exact W.zret hx hb hr (nar_z h.1) (fun t ht hW => ⟨⟨some (vI x), M, rfl, h.2, by rw [ht]; exact hP, va_K.moved hW.alike hK⟩, hS.F ht⟩) hS.2.2 hd (hlocks := hlk)
  · exact h.elim
theorem r_lret (F : Fx p (rmD d) s m args c 0 0 cc nL own (AL L) L D cI cZ cR d) (hd : decode cc pc = .ok (.lreturn, 1)) (hr : meth.sig.returnType = some .long) (hlk : meth.locks = false) : ∀ ls st M, f_lret C d Q (mYY p l e s m args below meth c nL L D cI cZ cR d Q) pc ls st M → mYY p l e s m args below meth c nL L D cI cZ cR d Q pc ls st M := by
  intro ls st M h H locs lsA hP hS hl
  obtain ⟨hx, hb, hml, hown, hts, hK, hi, hA, hR, hcs, hNw⟩ := F
  unfold f_lret at h
  split at h
  · rename_i x
    exact W.lret hx hb hr (fun t ht hW => ⟨⟨some (vL x), M, rfl, h, by rw [ht]; exact hP, va_K.moved hW.alike hK⟩, hS.F ht⟩) hS.2.2 hd (hlocks := hlk)
  · exact h.elim
theorem r_vret (F : Fx p (rmD d) s m args c 0 0 cc nL own (AL L) L D cI cZ cR d) (hd : decode cc pc = .ok (.return_, 1)) (hr : meth.sig.returnType = none) (hlk : meth.locks = false) : ∀ ls st M, f_vret C d Q (mYY p l e s m args below meth c nL L D cI cZ cR d Q) pc ls st M → mYY p l e s m args below meth c nL L D cI cZ cR d Q pc ls st M := by
  intro ls st M h H locs lsA hP hS hl
  obtain ⟨hx, hb, hml, hown, hts, hK, hi, hA, hR, hcs, hNw⟩ := F
  unfold f_vret at h
  split at h
  · exact W.vret hx hb hr (fun t ht hW => ⟨⟨none, M, rfl, h, by rw [ht]; exact hP, va_K.moved hW.alike hK⟩, hS.F ht⟩) hS.2.2 hd (hlocks := hlk)
  · exact h.elim
end EE
/-- the entry's locals -/
theorem tp.ent {L : Nat → Nat} : ∀ (as : List tV) (o n : Nat), noL as = true → tp L o (as.map some ++ List.replicate n none) = lv_args o (as.map (toV L))
  | [], o, n, _ => by
    induction n generalizing o with
    | zero => rfl
    | succ n ih => exact ih (o + 1)
  | .inl x :: as, o, n, h => by
    have := tp.ent (L := L) as (o + 1) n h
    simp only [List.map_cons, List.cons_append, tp, lv_args, this]
    rfl
  | .inr (.inl x) :: as, o, n, h => by
    have := tp.ent (L := L) as (o + 1) n h
    simp only [List.map_cons, List.cons_append, tp, lv_args, this]
    rfl
  | .inr (.inr x) :: as, o, n, h => by simp [noL] at h
theorem noL.sl {L : Nat → Nat} : ∀ (as : List tV), noL as = true → (lg_sl (as.map (toV L))).length = as.length
  | [], _ => rfl
  | .inl x :: as, h => by
    have := noL.sl (L := L) as h
    show (lg_sl _).length + 1 = _
    rw [this]; rfl
  | .inr (.inl x) :: as, h => by
    have := noL.sl (L := L) as h
    show (lg_sl _).length + 1 = _
    rw [this]; rfl
  | .inr (.inr x) :: as, h => by simp [noL] at h
/-- a method whose table holds of the machine, and whose body runs on the small machine, meets its contract -/
theorem sC.of {l : Launch} {L : Nat → Nat} {D : va_G} {cI cZ cR : ClassId} {d k : Nat} {as : List tV} {M : tM} {Q : tQ} {y : MethodName} {bytes : ByteArray} {nL : Nat} {ret : Option FieldType} {tab : List (Nat × tF)} (hm : mT k = (y, bytes, nL, ret)) (hpl : plainName y.cls = true)
    (rows : ∀ {p : Program} {e : Env} {s : State} {m : MethodId} {args : Array Value} {below : List Frame} {meth : Method} {c : Code}, Fx p (rmD d) s m args c 0 0 bytes nL y.cls (AL L) L D cI cZ cR d → meth.sig.returnType = ret → meth.locks = false → AllS (RowOK p l e s m args below meth c nL L D cI cZ cR d Q) tab)
    (h : Runs (sC l L D cI cZ cR) (tabF tab) d Q 0 (ent as nL) [] M) : sC l L D cI cZ cR d k as M Q := by
  intro hi hno hlen
  rw [hm] at hlen ⊢
  refine Met.ofW (cc := bytes) (maxL := nL) (ret := ret) hpl rfl ?_
  intro p e s m args below meth c s₁ B hml hv
  obtain ⟨rfl, hP, hK, hN⟩ := hv
  have hts0 := atoms_spec (ws := Cond.code y bytes nL ret :: TB) B.pre
  have hts : ∀ w ∈ TB, w.before (as.map (toV L)).toArray s = true := fun w hw => hts0 w (List.mem_cons_of_mem _ hw)
  have hown : s.vm.findClass y.cls = some m.cls := findClass_of_methodNamed B.named
  have F : Fx p (rmD d) s m (as.map (toV L)).toArray c 0 0 bytes nL y.cls (AL L) L D cI cZ cR d := ⟨B.exec, B.bytes, hml, hown, hts, hK, hi, fun i h => ⟨i, h, rfl⟩, ⟨Nat.le_refl _, Nat.le_refl _⟩, ⟨Nat.zero_le _, Nat.zero_le _⟩, hN⟩
  have hrow := rows (e := e) (below := below) F B.returns B.notSynchronized
  have hcl : ∀ pc ls st M, tabF tab pc (sC l L D cI cZ cR) d Q (mYY p l e s m (as.map (toV L)).toArray below meth c nL L D cI cZ cR d Q) pc ls st M → mYY p l e s m (as.map (toV L)).toArray below meth c nL L D cI cZ cR d Q pc ls st M := fun pc => tabF_all (P := RowOK p l e s m (as.map (toV L)).toArray below meth c nL L D cI cZ cR d Q) (fun _ _ _ _ h => h.elim) tab hrow pc
  have hY := h _ hcl s.heap [] ((lg_sl (as.map (toV L)) ++ List.replicate (nL - (lg_sl (as.map (toV L))).length) Slot.unset).toArray) hP va_S.rf (by
    unfold ent
    rw [tp.ent _ _ _ hno]
    exact lv_entry (as.map (toV L)) (n := nL) (by rw [noL.sl _ hno]; exact hlen))
  rw [lg_entry_eq]
  exact hY
theorem CMono.sC {l : Launch} {L : Nat → Nat} {D : va_G} {cI cZ cR : ClassId} : CMono (sC l L D cI cZ cR) := by
  intro d k as M Q Q' hQ h hi hno hlen
  have hM := h hi hno hlen
  intro p e ha hc hk s m args below hf happ hP hKK
  obtain ⟨n, o, h1, h2, h3, ⟨⟨⟨r, M2, q1, q2, q3⟩, q4⟩, q5⟩⟩ := hM p e ha hc hk s m args below hf happ hP hKK
  exact ⟨n, o, h1, h2, h3, ⟨⟨⟨r, M2, q1, hQ _ _ q2, q3⟩, q4⟩, q5⟩⟩
section MM
variable {p : Program} {l : Launch} {e : Env} {R : Room} {s : State} {m : MethodId} {args : Array Value} {below : List Frame} {meth : Method} {c : Code} {cells slots : Nat} {QQ : State → Prop} {cc : ByteArray} {nL : Nat} {own : String} {A : Nat → Prop} {L : Nat → Nat} {D : va_G} {cI cZ cR : ClassId} {d : Nat} {C : tC} {Q : tQ} {pc : Nat}
theorem r_min (F : Fx p R s m args c cells slots cc nL own A L D cI cZ cR d) {idx : Nat} (hd : decode cc pc = .ok (.invokestatic idx, 3)) (w1 : Cond.methodLink own idx Lib.Math.min.name ∈ TB) (w2 : Cond.static Lib.Math.min.name ∈ TB) (w3 : Cond.initialized "java/lang/Math" ∈ TB) (w4 : Cond.code Lib.Math.min.name Lib.Math.min.code 2 (some .int) ∈ TB) : ∀ ls st M, f_min C d Q (sY p l e R s m args below meth c cells slots QQ nL A L D cI cZ cR) pc ls st M → sY p l e R s m args below meth c cells slots QQ nL A L D cI cZ cR pc ls st M := by
  intro ls st M h H locs lsA hP hS hl
  obtain ⟨hx, hb, hml, hown, hts, hK, hi, hA, hR, hcs, hNw⟩ := F
  unfold f_min at h
  cases d with
  | zero => exact h.elim
  | succ d =>
    dsimp only at h
    split at h
    · rename_i y x st
      obtain ⟨h1, h2, h3, h4⟩ := h
      have k := h4 H locs lsA hP hS hl
      have hs := lenLe.sum (L := L) st 4 h3
      refine va_mmin hx hb (by rw [hml]; exact hl.1.symm) hown (hts _ w1) (hts _ w2) (hts _ w3) (hts _ w4) (by omega) (by omega) hcs.1 hcs.2 hd ?_
      have e2 : (if iN y < iN x then iN y else iN x) = iN (if y < x then y else x) := by
        by_cases q : y < x
        · rw [if_pos q, if_pos ((iN_lt h2 h1).mpr q)]
        · rw [if_neg q, if_neg (fun z => q ((iN_lt h2 h1).mp z))]
      rw [e2]
      exact k
    · exact h.elim
theorem r_abs (F : Fx p R s m args c cells slots cc nL own A L D cI cZ cR d) {idx : Nat} (hd : decode cc pc = .ok (.invokestatic idx, 3)) (w1 : Cond.methodLink own idx Lib.Math.abs.name ∈ TB) (w2 : Cond.static Lib.Math.abs.name ∈ TB) (w3 : Cond.initialized "java/lang/Math" ∈ TB) (w4 : Cond.code Lib.Math.abs.name Lib.Math.abs.code 1 (some .int) ∈ TB) : ∀ ls st M, f_abs C d Q (sY p l e R s m args below meth c cells slots QQ nL A L D cI cZ cR) pc ls st M → sY p l e R s m args below meth c cells slots QQ nL A L D cI cZ cR pc ls st M := by
  intro ls st M h H locs lsA hP hS hl
  obtain ⟨hx, hb, hml, hown, hts, hK, hi, hA, hR, hcs, hNw⟩ := F
  unfold f_abs at h
  cases d with
  | zero => exact h.elim
  | succ d =>
    dsimp only at h
    split at h
    · rename_i x st
      obtain ⟨h1, h3, h4⟩ := h
      have k := h4 H locs lsA hP hS hl
      have hs := lenLe.sum (L := L) st 4 h3
      refine va_mabs hx hb (by rw [hml]; exact hl.1.symm) hown (hts _ w1) (hts _ w2) (hts _ w3) (hts _ w4) (by omega) (by omega) hcs.1 hcs.2 hd ?_
      have e2 : (if 0 ≤ iN x then iN x else 0 - iN x) = iN (if 0 ≤ x then x else 0 - x) := by
        by_cases q : 0 ≤ x
        · rw [if_pos q, if_pos (show (0 : Int32) ≤ iN x from (iN_le iR_0 h1).mpr q)]
        · rw [if_neg q, if_neg (show ¬ (0 : Int32) ≤ iN x from fun z => q ((iN_le iR_0 h1).mp z))]
          show _ = Int32.ofInt (0 - x)
          rw [Int32.ofInt_sub]
          rfl
      rw [e2]
      exact k
    · exact h.elim
end MM

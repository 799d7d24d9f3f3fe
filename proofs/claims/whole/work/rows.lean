section
-- ===== PART A: goes FIRST, ahead of the names: the tables' words, and 'selects' of the private methods out of them =====
/-- a private method of a class that the tables say can be made, by its rows of tables_1 -/
def lw_okq (q : MethodName × Nat) : Prop := (q.1.cls ≠ "java/lang/invoke/MethodHandle" ∧ q.1.cls ≠ "java/lang/invoke/VarHandle") ∧ Cond.instantiable q.1.cls q.2 ∈ tables_1 ∧ Cond.privateMethod q.1 ∈ tables_1 ∧ Cond.instanceMethod q.1 ∈ tables_1
theorem lw_p0 : lw_okq (⟨"RowFinder$Kinds", "climb", "(I)I"⟩, 2) := ⟨⟨by decide +kernel, by decide +kernel⟩, List.mem_of_getElem? (i := 19) (by decide +kernel), List.mem_of_getElem? (i := 143) (by decide +kernel), List.mem_of_getElem? (i := 144) (by decide +kernel)⟩
theorem lw_p1 : lw_okq (⟨"RowFinder", "isRow", "(I)Z"⟩, 6) := ⟨⟨by decide +kernel, by decide +kernel⟩, List.mem_of_getElem? (i := 11) (by decide +kernel), List.mem_of_getElem? (i := 159) (by decide +kernel), List.mem_of_getElem? (i := 160) (by decide +kernel)⟩
theorem lw_p2 : lw_okq (⟨"RowFinder", "countOf", "(I)I"⟩, 6) := ⟨⟨by decide +kernel, by decide +kernel⟩, List.mem_of_getElem? (i := 11) (by decide +kernel), List.mem_of_getElem? (i := 203) (by decide +kernel), List.mem_of_getElem? (i := 204) (by decide +kernel)⟩
theorem lw_p3 : lw_okq (⟨"RowFinder", "rowsWith", "(I)I"⟩, 6) := ⟨⟨by decide +kernel, by decide +kernel⟩, List.mem_of_getElem? (i := 11) (by decide +kernel), List.mem_of_getElem? (i := 207) (by decide +kernel), List.mem_of_getElem? (i := 208) (by decide +kernel)⟩
theorem lw_p4 : lw_okq (⟨"RowFinder$Matcher", "loseChains", "()V"⟩, 8) := ⟨⟨by decide +kernel, by decide +kernel⟩, List.mem_of_getElem? (i := 35) (by decide +kernel), List.mem_of_getElem? (i := 228) (by decide +kernel), List.mem_of_getElem? (i := 229) (by decide +kernel)⟩
theorem lw_p5 : lw_okq (⟨"RowFinder$Matcher", "endsMatch", "(LRowFinder$Row;I)Z"⟩, 8) := ⟨⟨by decide +kernel, by decide +kernel⟩, List.mem_of_getElem? (i := 35) (by decide +kernel), List.mem_of_getElem? (i := 236) (by decide +kernel), List.mem_of_getElem? (i := 237) (by decide +kernel)⟩
theorem lw_p6 : lw_okq (⟨"RowFinder$Matcher", "canFollow", "(II)Z"⟩, 8) := ⟨⟨by decide +kernel, by decide +kernel⟩, List.mem_of_getElem? (i := 35) (by decide +kernel), List.mem_of_getElem? (i := 245) (by decide +kernel), List.mem_of_getElem? (i := 246) (by decide +kernel)⟩
theorem lw_p7 : lw_okq (⟨"RowFinder$Matcher", "goToFirstMatch", "(LRowFinder$Row;)Z"⟩, 8) := ⟨⟨by decide +kernel, by decide +kernel⟩, List.mem_of_getElem? (i := 35) (by decide +kernel), List.mem_of_getElem? (i := 264) (by decide +kernel), List.mem_of_getElem? (i := 265) (by decide +kernel)⟩
theorem lw_p8 : lw_okq (⟨"RowFinder$Matcher", "goToNextMatch", "(LRowFinder$Row;I)Z"⟩, 8) := ⟨⟨by decide +kernel, by decide +kernel⟩, List.mem_of_getElem? (i := 35) (by decide +kernel), List.mem_of_getElem? (i := 268) (by decide +kernel), List.mem_of_getElem? (i := 269) (by decide +kernel)⟩
theorem lw_p9 : lw_okq (⟨"RowFinder$Matcher", "nextPlace", "(LRowFinder$Row;I)I"⟩, 8) := ⟨⟨by decide +kernel, by decide +kernel⟩, List.mem_of_getElem? (i := 35) (by decide +kernel), List.mem_of_getElem? (i := 273) (by decide +kernel), List.mem_of_getElem? (i := 274) (by decide +kernel)⟩
theorem lw_p10 : lw_okq (⟨"RowFinder$Matcher", "canStandAt", "(LRowFinder$Row;II)Z"⟩, 8) := ⟨⟨by decide +kernel, by decide +kernel⟩, List.mem_of_getElem? (i := 35) (by decide +kernel), List.mem_of_getElem? (i := 277) (by decide +kernel), List.mem_of_getElem? (i := 278) (by decide +kernel)⟩
theorem lw_p11 : lw_okq (⟨"RowFinder", "rowsIn", "()I"⟩, 6) := ⟨⟨by decide +kernel, by decide +kernel⟩, List.mem_of_getElem? (i := 11) (by decide +kernel), List.mem_of_getElem? (i := 298) (by decide +kernel), List.mem_of_getElem? (i := 299) (by decide +kernel)⟩
theorem lw_p12 : lw_okq (⟨"RowFinder", "rowsInOf", "(I)I"⟩, 6) := ⟨⟨by decide +kernel, by decide +kernel⟩, List.mem_of_getElem? (i := 11) (by decide +kernel), List.mem_of_getElem? (i := 302) (by decide +kernel), List.mem_of_getElem? (i := 303) (by decide +kernel)⟩
theorem lw_p13 : lw_okq (⟨"RowFinder", "findLonger", "(III)V"⟩, 6) := ⟨⟨by decide +kernel, by decide +kernel⟩, List.mem_of_getElem? (i := 11) (by decide +kernel), List.mem_of_getElem? (i := 306) (by decide +kernel), List.mem_of_getElem? (i := 307) (by decide +kernel)⟩
theorem lw_p14 : lw_okq (⟨"RowFinder", "gatherRowsBehind", "(II)V"⟩, 6) := ⟨⟨by decide +kernel, by decide +kernel⟩, List.mem_of_getElem? (i := 11) (by decide +kernel), List.mem_of_getElem? (i := 310) (by decide +kernel), List.mem_of_getElem? (i := 311) (by decide +kernel)⟩
theorem lw_p15 : lw_okq (⟨"RowFinder", "longerSays", "(II)Z"⟩, 6) := ⟨⟨by decide +kernel, by decide +kernel⟩, List.mem_of_getElem? (i := 11) (by decide +kernel), List.mem_of_getElem? (i := 360) (by decide +kernel), List.mem_of_getElem? (i := 361) (by decide +kernel)⟩
def lw_privs_1 : List (MethodName × Nat) := [(⟨"RowFinder$Kinds", "climb", "(I)I"⟩, 2), (⟨"RowFinder", "isRow", "(I)Z"⟩, 6), (⟨"RowFinder", "countOf", "(I)I"⟩, 6), (⟨"RowFinder", "rowsWith", "(I)I"⟩, 6), (⟨"RowFinder$Matcher", "loseChains", "()V"⟩, 8), (⟨"RowFinder$Matcher", "endsMatch", "(LRowFinder$Row;I)Z"⟩, 8), (⟨"RowFinder$Matcher", "canFollow", "(II)Z"⟩, 8), (⟨"RowFinder$Matcher", "goToFirstMatch", "(LRowFinder$Row;)Z"⟩, 8), (⟨"RowFinder$Matcher", "goToNextMatch", "(LRowFinder$Row;I)Z"⟩, 8), (⟨"RowFinder$Matcher", "nextPlace", "(LRowFinder$Row;I)I"⟩, 8), (⟨"RowFinder$Matcher", "canStandAt", "(LRowFinder$Row;II)Z"⟩, 8), (⟨"RowFinder", "rowsIn", "()I"⟩, 6), (⟨"RowFinder", "rowsInOf", "(I)I"⟩, 6), (⟨"RowFinder", "findLonger", "(III)V"⟩, 6), (⟨"RowFinder", "gatherRowsBehind", "(II)V"⟩, 6), (⟨"RowFinder", "longerSays", "(II)Z"⟩, 6)]
theorem lw_r1 : ∀ q ∈ lw_privs_1, lw_okq q := List.forall_mem_cons.mpr ⟨lw_p0, List.forall_mem_cons.mpr ⟨lw_p1, List.forall_mem_cons.mpr ⟨lw_p2, List.forall_mem_cons.mpr ⟨lw_p3, List.forall_mem_cons.mpr ⟨lw_p4, List.forall_mem_cons.mpr ⟨lw_p5, List.forall_mem_cons.mpr ⟨lw_p6, List.forall_mem_cons.mpr ⟨lw_p7, List.forall_mem_cons.mpr ⟨lw_p8, List.forall_mem_cons.mpr ⟨lw_p9, List.forall_mem_cons.mpr ⟨lw_p10, List.forall_mem_cons.mpr ⟨lw_p11, List.forall_mem_cons.mpr ⟨lw_p12, List.forall_mem_cons.mpr ⟨lw_p13, List.forall_mem_cons.mpr ⟨lw_p14, List.forall_mem_cons.mpr ⟨lw_p15, fun _ h => absurd h List.not_mem_nil⟩⟩⟩⟩⟩⟩⟩⟩⟩⟩⟩⟩⟩⟩⟩⟩
theorem lw_p16 : lw_okq (⟨"RowFinder", "narrowerSays", "(II)Z"⟩, 6) := ⟨⟨by decide +kernel, by decide +kernel⟩, List.mem_of_getElem? (i := 11) (by decide +kernel), List.mem_of_getElem? (i := 364) (by decide +kernel), List.mem_of_getElem? (i := 365) (by decide +kernel)⟩
theorem lw_p17 : lw_okq (⟨"RowFinder", "rowsLacking", "(I)I"⟩, 6) := ⟨⟨by decide +kernel, by decide +kernel⟩, List.mem_of_getElem? (i := 11) (by decide +kernel), List.mem_of_getElem? (i := 412) (by decide +kernel), List.mem_of_getElem? (i := 413) (by decide +kernel)⟩
theorem lw_p18 : lw_okq (⟨"RowFinder", "happeningsInAll", "()I"⟩, 6) := ⟨⟨by decide +kernel, by decide +kernel⟩, List.mem_of_getElem? (i := 11) (by decide +kernel), List.mem_of_getElem? (i := 448) (by decide +kernel), List.mem_of_getElem? (i := 449) (by decide +kernel)⟩
theorem lw_p19 : lw_okq (⟨"RowFinderModel", "isOf", "(II)Z"⟩, 20) := ⟨⟨by decide +kernel, by decide +kernel⟩, List.mem_of_getElem? (i := 452) (by decide +kernel), List.mem_of_getElem? (i := 530) (by decide +kernel), List.mem_of_getElem? (i := 531) (by decide +kernel)⟩
theorem lw_p20 : lw_okq (⟨"RowFinderModel", "isRow", "(I)Z"⟩, 20) := ⟨⟨by decide +kernel, by decide +kernel⟩, List.mem_of_getElem? (i := 452) (by decide +kernel), List.mem_of_getElem? (i := 546) (by decide +kernel), List.mem_of_getElem? (i := 547) (by decide +kernel)⟩
theorem lw_p21 : lw_okq (⟨"RowFinderModel", "takes", "(IIII)Z"⟩, 20) := ⟨⟨by decide +kernel, by decide +kernel⟩, List.mem_of_getElem? (i := 452) (by decide +kernel), List.mem_of_getElem? (i := 566) (by decide +kernel), List.mem_of_getElem? (i := 567) (by decide +kernel)⟩
theorem lw_p22 : lw_okq (⟨"RowFinderModel", "mapsAll", "()V"⟩, 20) := ⟨⟨by decide +kernel, by decide +kernel⟩, List.mem_of_getElem? (i := 452) (by decide +kernel), List.mem_of_getElem? (i := 570) (by decide +kernel), List.mem_of_getElem? (i := 571) (by decide +kernel)⟩
theorem lw_p23 : lw_okq (⟨"RowFinderModel", "maps", "(I)V"⟩, 20) := ⟨⟨by decide +kernel, by decide +kernel⟩, List.mem_of_getElem? (i := 452) (by decide +kernel), List.mem_of_getElem? (i := 574) (by decide +kernel), List.mem_of_getElem? (i := 575) (by decide +kernel)⟩
theorem lw_p24 : lw_okq (⟨"RowFinderModel", "leads", "(III)Z"⟩, 20) := ⟨⟨by decide +kernel, by decide +kernel⟩, List.mem_of_getElem? (i := 452) (by decide +kernel), List.mem_of_getElem? (i := 578) (by decide +kernel), List.mem_of_getElem? (i := 579) (by decide +kernel)⟩
theorem lw_p25 : lw_okq (⟨"RowFinderModel", "spans", "(III)Z"⟩, 20) := ⟨⟨by decide +kernel, by decide +kernel⟩, List.mem_of_getElem? (i := 452) (by decide +kernel), List.mem_of_getElem? (i := 582) (by decide +kernel), List.mem_of_getElem? (i := 583) (by decide +kernel)⟩
theorem lw_p26 : lw_okq (⟨"RowFinderModel", "countOf", "(I)I"⟩, 20) := ⟨⟨by decide +kernel, by decide +kernel⟩, List.mem_of_getElem? (i := 452) (by decide +kernel), List.mem_of_getElem? (i := 586) (by decide +kernel), List.mem_of_getElem? (i := 587) (by decide +kernel)⟩
theorem lw_p27 : lw_okq (⟨"RowFinderModel", "has", "(II)Z"⟩, 20) := ⟨⟨by decide +kernel, by decide +kernel⟩, List.mem_of_getElem? (i := 452) (by decide +kernel), List.mem_of_getElem? (i := 590) (by decide +kernel), List.mem_of_getElem? (i := 591) (by decide +kernel)⟩
theorem lw_p28 : lw_okq (⟨"RowFinderModel", "ends", "(III)I"⟩, 20) := ⟨⟨by decide +kernel, by decide +kernel⟩, List.mem_of_getElem? (i := 452) (by decide +kernel), List.mem_of_getElem? (i := 594) (by decide +kernel), List.mem_of_getElem? (i := 595) (by decide +kernel)⟩
theorem lw_p29 : lw_okq (⟨"RowFinderModel", "next", "(IZ)Z"⟩, 20) := ⟨⟨by decide +kernel, by decide +kernel⟩, List.mem_of_getElem? (i := 452) (by decide +kernel), List.mem_of_getElem? (i := 603) (by decide +kernel), List.mem_of_getElem? (i := 604) (by decide +kernel)⟩
theorem lw_p30 : lw_okq (⟨"RowFinderModel", "isAt", "(III)Z"⟩, 20) := ⟨⟨by decide +kernel, by decide +kernel⟩, List.mem_of_getElem? (i := 452) (by decide +kernel), List.mem_of_getElem? (i := 607) (by decide +kernel), List.mem_of_getElem? (i := 608) (by decide +kernel)⟩
theorem lw_p31 : lw_okq (⟨"RowFinderModel", "isThere", "(I)Z"⟩, 20) := ⟨⟨by decide +kernel, by decide +kernel⟩, List.mem_of_getElem? (i := 452) (by decide +kernel), List.mem_of_getElem? (i := 619) (by decide +kernel), List.mem_of_getElem? (i := 620) (by decide +kernel)⟩
def lw_privs_2 : List (MethodName × Nat) := [(⟨"RowFinder", "narrowerSays", "(II)Z"⟩, 6), (⟨"RowFinder", "rowsLacking", "(I)I"⟩, 6), (⟨"RowFinder", "happeningsInAll", "()I"⟩, 6), (⟨"RowFinderModel", "isOf", "(II)Z"⟩, 20), (⟨"RowFinderModel", "isRow", "(I)Z"⟩, 20), (⟨"RowFinderModel", "takes", "(IIII)Z"⟩, 20), (⟨"RowFinderModel", "mapsAll", "()V"⟩, 20), (⟨"RowFinderModel", "maps", "(I)V"⟩, 20), (⟨"RowFinderModel", "leads", "(III)Z"⟩, 20), (⟨"RowFinderModel", "spans", "(III)Z"⟩, 20), (⟨"RowFinderModel", "countOf", "(I)I"⟩, 20), (⟨"RowFinderModel", "has", "(II)Z"⟩, 20), (⟨"RowFinderModel", "ends", "(III)I"⟩, 20), (⟨"RowFinderModel", "next", "(IZ)Z"⟩, 20), (⟨"RowFinderModel", "isAt", "(III)Z"⟩, 20), (⟨"RowFinderModel", "isThere", "(I)Z"⟩, 20)]
theorem lw_r2 : ∀ q ∈ lw_privs_2, lw_okq q := List.forall_mem_cons.mpr ⟨lw_p16, List.forall_mem_cons.mpr ⟨lw_p17, List.forall_mem_cons.mpr ⟨lw_p18, List.forall_mem_cons.mpr ⟨lw_p19, List.forall_mem_cons.mpr ⟨lw_p20, List.forall_mem_cons.mpr ⟨lw_p21, List.forall_mem_cons.mpr ⟨lw_p22, List.forall_mem_cons.mpr ⟨lw_p23, List.forall_mem_cons.mpr ⟨lw_p24, List.forall_mem_cons.mpr ⟨lw_p25, List.forall_mem_cons.mpr ⟨lw_p26, List.forall_mem_cons.mpr ⟨lw_p27, List.forall_mem_cons.mpr ⟨lw_p28, List.forall_mem_cons.mpr ⟨lw_p29, List.forall_mem_cons.mpr ⟨lw_p30, List.forall_mem_cons.mpr ⟨lw_p31, fun _ h => absurd h List.not_mem_nil⟩⟩⟩⟩⟩⟩⟩⟩⟩⟩⟩⟩⟩⟩⟩⟩
theorem lw_p32 : lw_okq (⟨"RowFinderModel", "keeps", "(II)V"⟩, 20) := ⟨⟨by decide +kernel, by decide +kernel⟩, List.mem_of_getElem? (i := 452) (by decide +kernel), List.mem_of_getElem? (i := 623) (by decide +kernel), List.mem_of_getElem? (i := 624) (by decide +kernel)⟩
theorem lw_p33 : lw_okq (⟨"RowFinderModel", "takesFound", "(I)Z"⟩, 20) := ⟨⟨by decide +kernel, by decide +kernel⟩, List.mem_of_getElem? (i := 452) (by decide +kernel), List.mem_of_getElem? (i := 635) (by decide +kernel), List.mem_of_getElem? (i := 636) (by decide +kernel)⟩
theorem lw_p34 : lw_okq (⟨"RowFinderModel", "inHeap", "(IZ)I"⟩, 20) := ⟨⟨by decide +kernel, by decide +kernel⟩, List.mem_of_getElem? (i := 452) (by decide +kernel), List.mem_of_getElem? (i := 643) (by decide +kernel), List.mem_of_getElem? (i := 644) (by decide +kernel)⟩
theorem lw_p35 : lw_okq (⟨"RowFinderModel", "those", "(II)I"⟩, 20) := ⟨⟨by decide +kernel, by decide +kernel⟩, List.mem_of_getElem? (i := 452) (by decide +kernel), List.mem_of_getElem? (i := 651) (by decide +kernel), List.mem_of_getElem? (i := 652) (by decide +kernel)⟩
theorem lw_p36 : lw_okq (⟨"RowFinderModel", "isLacking", "(I)Z"⟩, 20) := ⟨⟨by decide +kernel, by decide +kernel⟩, List.mem_of_getElem? (i := 452) (by decide +kernel), List.mem_of_getElem? (i := 667) (by decide +kernel), List.mem_of_getElem? (i := 668) (by decide +kernel)⟩
def lw_privs_3 : List (MethodName × Nat) := [(⟨"RowFinderModel", "keeps", "(II)V"⟩, 20), (⟨"RowFinderModel", "takesFound", "(I)Z"⟩, 20), (⟨"RowFinderModel", "inHeap", "(IZ)I"⟩, 20), (⟨"RowFinderModel", "those", "(II)I"⟩, 20), (⟨"RowFinderModel", "isLacking", "(I)Z"⟩, 20)]
theorem lw_r3 : ∀ q ∈ lw_privs_3, lw_okq q := List.forall_mem_cons.mpr ⟨lw_p32, List.forall_mem_cons.mpr ⟨lw_p33, List.forall_mem_cons.mpr ⟨lw_p34, List.forall_mem_cons.mpr ⟨lw_p35, List.forall_mem_cons.mpr ⟨lw_p36, fun _ h => absurd h List.not_mem_nil⟩⟩⟩⟩⟩
def lw_privs : List (MethodName × Nat) := lw_privs_1 ++ (lw_privs_2 ++ (lw_privs_3))
def lw_tbl : List Cond := k2_sels lw_privs ++ tables_1
theorem lw_privs_ok : ∀ q ∈ lw_privs, lw_okq q := by
  show ∀ q ∈ lw_privs_1 ++ (lw_privs_2 ++ (lw_privs_3)), lw_okq q
  exact List.forall_mem_append.mpr ⟨lw_r1, List.forall_mem_append.mpr ⟨lw_r2, lw_r3⟩⟩
end
section
/-! ===== BEGIN words of one list among another's, by their places ===== -/
theorem goodIn_r {big : List Cond} (ws : List Cond) (ps : List Nat) (hp : ws = ps.filterMap (fun i => big[i]?)) (h : ws.all goodWord = true) : GoodIn big ws := by
  intro w hw
  have h1 := List.all_eq_true.mp h w hw
  rw [hp] at hw
  obtain ⟨i, -, hi⟩ := List.mem_filterMap.mp hw
  have hm : w ∈ big := by first | exact List.mem_of_getElem? hi | exact List.getElem?_mem hi
  exact ⟨hm, good_of_word h1⟩
theorem goodIn_app {big a b : List Cond} (ha : GoodIn big a) (hb : GoodIn big b) : GoodIn big (a ++ b) := fun w h => (List.mem_append.mp h).elim (ha w) (hb w)
theorem goodIn_ca {big a b : List Cond} {c : Cond} (ha : GoodIn big (c :: a)) (hb : GoodIn big b) : GoodIn big (c :: (a ++ b)) := fun w h => (List.mem_cons.mp h).elim (fun e => ha w (List.mem_cons.mpr (Or.inl e))) (fun h => (List.mem_append.mp h).elim (fun h => ha w (List.mem_cons.mpr (Or.inr h))) (hb w))
theorem goodIn_sub {big ws : List Cond} (hm : ∀ w ∈ ws, w ∈ big) (h : ws.all goodWord = true) : GoodIn big ws := fun w hw => ⟨hm w hw, good_of_word (List.all_eq_true.mp h w hw)⟩
/-! ===== END ===== -/

/-! ===== BEGIN printed: names, fields, word lists, decode rows ===== -/
def RX0 : String := "RowFinder$Finds"
def TX0 : u_T := fun k => match k with
  | 0 => ("RowFinder$Finds", "patterns", "[I", true)
  | 1 => ("RowFinder$Finds", "rowsThen", "[I", true)
  | _ => ("RowFinder$Finds", "size", "I", false)
def tyX0 : Nat → FieldType := fun k => match k with
  | 0 => .array .int
  | 1 => .array .int
  | _ => .int
abbrev wsX00 : List Cond := u_ws RX0 TX0 3
theorem nmX0 : ∀ a, a < 3 → ∀ b, b < 3 → a ≠ b → (TX0 a).2.1 ≠ (TX0 b).2.1 := by decide +kernel
theorem tyX0_ok : ∀ k, k < 3 → parseFieldDescriptor (TX0 k).2.2.1 = some (tyX0 k) := by decide +kernel
abbrev cX0_init : ByteArray := prog_2_method_1_code
def yX0_init : MethodName := ⟨RX0, "<init>", "()V"⟩
abbrev cX0_forget : ByteArray := prog_2_method_2_code
def yX0_forget : MethodName := ⟨RX0, "forget", "()V"⟩
abbrev cX0_add : ByteArray := prog_2_method_3_code
def yX0_add : MethodName := ⟨RX0, "add", "(II)V"⟩
abbrev cX0_isFull : ByteArray := prog_2_method_4_code
def yX0_isFull : MethodName := ⟨RX0, "isFull", "()Z"⟩
abbrev cX0_holds : ByteArray := prog_2_method_5_code
def yX0_holds : MethodName := ⟨RX0, "holds", "(I)Z"⟩
abbrev cX0_size : ByteArray := prog_2_method_6_code
def yX0_size : MethodName := ⟨RX0, "size", "()I"⟩
abbrev cX0_patternAt : ByteArray := prog_2_method_7_code
def yX0_patternAt : MethodName := ⟨RX0, "patternAt", "(I)I"⟩
abbrev cX0_rowsThenAt : ByteArray := prog_2_method_8_code
def yX0_rowsThenAt : MethodName := ⟨RX0, "rowsThenAt", "(I)I"⟩
def RX1 : String := "RowFinder$Kinds"
def TX1 : u_T := fun k => match k with
  | 0 => ("RowFinder$Kinds", "wider", "[I", true)
  | _ => ("RowFinder$Kinds", "justOver", "[I", true)
def tyX1 : Nat → FieldType := fun k => match k with
  | 0 => .array .int
  | _ => .array .int
abbrev wsX10 : List Cond := u_ws RX1 TX1 2
theorem nmX1 : ∀ a, a < 2 → ∀ b, b < 2 → a ≠ b → (TX1 a).2.1 ≠ (TX1 b).2.1 := by decide +kernel
theorem tyX1_ok : ∀ k, k < 2 → parseFieldDescriptor (TX1 k).2.2.1 = some (tyX1 k) := by decide +kernel
abbrev cX1_init : ByteArray := prog_3_method_1_code
def yX1_init : MethodName := ⟨RX1, "<init>", "()V"⟩
abbrev cX1_lay : ByteArray := prog_3_method_2_code
def yX1_lay : MethodName := ⟨RX1, "lay", "(II)Z"⟩
abbrev cX1_climb : ByteArray := prog_3_method_3_code
def yX1_climb : MethodName := ⟨RX1, "climb", "(I)I"⟩
abbrev cX1_is : ByteArray := prog_3_method_4_code
def yX1_is : MethodName := ⟨RX1, "is", "(II)Z"⟩
abbrev cX1_liesJustUnder : ByteArray := prog_3_method_5_code
def yX1_liesJustUnder : MethodName := ⟨RX1, "liesJustUnder", "(II)Z"⟩
def RX2 : String := "RowFinder$Matcher"
def TX2 : u_T := fun k => match k with
  | 0 => ("RowFinder$Matcher", "gapTicks", "I", false)
  | 1 => ("RowFinder$Matcher", "spanTicks", "I", false)
  | 2 => ("RowFinder$Matcher", "kinds", "LRowFinder$Kinds;", true)
  | 3 => ("RowFinder$Matcher", "length", "I", false)
  | 4 => ("RowFinder$Matcher", "fits", "[I", true)
  | 5 => ("RowFinder$Matcher", "chainBegins", "[I", true)
  | 6 => ("RowFinder$Matcher", "chainEnds", "[I", true)
  | _ => ("RowFinder$Matcher", "places", "[I", true)
def tyX2 : Nat → FieldType := fun k => match k with
  | 0 => .int
  | 1 => .int
  | 2 => .object "RowFinder$Kinds"
  | 3 => .int
  | 4 => .array .int
  | 5 => .array .int
  | 6 => .array .int
  | _ => .array .int
abbrev wsX20 : List Cond := u_ws RX2 TX2 8
theorem nmX2 : ∀ a, a < 8 → ∀ b, b < 8 → a ≠ b → (TX2 a).2.1 ≠ (TX2 b).2.1 := by decide +kernel
theorem tyX2_ok : ∀ k, k < 8 → parseFieldDescriptor (TX2 k).2.2.1 = some (tyX2 k) := by decide +kernel
abbrev cX2_init : ByteArray := prog_4_method_1_code
def yX2_init : MethodName := ⟨RX2, "<init>", "(LRowFinder$Kinds;)V"⟩
abbrev cX2_takeUp : ByteArray := prog_4_method_2_code
def yX2_takeUp : MethodName := ⟨RX2, "takeUp", "(I)V"⟩
abbrev cX2_isIn : ByteArray := prog_4_method_3_code
def yX2_isIn : MethodName := ⟨RX2, "isIn", "(LRowFinder$Row;)Z"⟩
abbrev cX2_lastEnd : ByteArray := prog_4_method_4_code
def yX2_lastEnd : MethodName := ⟨RX2, "lastEnd", "(LRowFinder$Row;)I"⟩
abbrev cX2_kindsBehind : ByteArray := prog_4_method_5_code
def yX2_kindsBehind : MethodName := ⟨RX2, "kindsBehind", "(LRowFinder$Row;)I"⟩
abbrev cX2_loseChains : ByteArray := prog_4_method_6_code
def yX2_loseChains : MethodName := ⟨RX2, "loseChains", "()V"⟩
abbrev cX2_endsMatch : ByteArray := prog_4_method_7_code
def yX2_endsMatch : MethodName := ⟨RX2, "endsMatch", "(LRowFinder$Row;I)Z"⟩
abbrev cX2_canFollow : ByteArray := prog_4_method_8_code
def yX2_canFollow : MethodName := ⟨RX2, "canFollow", "(II)Z"⟩
abbrev cX2_matchesIn : ByteArray := prog_4_method_9_code
def yX2_matchesIn : MethodName := ⟨RX2, "matchesIn", "(LRowFinder$Row;)J"⟩
abbrev cX2_placeInFirst : ByteArray := prog_4_method_10_code
def yX2_placeInFirst : MethodName := ⟨RX2, "placeInFirst", "(LRowFinder$Row;I)I"⟩
abbrev cX2_goToFirstMatch : ByteArray := prog_4_method_11_code
def yX2_goToFirstMatch : MethodName := ⟨RX2, "goToFirstMatch", "(LRowFinder$Row;)Z"⟩
abbrev cX2_goToNextMatch : ByteArray := prog_4_method_12_code
def yX2_goToNextMatch : MethodName := ⟨RX2, "goToNextMatch", "(LRowFinder$Row;I)Z"⟩
abbrev cX2_nextPlace : ByteArray := prog_4_method_13_code
def yX2_nextPlace : MethodName := ⟨RX2, "nextPlace", "(LRowFinder$Row;I)I"⟩
abbrev cX2_canStandAt : ByteArray := prog_4_method_14_code
def yX2_canStandAt : MethodName := ⟨RX2, "canStandAt", "(LRowFinder$Row;II)Z"⟩
def RX3 : String := "RowFinder$Patterns"
def TX3 : u_T := fun k => match k with
  | _ => ("", "", "", false)
def tyX3 : Nat → FieldType := fun k => match k with
  | _ => .int
abbrev wsX30 : List Cond := u_ws RX3 TX3 0
theorem nmX3 : ∀ a, a < 0 → ∀ b, b < 0 → a ≠ b → (TX3 a).2.1 ≠ (TX3 b).2.1 := by decide +kernel
theorem tyX3_ok : ∀ k, k < 0 → parseFieldDescriptor (TX3 k).2.2.1 = some (tyX3 k) := by decide +kernel
abbrev cX3_of : ByteArray := prog_5_method_2_code
def yX3_of : MethodName := ⟨RX3, "of", "(IIII)I"⟩
abbrev cX3_isKindOrNone : ByteArray := prog_5_method_3_code
def yX3_isKindOrNone : MethodName := ⟨RX3, "isKindOrNone", "(I)Z"⟩
abbrev cX3_lengthen : ByteArray := prog_5_method_4_code
def yX3_lengthen : MethodName := ⟨RX3, "lengthen", "(II)I"⟩
abbrev cX3_length : ByteArray := prog_5_method_5_code
def yX3_length : MethodName := ⟨RX3, "length", "(I)I"⟩
abbrev cX3_item : ByteArray := prog_5_method_6_code
def yX3_item : MethodName := ⟨RX3, "item", "(II)I"⟩
abbrev cX3_lastItem : ByteArray := prog_5_method_7_code
def yX3_lastItem : MethodName := ⟨RX3, "lastItem", "(I)I"⟩
abbrev cX3_withoutLast : ByteArray := prog_5_method_8_code
def yX3_withoutLast : MethodName := ⟨RX3, "withoutLast", "(I)I"⟩
abbrev cX3_insert : ByteArray := prog_5_method_9_code
def yX3_insert : MethodName := ⟨RX3, "insert", "(III)I"⟩
abbrev cX3_replace : ByteArray := prog_5_method_10_code
def yX3_replace : MethodName := ⟨RX3, "replace", "(III)I"⟩
def RX4 : String := "RowFinder$Row"
def TX4 : u_T := fun k => match k with
  | 0 => ("RowFinder$Row", "heap", "I", false)
  | 1 => ("RowFinder$Row", "in", "Z", false)
  | 2 => ("RowFinder$Row", "ticks", "[I", true)
  | 3 => ("RowFinder$Row", "ownKinds", "[I", true)
  | _ => ("RowFinder$Row", "size", "I", false)
def tyX4 : Nat → FieldType := fun k => match k with
  | 0 => .int
  | 1 => .boolean
  | 2 => .array .int
  | 3 => .array .int
  | _ => .int
abbrev wsX40 : List Cond := u_ws RX4 TX4 5
theorem nmX4 : ∀ a, a < 5 → ∀ b, b < 5 → a ≠ b → (TX4 a).2.1 ≠ (TX4 b).2.1 := by decide +kernel
theorem tyX4_ok : ∀ k, k < 5 → parseFieldDescriptor (TX4 k).2.2.1 = some (tyX4 k) := by decide +kernel
abbrev cX4_init : ByteArray := prog_6_method_1_code
def yX4_init : MethodName := ⟨RX4, "<init>", "()V"⟩
abbrev cX4_begin : ByteArray := prog_6_method_2_code
def yX4_begin : MethodName := ⟨RX4, "begin", "(I)V"⟩
abbrev cX4_append : ByteArray := prog_6_method_3_code
def yX4_append : MethodName := ⟨RX4, "append", "(II)I"⟩
abbrev cX4_size : ByteArray := prog_6_method_4_code
def yX4_size : MethodName := ⟨RX4, "size", "()I"⟩
abbrev cX4_tickAt : ByteArray := prog_6_method_5_code
def yX4_tickAt : MethodName := ⟨RX4, "tickAt", "(I)I"⟩
abbrev cX4_kindAt : ByteArray := prog_6_method_6_code
def yX4_kindAt : MethodName := ⟨RX4, "kindAt", "(I)I"⟩
abbrev cX4_bitsAt : ByteArray := prog_6_method_7_code
def yX4_bitsAt : MethodName := ⟨RX4, "bitsAt", "(I[I)I"⟩
abbrev cX4_howMany : ByteArray := prog_6_method_8_code
def yX4_howMany : MethodName := ⟨RX4, "howMany", "(LRowFinder$Kinds;I)I"⟩
def RX5 : String := "RowFinder"
def TX5 : u_T := fun k => match k with
  | 0 => ("RowFinder", "kinds", "LRowFinder$Kinds;", true)
  | 1 => ("RowFinder", "matcher", "LRowFinder$Matcher;", true)
  | 2 => ("RowFinder", "finds", "LRowFinder$Finds;", true)
  | 3 => ("RowFinder", "rows", "[LRowFinder$Row;", true)
  | 4 => ("RowFinder", "rowsBehind", "[I", true)
  | _ => ("RowFinder", "rowCount", "I", false)
def tyX5 : Nat → FieldType := fun k => match k with
  | 0 => .object "RowFinder$Kinds"
  | 1 => .object "RowFinder$Matcher"
  | 2 => .object "RowFinder$Finds"
  | 3 => .array (.object "RowFinder$Row")
  | 4 => .array .int
  | _ => .int
abbrev wsX50 : List Cond := u_ws RX5 TX5 6
theorem nmX5 : ∀ a, a < 6 → ∀ b, b < 6 → a ≠ b → (TX5 a).2.1 ≠ (TX5 b).2.1 := by decide +kernel
theorem tyX5_ok : ∀ k, k < 6 → parseFieldDescriptor (TX5 k).2.2.1 = some (tyX5 k) := by decide +kernel
abbrev cX5_init : ByteArray := prog_1_method_1_code
def yX5_init : MethodName := ⟨RX5, "<init>", "()V"⟩
abbrev cX5_under : ByteArray := prog_1_method_2_code
def yX5_under : MethodName := ⟨RX5, "under", "(II)Z"⟩
abbrev cX5_row : ByteArray := prog_1_method_3_code
def yX5_row : MethodName := ⟨RX5, "row", "(I)I"⟩
abbrev cX5_put : ByteArray := prog_1_method_4_code
def yX5_put : MethodName := ⟨RX5, "put", "(III)I"⟩
abbrev cX5_take : ByteArray := prog_1_method_5_code
def yX5_take : MethodName := ⟨RX5, "take", "(IZ)Z"⟩
abbrev cX5_gap : ByteArray := prog_1_method_6_code
def yX5_gap : MethodName := ⟨RX5, "gap", "(I)Z"⟩
abbrev cX5_span : ByteArray := prog_1_method_7_code
def yX5_span : MethodName := ⟨RX5, "span", "(I)Z"⟩
abbrev cX5_count : ByteArray := prog_1_method_8_code
def yX5_count : MethodName := ⟨RX5, "count", "(IIII)I"⟩
abbrev cX5_matches : ByteArray := prog_1_method_9_code
def yX5_matches : MethodName := ⟨RX5, "matches", "(IIIII)J"⟩
abbrev cX5_match : ByteArray := prog_1_method_10_code
def yX5_match : MethodName := ⟨RX5, "match", "(IIIIII)I"⟩
abbrev cX5_find : ByteArray := prog_1_method_11_code
def yX5_find : MethodName := ⟨RX5, "find", "(II)I"⟩
abbrev cX5_found : ByteArray := prog_1_method_12_code
def yX5_found : MethodName := ⟨RX5, "found", "(II)I"⟩
abbrev cX5_closed : ByteArray := prog_1_method_13_code
def yX5_closed : MethodName := ⟨RX5, "closed", "(I)I"⟩
abbrev cX5_best : ByteArray := prog_1_method_14_code
def yX5_best : MethodName := ⟨RX5, "best", "()I"⟩
abbrev cX5_expected : ByteArray := prog_1_method_15_code
def yX5_expected : MethodName := ⟨RX5, "expected", "(II)J"⟩
abbrev cX5_share : ByteArray := prog_1_method_16_code
def yX5_share : MethodName := ⟨RX5, "share", "(IIII)I"⟩
abbrev cX5_lacking : ByteArray := prog_1_method_17_code
def yX5_lacking : MethodName := ⟨RX5, "lacking", "(IIIII)I"⟩
abbrev cX5_sure : ByteArray := prog_1_method_18_code
def yX5_sure : MethodName := ⟨RX5, "sure", "(IIIII)I"⟩
abbrev cX5_look : ByteArray := prog_1_method_19_code
def yX5_look : MethodName := ⟨RX5, "look", "(III)I"⟩
abbrev cX5_isUnder : ByteArray := prog_1_method_20_code
def yX5_isUnder : MethodName := ⟨RX5, "isUnder", "(II)I"⟩
abbrev cX5_tell : ByteArray := prog_1_method_21_code
def yX5_tell : MethodName := ⟨RX5, "tell", "(I)I"⟩
abbrev cX5_isKind : ByteArray := prog_1_method_22_code
def yX5_isKind : MethodName := ⟨RX5, "isKind", "(I)Z"⟩
abbrev cX5_isTick : ByteArray := prog_1_method_23_code
def yX5_isTick : MethodName := ⟨RX5, "isTick", "(I)Z"⟩
abbrev cX5_isAmong : ByteArray := prog_1_method_24_code
def yX5_isAmong : MethodName := ⟨RX5, "isAmong", "(II)Z"⟩
abbrev cX5_isRow : ByteArray := prog_1_method_25_code
def yX5_isRow : MethodName := ⟨RX5, "isRow", "(I)Z"⟩
abbrev cX5_lookAtRow : ByteArray := prog_1_method_26_code
def yX5_lookAtRow : MethodName := ⟨RX5, "lookAtRow", "(LRowFinder$Row;I)I"⟩
abbrev cX5_happeningsInAll : ByteArray := prog_1_method_27_code
def yX5_happeningsInAll : MethodName := ⟨RX5, "happeningsInAll", "()I"⟩
abbrev cX5_rowsInOf : ByteArray := prog_1_method_28_code
def yX5_rowsInOf : MethodName := ⟨RX5, "rowsInOf", "(I)I"⟩
abbrev cX5_rowsIn : ByteArray := prog_1_method_29_code
def yX5_rowsIn : MethodName := ⟨RX5, "rowsIn", "()I"⟩
abbrev cX5_rowsWith : ByteArray := prog_1_method_30_code
def yX5_rowsWith : MethodName := ⟨RX5, "rowsWith", "(I)I"⟩
abbrev cX5_countOf : ByteArray := prog_1_method_31_code
def yX5_countOf : MethodName := ⟨RX5, "countOf", "(I)I"⟩
abbrev cX5_rowsLacking : ByteArray := prog_1_method_32_code
def yX5_rowsLacking : MethodName := ⟨RX5, "rowsLacking", "(I)I"⟩
abbrev cX5_gatherRowsBehind : ByteArray := prog_1_method_33_code
def yX5_gatherRowsBehind : MethodName := ⟨RX5, "gatherRowsBehind", "(II)V"⟩
abbrev cX5_findLonger : ByteArray := prog_1_method_34_code
def yX5_findLonger : MethodName := ⟨RX5, "findLonger", "(III)V"⟩
abbrev cX5_longerSays : ByteArray := prog_1_method_35_code
def yX5_longerSays : MethodName := ⟨RX5, "longerSays", "(II)Z"⟩
abbrev cX5_narrowerSays : ByteArray := prog_1_method_36_code
def yX5_narrowerSays : MethodName := ⟨RX5, "narrowerSays", "(II)Z"⟩
abbrev cX5_howFarApart : ByteArray := prog_1_method_37_code
def yX5_howFarApart : MethodName := ⟨RX5, "howFarApart", "(III)I"⟩
abbrev cX5_chanceAhead : ByteArray := prog_1_method_38_code
def yX5_chanceAhead : MethodName := ⟨RX5, "chanceAhead", "(II)J"⟩
abbrev cX5_waysToChoose : ByteArray := prog_1_method_39_code
def yX5_waysToChoose : MethodName := ⟨RX5, "waysToChoose", "(II)J"⟩
def RX6 : String := "RowFinderModel"
def TX6 : u_T := fun k => match k with
  | 0 => ("RowFinderModel", "rows", "I", false)
  | 1 => ("RowFinderModel", "happenings", "I", false)
  | 2 => ("RowFinderModel", "gap", "I", false)
  | 3 => ("RowFinderModel", "span", "I", false)
  | 4 => ("RowFinderModel", "over", "[I", true)
  | 5 => ("RowFinderModel", "heap", "[I", true)
  | 6 => ("RowFinderModel", "isOut", "[Z", true)
  | 7 => ("RowFinderModel", "many", "[I", true)
  | 8 => ("RowFinderModel", "tick", "[I", true)
  | 9 => ("RowFinderModel", "kind", "[I", true)
  | 10 => ("RowFinderModel", "found", "I", false)
  | 11 => ("RowFinderModel", "items", "[I", true)
  | 12 => ("RowFinderModel", "counts", "[I", true)
  | 13 => ("RowFinderModel", "sizes", "[I", true)
  | 14 => ("RowFinderModel", "size", "I", false)
  | 15 => ("RowFinderModel", "item", "[I", true)
  | 16 => ("RowFinderModel", "where", "[I", true)
  | 17 => ("RowFinderModel", "reach", "[I", true)
  | 18 => ("RowFinderModel", "wide", "[I", true)
  | _ => ("RowFinderModel", "place", "[I", true)
def tyX6 : Nat → FieldType := fun k => match k with
  | 0 => .int
  | 1 => .int
  | 2 => .int
  | 3 => .int
  | 4 => .array .int
  | 5 => .array .int
  | 6 => .array .boolean
  | 7 => .array .int
  | 8 => .array .int
  | 9 => .array .int
  | 10 => .int
  | 11 => .array .int
  | 12 => .array .int
  | 13 => .array .int
  | 14 => .int
  | 15 => .array .int
  | 16 => .array .int
  | 17 => .array .int
  | 18 => .array .int
  | _ => .array .int
abbrev wsX60 : List Cond := u_ws RX6 TX6 20
theorem nmX6 : ∀ a, a < 20 → ∀ b, b < 20 → a ≠ b → (TX6 a).2.1 ≠ (TX6 b).2.1 := by decide +kernel
theorem tyX6_ok : ∀ k, k < 20 → parseFieldDescriptor (TX6 k).2.2.1 = some (tyX6 k) := by decide +kernel
abbrev cX6_init : ByteArray := prog_8_method_1_code
def yX6_init : MethodName := ⟨RX6, "<init>", "()V"⟩
abbrev cX6_lies : ByteArray := prog_8_method_2_code
def yX6_lies : MethodName := ⟨RX6, "lies", "(III)Z"⟩
abbrev cX6_isKind : ByteArray := prog_8_method_3_code
def yX6_isKind : MethodName := ⟨RX6, "isKind", "(I)Z"⟩
abbrev cX6_isRow : ByteArray := prog_8_method_4_code
def yX6_isRow : MethodName := ⟨RX6, "isRow", "(I)Z"⟩
abbrev cX6_isOf : ByteArray := prog_8_method_5_code
def yX6_isOf : MethodName := ⟨RX6, "isOf", "(II)Z"⟩
abbrev cX6_under : ByteArray := prog_8_method_6_code
def yX6_under : MethodName := ⟨RX6, "under", "(II)Z"⟩
abbrev cX6_isUnder : ByteArray := prog_8_method_7_code
def yX6_isUnder : MethodName := ⟨RX6, "isUnder", "(II)I"⟩
abbrev cX6_row : ByteArray := prog_8_method_8_code
def yX6_row : MethodName := ⟨RX6, "row", "(I)I"⟩
abbrev cX6_put : ByteArray := prog_8_method_9_code
def yX6_put : MethodName := ⟨RX6, "put", "(III)I"⟩
abbrev cX6_take : ByteArray := prog_8_method_10_code
def yX6_take : MethodName := ⟨RX6, "take", "(IZ)Z"⟩
abbrev cX6_gap : ByteArray := prog_8_method_11_code
def yX6_gap : MethodName := ⟨RX6, "gap", "(I)Z"⟩
abbrev cX6_span : ByteArray := prog_8_method_12_code
def yX6_span : MethodName := ⟨RX6, "span", "(I)Z"⟩
abbrev cX6_takes : ByteArray := prog_8_method_13_code
def yX6_takes : MethodName := ⟨RX6, "takes", "(IIII)Z"⟩
abbrev cX6_isAt : ByteArray := prog_8_method_14_code
def yX6_isAt : MethodName := ⟨RX6, "isAt", "(III)Z"⟩
abbrev cX6_leads : ByteArray := prog_8_method_15_code
def yX6_leads : MethodName := ⟨RX6, "leads", "(III)Z"⟩
abbrev cX6_spans : ByteArray := prog_8_method_16_code
def yX6_spans : MethodName := ⟨RX6, "spans", "(III)Z"⟩
abbrev cX6_maps : ByteArray := prog_8_method_17_code
def yX6_maps : MethodName := ⟨RX6, "maps", "(I)V"⟩
abbrev cX6_mapsAll : ByteArray := prog_8_method_18_code
def yX6_mapsAll : MethodName := ⟨RX6, "mapsAll", "()V"⟩
abbrev cX6_ends : ByteArray := prog_8_method_19_code
def yX6_ends : MethodName := ⟨RX6, "ends", "(III)I"⟩
abbrev cX6_has : ByteArray := prog_8_method_20_code
def yX6_has : MethodName := ⟨RX6, "has", "(II)Z"⟩
abbrev cX6_countOf : ByteArray := prog_8_method_21_code
def yX6_countOf : MethodName := ⟨RX6, "countOf", "(I)I"⟩
abbrev cX6_count : ByteArray := prog_8_method_22_code
def yX6_count : MethodName := ⟨RX6, "count", "(IIII)I"⟩
abbrev cX6_next : ByteArray := prog_8_method_23_code
def yX6_next : MethodName := ⟨RX6, "next", "(IZ)Z"⟩
abbrev cX6_matches : ByteArray := prog_8_method_24_code
def yX6_matches : MethodName := ⟨RX6, "matches", "(IIIII)J"⟩
abbrev cX6_match : ByteArray := prog_8_method_25_code
def yX6_match : MethodName := ⟨RX6, "match", "(IIIIII)I"⟩
abbrev cX6_isThere : ByteArray := prog_8_method_26_code
def yX6_isThere : MethodName := ⟨RX6, "isThere", "(I)Z"⟩
abbrev cX6_keeps : ByteArray := prog_8_method_27_code
def yX6_keeps : MethodName := ⟨RX6, "keeps", "(II)V"⟩
abbrev cX6_find : ByteArray := prog_8_method_28_code
def yX6_find : MethodName := ⟨RX6, "find", "(II)I"⟩
abbrev cX6_found : ByteArray := prog_8_method_29_code
def yX6_found : MethodName := ⟨RX6, "found", "(II)I"⟩
abbrev cX6_takesFound : ByteArray := prog_8_method_30_code
def yX6_takesFound : MethodName := ⟨RX6, "takesFound", "(I)Z"⟩
abbrev cX6_closed : ByteArray := prog_8_method_31_code
def yX6_closed : MethodName := ⟨RX6, "closed", "(I)I"⟩
abbrev cX6_inHeap : ByteArray := prog_8_method_32_code
def yX6_inHeap : MethodName := ⟨RX6, "inHeap", "(IZ)I"⟩
abbrev cX6_best : ByteArray := prog_8_method_33_code
def yX6_best : MethodName := ⟨RX6, "best", "()I"⟩
abbrev cX6_those : ByteArray := prog_8_method_34_code
def yX6_those : MethodName := ⟨RX6, "those", "(II)I"⟩
abbrev cX6_ways : ByteArray := prog_8_method_35_code
def yX6_ways : MethodName := ⟨RX6, "ways", "(II)J"⟩
abbrev cX6_expected : ByteArray := prog_8_method_36_code
def yX6_expected : MethodName := ⟨RX6, "expected", "(II)J"⟩
abbrev cX6_share : ByteArray := prog_8_method_37_code
def yX6_share : MethodName := ⟨RX6, "share", "(IIII)I"⟩
abbrev cX6_isLacking : ByteArray := prog_8_method_38_code
def yX6_isLacking : MethodName := ⟨RX6, "isLacking", "(I)Z"⟩
abbrev cX6_lacking : ByteArray := prog_8_method_39_code
def yX6_lacking : MethodName := ⟨RX6, "lacking", "(IIIII)I"⟩
abbrev cX6_sure : ByteArray := prog_8_method_40_code
def yX6_sure : MethodName := ⟨RX6, "sure", "(IIIII)I"⟩
abbrev cX6_look : ByteArray := prog_8_method_41_code
def yX6_look : MethodName := ⟨RX6, "look", "(III)I"⟩
abbrev cX6_tell : ByteArray := prog_8_method_42_code
def yX6_tell : MethodName := ⟨RX6, "tell", "(I)I"⟩
def RJ6 : String := "java/lang/Integer"
def TJ6 : u_T := fun k => match k with
  | _ => ("", "", "", false)
def tyJ6 : Nat → FieldType := fun k => match k with
  | _ => .int
abbrev wsJ60 : List Cond := u_ws RJ6 TJ6 0
theorem nmJ6 : ∀ a, a < 0 → ∀ b, b < 0 → a ≠ b → (TJ6 a).2.1 ≠ (TJ6 b).2.1 := by decide +kernel
theorem tyJ6_ok : ∀ k, k < 0 → parseFieldDescriptor (TJ6 k).2.2.1 = some (tyJ6 k) := by decide +kernel
abbrev cJ6_bitCount_0f7a4 : ByteArray := prog_9_method_49_code
def yJ6_bitCount_0f7a4 : MethodName := ⟨RJ6, "bitCount", "(I)I"⟩
def RJ9 : String := "java/lang/Math"
def TJ9 : u_T := fun k => match k with
  | _ => ("", "", "", false)
def tyJ9 : Nat → FieldType := fun k => match k with
  | _ => .int
abbrev wsJ90 : List Cond := u_ws RJ9 TJ9 0
theorem nmJ9 : ∀ a, a < 0 → ∀ b, b < 0 → a ≠ b → (TJ9 a).2.1 ≠ (TJ9 b).2.1 := by decide +kernel
theorem tyJ9_ok : ∀ k, k < 0 → parseFieldDescriptor (TJ9 k).2.2.1 = some (tyJ9 k) := by decide +kernel
abbrev cJ9_abs_0f7a4 : ByteArray := prog_10_method_59_code
def yJ9_abs_0f7a4 : MethodName := ⟨RJ9, "abs", "(I)I"⟩
abbrev cJ9_min_7cf53 : ByteArray := prog_10_method_69_code
def yJ9_min_7cf53 : MethodName := ⟨RJ9, "min", "(II)I"⟩
def RL : String := "RowFinderLaw"
abbrev cL_law : ByteArray := code
def yL_law : MethodName := ⟨RL, "law", "([I)Z"⟩
end
section
theorem dX0_init_0 : decode cX0_init 0 = .ok (.aload_n 0, 1) := by decide +kernel
theorem dX0_init_1 : decode cX0_init 1 = .ok (.invokespecial 3, 3) := by decide +kernel
theorem dX0_init_4 : decode cX0_init 4 = .ok (.aload_n 0, 1) := by decide +kernel
theorem dX0_init_5 : decode cX0_init 5 = .ok (.sipush 2000, 3) := by decide +kernel
theorem dX0_init_8 : decode cX0_init 8 = .ok (.newarray .int, 2) := by decide +kernel
theorem dX0_init_10 : decode cX0_init 10 = .ok (.putfield 9, 3) := by decide +kernel
theorem dX0_init_13 : decode cX0_init 13 = .ok (.aload_n 0, 1) := by decide +kernel
theorem dX0_init_14 : decode cX0_init 14 = .ok (.sipush 2000, 3) := by decide +kernel
theorem dX0_init_17 : decode cX0_init 17 = .ok (.newarray .int, 2) := by decide +kernel
theorem dX0_init_19 : decode cX0_init 19 = .ok (.putfield 15, 3) := by decide +kernel
theorem dX0_init_22 : decode cX0_init 22 = .ok (.aload_n 0, 1) := by decide +kernel
theorem dX0_init_23 : decode cX0_init 23 = .ok (.iconst 0, 1) := by decide +kernel
theorem dX0_init_24 : decode cX0_init 24 = .ok (.putfield 18, 3) := by decide +kernel
theorem dX0_init_27 : decode cX0_init 27 = .ok (.return_, 1) := by decide +kernel
theorem dX0_forget_0 : decode cX0_forget 0 = .ok (.aload_n 0, 1) := by decide +kernel
theorem dX0_forget_1 : decode cX0_forget 1 = .ok (.iconst 0, 1) := by decide +kernel
theorem dX0_forget_2 : decode cX0_forget 2 = .ok (.putfield 18, 3) := by decide +kernel
theorem dX0_forget_5 : decode cX0_forget 5 = .ok (.return_, 1) := by decide +kernel
theorem dX0_add_0 : decode cX0_add 0 = .ok (.aload_n 0, 1) := by decide +kernel
theorem dX0_add_1 : decode cX0_add 1 = .ok (.getfield 18, 3) := by decide +kernel
theorem dX0_add_4 : decode cX0_add 4 = .ok (.sipush 2000, 3) := by decide +kernel
theorem dX0_add_7 : decode cX0_add 7 = .ok (.if_icmp .ge 33, 3) := by decide +kernel
theorem dX0_add_10 : decode cX0_add 10 = .ok (.aload_n 0, 1) := by decide +kernel
theorem dX0_add_11 : decode cX0_add 11 = .ok (.getfield 9, 3) := by decide +kernel
theorem dX0_add_14 : decode cX0_add 14 = .ok (.aload_n 0, 1) := by decide +kernel
theorem dX0_add_15 : decode cX0_add 15 = .ok (.getfield 18, 3) := by decide +kernel
theorem dX0_add_18 : decode cX0_add 18 = .ok (.iload_n 1, 1) := by decide +kernel
theorem dX0_add_19 : decode cX0_add 19 = .ok (.iastore, 1) := by decide +kernel
theorem dX0_add_20 : decode cX0_add 20 = .ok (.aload_n 0, 1) := by decide +kernel
theorem dX0_add_21 : decode cX0_add 21 = .ok (.getfield 15, 3) := by decide +kernel
theorem dX0_add_24 : decode cX0_add 24 = .ok (.aload_n 0, 1) := by decide +kernel
theorem dX0_add_25 : decode cX0_add 25 = .ok (.getfield 18, 3) := by decide +kernel
theorem dX0_add_28 : decode cX0_add 28 = .ok (.iload_n 2, 1) := by decide +kernel
theorem dX0_add_29 : decode cX0_add 29 = .ok (.iastore, 1) := by decide +kernel
theorem dX0_add_30 : decode cX0_add 30 = .ok (.aload_n 0, 1) := by decide +kernel
theorem dX0_add_31 : decode cX0_add 31 = .ok (.dup, 1) := by decide +kernel
theorem dX0_add_32 : decode cX0_add 32 = .ok (.getfield 18, 3) := by decide +kernel
theorem dX0_add_35 : decode cX0_add 35 = .ok (.iconst 1, 1) := by decide +kernel
theorem dX0_add_36 : decode cX0_add 36 = .ok (.iadd, 1) := by decide +kernel
theorem dX0_add_37 : decode cX0_add 37 = .ok (.putfield 18, 3) := by decide +kernel
theorem dX0_add_40 : decode cX0_add 40 = .ok (.return_, 1) := by decide +kernel
theorem dX0_isFull_0 : decode cX0_isFull 0 = .ok (.aload_n 0, 1) := by decide +kernel
theorem dX0_isFull_1 : decode cX0_isFull 1 = .ok (.getfield 18, 3) := by decide +kernel
theorem dX0_isFull_4 : decode cX0_isFull 4 = .ok (.sipush 2000, 3) := by decide +kernel
theorem dX0_isFull_7 : decode cX0_isFull 7 = .ok (.if_icmp .lt 7, 3) := by decide +kernel
theorem dX0_isFull_10 : decode cX0_isFull 10 = .ok (.iconst 1, 1) := by decide +kernel
theorem dX0_isFull_11 : decode cX0_isFull 11 = .ok (.goto 4, 3) := by decide +kernel
theorem dX0_isFull_14 : decode cX0_isFull 14 = .ok (.iconst 0, 1) := by decide +kernel
theorem dX0_isFull_15 : decode cX0_isFull 15 = .ok (.ireturn, 1) := by decide +kernel
theorem dX0_holds_0 : decode cX0_holds 0 = .ok (.iload_n 1, 1) := by decide +kernel
theorem dX0_holds_1 : decode cX0_holds 1 = .ok (.ifCond .lt 15, 3) := by decide +kernel
theorem dX0_holds_4 : decode cX0_holds 4 = .ok (.iload_n 1, 1) := by decide +kernel
theorem dX0_holds_5 : decode cX0_holds 5 = .ok (.aload_n 0, 1) := by decide +kernel
theorem dX0_holds_6 : decode cX0_holds 6 = .ok (.getfield 18, 3) := by decide +kernel
theorem dX0_holds_9 : decode cX0_holds 9 = .ok (.if_icmp .ge 7, 3) := by decide +kernel
theorem dX0_holds_12 : decode cX0_holds 12 = .ok (.iconst 1, 1) := by decide +kernel
theorem dX0_holds_13 : decode cX0_holds 13 = .ok (.goto 4, 3) := by decide +kernel
theorem dX0_holds_16 : decode cX0_holds 16 = .ok (.iconst 0, 1) := by decide +kernel
theorem dX0_holds_17 : decode cX0_holds 17 = .ok (.ireturn, 1) := by decide +kernel
theorem dX0_size_0 : decode cX0_size 0 = .ok (.aload_n 0, 1) := by decide +kernel
theorem dX0_size_1 : decode cX0_size 1 = .ok (.getfield 18, 3) := by decide +kernel
theorem dX0_size_4 : decode cX0_size 4 = .ok (.ireturn, 1) := by decide +kernel
theorem dX0_patternAt_0 : decode cX0_patternAt 0 = .ok (.aload_n 0, 1) := by decide +kernel
theorem dX0_patternAt_1 : decode cX0_patternAt 1 = .ok (.iload_n 1, 1) := by decide +kernel
theorem dX0_patternAt_2 : decode cX0_patternAt 2 = .ok (.invokevirtual 22, 3) := by decide +kernel
theorem dX0_patternAt_5 : decode cX0_patternAt 5 = .ok (.ifCond .eq 12, 3) := by decide +kernel
theorem dX0_patternAt_8 : decode cX0_patternAt 8 = .ok (.aload_n 0, 1) := by decide +kernel
theorem dX0_patternAt_9 : decode cX0_patternAt 9 = .ok (.getfield 9, 3) := by decide +kernel
theorem dX0_patternAt_12 : decode cX0_patternAt 12 = .ok (.iload_n 1, 1) := by decide +kernel
theorem dX0_patternAt_13 : decode cX0_patternAt 13 = .ok (.iaload, 1) := by decide +kernel
theorem dX0_patternAt_14 : decode cX0_patternAt 14 = .ok (.goto 4, 3) := by decide +kernel
theorem dX0_patternAt_17 : decode cX0_patternAt 17 = .ok (.iconst (-1), 1) := by decide +kernel
theorem dX0_patternAt_18 : decode cX0_patternAt 18 = .ok (.ireturn, 1) := by decide +kernel
theorem dX0_rowsThenAt_0 : decode cX0_rowsThenAt 0 = .ok (.aload_n 0, 1) := by decide +kernel
theorem dX0_rowsThenAt_1 : decode cX0_rowsThenAt 1 = .ok (.iload_n 1, 1) := by decide +kernel
theorem dX0_rowsThenAt_2 : decode cX0_rowsThenAt 2 = .ok (.invokevirtual 22, 3) := by decide +kernel
theorem dX0_rowsThenAt_5 : decode cX0_rowsThenAt 5 = .ok (.ifCond .eq 12, 3) := by decide +kernel
theorem dX0_rowsThenAt_8 : decode cX0_rowsThenAt 8 = .ok (.aload_n 0, 1) := by decide +kernel
theorem dX0_rowsThenAt_9 : decode cX0_rowsThenAt 9 = .ok (.getfield 15, 3) := by decide +kernel
theorem dX0_rowsThenAt_12 : decode cX0_rowsThenAt 12 = .ok (.iload_n 1, 1) := by decide +kernel
theorem dX0_rowsThenAt_13 : decode cX0_rowsThenAt 13 = .ok (.iaload, 1) := by decide +kernel
theorem dX0_rowsThenAt_14 : decode cX0_rowsThenAt 14 = .ok (.goto 4, 3) := by decide +kernel
theorem dX0_rowsThenAt_17 : decode cX0_rowsThenAt 17 = .ok (.iconst 0, 1) := by decide +kernel
theorem dX0_rowsThenAt_18 : decode cX0_rowsThenAt 18 = .ok (.ireturn, 1) := by decide +kernel
theorem dX1_init_0 : decode cX1_init 0 = .ok (.aload_n 0, 1) := by decide +kernel
theorem dX1_init_1 : decode cX1_init 1 = .ok (.invokespecial 3, 3) := by decide +kernel
theorem dX1_init_4 : decode cX1_init 4 = .ok (.aload_n 0, 1) := by decide +kernel
theorem dX1_init_5 : decode cX1_init 5 = .ok (.bipush 16, 2) := by decide +kernel
theorem dX1_init_7 : decode cX1_init 7 = .ok (.newarray .int, 2) := by decide +kernel
theorem dX1_init_9 : decode cX1_init 9 = .ok (.putfield 9, 3) := by decide +kernel
theorem dX1_init_12 : decode cX1_init 12 = .ok (.aload_n 0, 1) := by decide +kernel
theorem dX1_init_13 : decode cX1_init 13 = .ok (.bipush 16, 2) := by decide +kernel
theorem dX1_init_15 : decode cX1_init 15 = .ok (.newarray .int, 2) := by decide +kernel
theorem dX1_init_17 : decode cX1_init 17 = .ok (.putfield 15, 3) := by decide +kernel
theorem dX1_init_20 : decode cX1_init 20 = .ok (.iconst 0, 1) := by decide +kernel
theorem dX1_init_21 : decode cX1_init 21 = .ok (.istore_n 1, 1) := by decide +kernel
theorem dX1_init_22 : decode cX1_init 22 = .ok (.iload_n 1, 1) := by decide +kernel
theorem dX1_init_23 : decode cX1_init 23 = .ok (.bipush 16, 2) := by decide +kernel
theorem dX1_init_25 : decode cX1_init 25 = .ok (.if_icmp .ge 25, 3) := by decide +kernel
theorem dX1_init_28 : decode cX1_init 28 = .ok (.aload_n 0, 1) := by decide +kernel
theorem dX1_init_29 : decode cX1_init 29 = .ok (.getfield 9, 3) := by decide +kernel
theorem dX1_init_32 : decode cX1_init 32 = .ok (.iload_n 1, 1) := by decide +kernel
theorem dX1_init_33 : decode cX1_init 33 = .ok (.iconst (-1), 1) := by decide +kernel
theorem dX1_init_34 : decode cX1_init 34 = .ok (.iastore, 1) := by decide +kernel
theorem dX1_init_35 : decode cX1_init 35 = .ok (.aload_n 0, 1) := by decide +kernel
theorem dX1_init_36 : decode cX1_init 36 = .ok (.getfield 15, 3) := by decide +kernel
theorem dX1_init_39 : decode cX1_init 39 = .ok (.iload_n 1, 1) := by decide +kernel
theorem dX1_init_40 : decode cX1_init 40 = .ok (.iconst 1, 1) := by decide +kernel
theorem dX1_init_41 : decode cX1_init 41 = .ok (.iload_n 1, 1) := by decide +kernel
theorem dX1_init_42 : decode cX1_init 42 = .ok (.ishl, 1) := by decide +kernel
theorem dX1_init_43 : decode cX1_init 43 = .ok (.iastore, 1) := by decide +kernel
theorem dX1_init_44 : decode cX1_init 44 = .ok (.iinc 1 1, 3) := by decide +kernel
theorem dX1_init_47 : decode cX1_init 47 = .ok (.goto (-25), 3) := by decide +kernel
theorem dX1_init_50 : decode cX1_init 50 = .ok (.return_, 1) := by decide +kernel
theorem dX1_lay_0 : decode cX1_lay 0 = .ok (.iload_n 2, 1) := by decide +kernel
theorem dX1_lay_1 : decode cX1_lay 1 = .ok (.iconst (-1), 1) := by decide +kernel
theorem dX1_lay_2 : decode cX1_lay 2 = .ok (.if_icmp .eq 14, 3) := by decide +kernel
theorem dX1_lay_5 : decode cX1_lay 5 = .ok (.aload_n 0, 1) := by decide +kernel
theorem dX1_lay_6 : decode cX1_lay 6 = .ok (.iload_n 2, 1) := by decide +kernel
theorem dX1_lay_7 : decode cX1_lay 7 = .ok (.iload_n 1, 1) := by decide +kernel
theorem dX1_lay_8 : decode cX1_lay 8 = .ok (.invokevirtual 18, 3) := by decide +kernel
theorem dX1_lay_11 : decode cX1_lay 11 = .ok (.ifCond .eq 5, 3) := by decide +kernel
theorem dX1_lay_14 : decode cX1_lay 14 = .ok (.iconst 0, 1) := by decide +kernel
theorem dX1_lay_15 : decode cX1_lay 15 = .ok (.ireturn, 1) := by decide +kernel
theorem dX1_lay_16 : decode cX1_lay 16 = .ok (.aload_n 0, 1) := by decide +kernel
theorem dX1_lay_17 : decode cX1_lay 17 = .ok (.getfield 9, 3) := by decide +kernel
theorem dX1_lay_20 : decode cX1_lay 20 = .ok (.iload_n 1, 1) := by decide +kernel
theorem dX1_lay_21 : decode cX1_lay 21 = .ok (.iload_n 2, 1) := by decide +kernel
theorem dX1_lay_22 : decode cX1_lay 22 = .ok (.iastore, 1) := by decide +kernel
theorem dX1_lay_23 : decode cX1_lay 23 = .ok (.iconst 0, 1) := by decide +kernel
theorem dX1_lay_24 : decode cX1_lay 24 = .ok (.istore_n 3, 1) := by decide +kernel
theorem dX1_lay_25 : decode cX1_lay 25 = .ok (.iload_n 3, 1) := by decide +kernel
theorem dX1_lay_26 : decode cX1_lay 26 = .ok (.bipush 16, 2) := by decide +kernel
theorem dX1_lay_28 : decode cX1_lay 28 = .ok (.if_icmp .ge 20, 3) := by decide +kernel
theorem dX1_lay_31 : decode cX1_lay 31 = .ok (.aload_n 0, 1) := by decide +kernel
theorem dX1_lay_32 : decode cX1_lay 32 = .ok (.getfield 15, 3) := by decide +kernel
theorem dX1_lay_35 : decode cX1_lay 35 = .ok (.iload_n 3, 1) := by decide +kernel
theorem dX1_lay_36 : decode cX1_lay 36 = .ok (.aload_n 0, 1) := by decide +kernel
theorem dX1_lay_37 : decode cX1_lay 37 = .ok (.iload_n 3, 1) := by decide +kernel
theorem dX1_lay_38 : decode cX1_lay 38 = .ok (.invokevirtual 22, 3) := by decide +kernel
theorem dX1_lay_41 : decode cX1_lay 41 = .ok (.iastore, 1) := by decide +kernel
theorem dX1_lay_42 : decode cX1_lay 42 = .ok (.iinc 3 1, 3) := by decide +kernel
theorem dX1_lay_45 : decode cX1_lay 45 = .ok (.goto (-20), 3) := by decide +kernel
theorem dX1_lay_48 : decode cX1_lay 48 = .ok (.iconst 1, 1) := by decide +kernel
theorem dX1_lay_49 : decode cX1_lay 49 = .ok (.ireturn, 1) := by decide +kernel
theorem dX1_climb_0 : decode cX1_climb 0 = .ok (.iconst 0, 1) := by decide +kernel
theorem dX1_climb_1 : decode cX1_climb 1 = .ok (.istore_n 2, 1) := by decide +kernel
theorem dX1_climb_2 : decode cX1_climb 2 = .ok (.iload_n 1, 1) := by decide +kernel
theorem dX1_climb_3 : decode cX1_climb 3 = .ok (.istore_n 3, 1) := by decide +kernel
theorem dX1_climb_4 : decode cX1_climb 4 = .ok (.iconst 0, 1) := by decide +kernel
theorem dX1_climb_5 : decode cX1_climb 5 = .ok (.istore 4, 2) := by decide +kernel
theorem dX1_climb_7 : decode cX1_climb 7 = .ok (.iload 4, 2) := by decide +kernel
theorem dX1_climb_9 : decode cX1_climb 9 = .ok (.bipush 16, 2) := by decide +kernel
theorem dX1_climb_11 : decode cX1_climb 11 = .ok (.if_icmp .ge 27, 3) := by decide +kernel
theorem dX1_climb_14 : decode cX1_climb 14 = .ok (.iload_n 3, 1) := by decide +kernel
theorem dX1_climb_15 : decode cX1_climb 15 = .ok (.iconst (-1), 1) := by decide +kernel
theorem dX1_climb_16 : decode cX1_climb 16 = .ok (.if_icmp .eq 22, 3) := by decide +kernel
theorem dX1_climb_19 : decode cX1_climb 19 = .ok (.iload_n 2, 1) := by decide +kernel
theorem dX1_climb_20 : decode cX1_climb 20 = .ok (.iconst 1, 1) := by decide +kernel
theorem dX1_climb_21 : decode cX1_climb 21 = .ok (.iload_n 3, 1) := by decide +kernel
theorem dX1_climb_22 : decode cX1_climb 22 = .ok (.ishl, 1) := by decide +kernel
theorem dX1_climb_23 : decode cX1_climb 23 = .ok (.ior, 1) := by decide +kernel
theorem dX1_climb_24 : decode cX1_climb 24 = .ok (.istore_n 2, 1) := by decide +kernel
theorem dX1_climb_25 : decode cX1_climb 25 = .ok (.aload_n 0, 1) := by decide +kernel
theorem dX1_climb_26 : decode cX1_climb 26 = .ok (.getfield 9, 3) := by decide +kernel
theorem dX1_climb_29 : decode cX1_climb 29 = .ok (.iload_n 3, 1) := by decide +kernel
theorem dX1_climb_30 : decode cX1_climb 30 = .ok (.iaload, 1) := by decide +kernel
theorem dX1_climb_31 : decode cX1_climb 31 = .ok (.istore_n 3, 1) := by decide +kernel
theorem dX1_climb_32 : decode cX1_climb 32 = .ok (.iinc 4 1, 3) := by decide +kernel
theorem dX1_climb_35 : decode cX1_climb 35 = .ok (.goto (-28), 3) := by decide +kernel
theorem dX1_climb_38 : decode cX1_climb 38 = .ok (.iload_n 2, 1) := by decide +kernel
theorem dX1_climb_39 : decode cX1_climb 39 = .ok (.ireturn, 1) := by decide +kernel
theorem dX1_is_0 : decode cX1_is 0 = .ok (.aload_n 0, 1) := by decide +kernel
theorem dX1_is_1 : decode cX1_is 1 = .ok (.getfield 15, 3) := by decide +kernel
theorem dX1_is_4 : decode cX1_is 4 = .ok (.iload_n 1, 1) := by decide +kernel
theorem dX1_is_5 : decode cX1_is 5 = .ok (.iaload, 1) := by decide +kernel
theorem dX1_is_6 : decode cX1_is 6 = .ok (.iload_n 2, 1) := by decide +kernel
theorem dX1_is_7 : decode cX1_is 7 = .ok (.ishr, 1) := by decide +kernel
theorem dX1_is_8 : decode cX1_is 8 = .ok (.iconst 1, 1) := by decide +kernel
theorem dX1_is_9 : decode cX1_is 9 = .ok (.iand, 1) := by decide +kernel
theorem dX1_is_10 : decode cX1_is 10 = .ok (.ifCond .eq 7, 3) := by decide +kernel
theorem dX1_is_13 : decode cX1_is 13 = .ok (.iconst 1, 1) := by decide +kernel
theorem dX1_is_14 : decode cX1_is 14 = .ok (.goto 4, 3) := by decide +kernel
theorem dX1_is_17 : decode cX1_is 17 = .ok (.iconst 0, 1) := by decide +kernel
theorem dX1_is_18 : decode cX1_is 18 = .ok (.ireturn, 1) := by decide +kernel
theorem dX1_liesJustUnder_0 : decode cX1_liesJustUnder 0 = .ok (.aload_n 0, 1) := by decide +kernel
theorem dX1_liesJustUnder_1 : decode cX1_liesJustUnder 1 = .ok (.getfield 9, 3) := by decide +kernel
theorem dX1_liesJustUnder_4 : decode cX1_liesJustUnder 4 = .ok (.iload_n 1, 1) := by decide +kernel
theorem dX1_liesJustUnder_5 : decode cX1_liesJustUnder 5 = .ok (.iaload, 1) := by decide +kernel
theorem dX1_liesJustUnder_6 : decode cX1_liesJustUnder 6 = .ok (.iload_n 2, 1) := by decide +kernel
theorem dX1_liesJustUnder_7 : decode cX1_liesJustUnder 7 = .ok (.if_icmp .ne 7, 3) := by decide +kernel
theorem dX1_liesJustUnder_10 : decode cX1_liesJustUnder 10 = .ok (.iconst 1, 1) := by decide +kernel
theorem dX1_liesJustUnder_11 : decode cX1_liesJustUnder 11 = .ok (.goto 4, 3) := by decide +kernel
theorem dX1_liesJustUnder_14 : decode cX1_liesJustUnder 14 = .ok (.iconst 0, 1) := by decide +kernel
theorem dX1_liesJustUnder_15 : decode cX1_liesJustUnder 15 = .ok (.ireturn, 1) := by decide +kernel
theorem dX2_init_0 : decode cX2_init 0 = .ok (.aload_n 0, 1) := by decide +kernel
theorem dX2_init_1 : decode cX2_init 1 = .ok (.invokespecial 3, 3) := by decide +kernel
theorem dX2_init_4 : decode cX2_init 4 = .ok (.aload_n 0, 1) := by decide +kernel
theorem dX2_init_5 : decode cX2_init 5 = .ok (.aload_n 1, 1) := by decide +kernel
theorem dX2_init_6 : decode cX2_init 6 = .ok (.putfield 9, 3) := by decide +kernel
theorem dX2_init_9 : decode cX2_init 9 = .ok (.aload_n 0, 1) := by decide +kernel
theorem dX2_init_10 : decode cX2_init 10 = .ok (.bipush 100, 2) := by decide +kernel
theorem dX2_init_12 : decode cX2_init 12 = .ok (.putfield 15, 3) := by decide +kernel
theorem dX2_init_15 : decode cX2_init 15 = .ok (.aload_n 0, 1) := by decide +kernel
theorem dX2_init_16 : decode cX2_init 16 = .ok (.sipush 1000, 3) := by decide +kernel
theorem dX2_init_19 : decode cX2_init 19 = .ok (.putfield 19, 3) := by decide +kernel
theorem dX2_init_22 : decode cX2_init 22 = .ok (.aload_n 0, 1) := by decide +kernel
theorem dX2_init_23 : decode cX2_init 23 = .ok (.bipush 16, 2) := by decide +kernel
theorem dX2_init_25 : decode cX2_init 25 = .ok (.newarray .int, 2) := by decide +kernel
theorem dX2_init_27 : decode cX2_init 27 = .ok (.putfield 22, 3) := by decide +kernel
theorem dX2_init_30 : decode cX2_init 30 = .ok (.aload_n 0, 1) := by decide +kernel
theorem dX2_init_31 : decode cX2_init 31 = .ok (.iconst 4, 1) := by decide +kernel
theorem dX2_init_32 : decode cX2_init 32 = .ok (.newarray .int, 2) := by decide +kernel
theorem dX2_init_34 : decode cX2_init 34 = .ok (.putfield 26, 3) := by decide +kernel
theorem dX2_init_37 : decode cX2_init 37 = .ok (.aload_n 0, 1) := by decide +kernel
theorem dX2_init_38 : decode cX2_init 38 = .ok (.iconst 4, 1) := by decide +kernel
theorem dX2_init_39 : decode cX2_init 39 = .ok (.newarray .int, 2) := by decide +kernel
theorem dX2_init_41 : decode cX2_init 41 = .ok (.putfield 29, 3) := by decide +kernel
theorem dX2_init_44 : decode cX2_init 44 = .ok (.aload_n 0, 1) := by decide +kernel
theorem dX2_init_45 : decode cX2_init 45 = .ok (.iconst 4, 1) := by decide +kernel
theorem dX2_init_46 : decode cX2_init 46 = .ok (.newarray .int, 2) := by decide +kernel
theorem dX2_init_48 : decode cX2_init 48 = .ok (.putfield 32, 3) := by decide +kernel
theorem dX2_init_51 : decode cX2_init 51 = .ok (.return_, 1) := by decide +kernel
theorem dX2_takeUp_0 : decode cX2_takeUp 0 = .ok (.aload_n 0, 1) := by decide +kernel
theorem dX2_takeUp_1 : decode cX2_takeUp 1 = .ok (.iload_n 1, 1) := by decide +kernel
theorem dX2_takeUp_2 : decode cX2_takeUp 2 = .ok (.invokestatic 35, 3) := by decide +kernel
theorem dX2_takeUp_5 : decode cX2_takeUp 5 = .ok (.putfield 41, 3) := by decide +kernel
theorem dX2_takeUp_8 : decode cX2_takeUp 8 = .ok (.iconst 0, 1) := by decide +kernel
theorem dX2_takeUp_9 : decode cX2_takeUp 9 = .ok (.istore_n 2, 1) := by decide +kernel
theorem dX2_takeUp_10 : decode cX2_takeUp 10 = .ok (.iload_n 2, 1) := by decide +kernel
theorem dX2_takeUp_11 : decode cX2_takeUp 11 = .ok (.bipush 16, 2) := by decide +kernel
theorem dX2_takeUp_13 : decode cX2_takeUp 13 = .ok (.if_icmp .ge 76, 3) := by decide +kernel
theorem dX2_takeUp_16 : decode cX2_takeUp 16 = .ok (.aload_n 0, 1) := by decide +kernel
theorem dX2_takeUp_17 : decode cX2_takeUp 17 = .ok (.getfield 9, 3) := by decide +kernel
theorem dX2_takeUp_20 : decode cX2_takeUp 20 = .ok (.getfield 43, 3) := by decide +kernel
theorem dX2_takeUp_23 : decode cX2_takeUp 23 = .ok (.iload_n 2, 1) := by decide +kernel
theorem dX2_takeUp_24 : decode cX2_takeUp 24 = .ok (.iaload, 1) := by decide +kernel
theorem dX2_takeUp_25 : decode cX2_takeUp 25 = .ok (.istore_n 3, 1) := by decide +kernel
theorem dX2_takeUp_26 : decode cX2_takeUp 26 = .ok (.iload_n 1, 1) := by decide +kernel
theorem dX2_takeUp_27 : decode cX2_takeUp 27 = .ok (.istore 4, 2) := by decide +kernel
theorem dX2_takeUp_29 : decode cX2_takeUp 29 = .ok (.aload_n 0, 1) := by decide +kernel
theorem dX2_takeUp_30 : decode cX2_takeUp 30 = .ok (.getfield 22, 3) := by decide +kernel
theorem dX2_takeUp_33 : decode cX2_takeUp 33 = .ok (.iload_n 2, 1) := by decide +kernel
theorem dX2_takeUp_34 : decode cX2_takeUp 34 = .ok (.iconst 0, 1) := by decide +kernel
theorem dX2_takeUp_35 : decode cX2_takeUp 35 = .ok (.iastore, 1) := by decide +kernel
theorem dX2_takeUp_36 : decode cX2_takeUp 36 = .ok (.aload_n 0, 1) := by decide +kernel
theorem dX2_takeUp_37 : decode cX2_takeUp 37 = .ok (.getfield 41, 3) := by decide +kernel
theorem dX2_takeUp_40 : decode cX2_takeUp 40 = .ok (.iconst 1, 1) := by decide +kernel
theorem dX2_takeUp_41 : decode cX2_takeUp 41 = .ok (.isub, 1) := by decide +kernel
theorem dX2_takeUp_42 : decode cX2_takeUp 42 = .ok (.istore 5, 2) := by decide +kernel
theorem dX2_takeUp_44 : decode cX2_takeUp 44 = .ok (.iload 5, 2) := by decide +kernel
theorem dX2_takeUp_46 : decode cX2_takeUp 46 = .ok (.ifCond .lt 37, 3) := by decide +kernel
theorem dX2_takeUp_49 : decode cX2_takeUp 49 = .ok (.aload_n 0, 1) := by decide +kernel
theorem dX2_takeUp_50 : decode cX2_takeUp 50 = .ok (.getfield 22, 3) := by decide +kernel
theorem dX2_takeUp_53 : decode cX2_takeUp 53 = .ok (.iload_n 2, 1) := by decide +kernel
theorem dX2_takeUp_54 : decode cX2_takeUp 54 = .ok (.dup2, 1) := by decide +kernel
theorem dX2_takeUp_55 : decode cX2_takeUp 55 = .ok (.iaload, 1) := by decide +kernel
theorem dX2_takeUp_56 : decode cX2_takeUp 56 = .ok (.iload_n 3, 1) := by decide +kernel
theorem dX2_takeUp_57 : decode cX2_takeUp 57 = .ok (.iload 4, 2) := by decide +kernel
theorem dX2_takeUp_59 : decode cX2_takeUp 59 = .ok (.invokestatic 48, 3) := by decide +kernel
theorem dX2_takeUp_62 : decode cX2_takeUp 62 = .ok (.ishr, 1) := by decide +kernel
theorem dX2_takeUp_63 : decode cX2_takeUp 63 = .ok (.iconst 1, 1) := by decide +kernel
theorem dX2_takeUp_64 : decode cX2_takeUp 64 = .ok (.iand, 1) := by decide +kernel
theorem dX2_takeUp_65 : decode cX2_takeUp 65 = .ok (.iload 5, 2) := by decide +kernel
theorem dX2_takeUp_67 : decode cX2_takeUp 67 = .ok (.ishl, 1) := by decide +kernel
theorem dX2_takeUp_68 : decode cX2_takeUp 68 = .ok (.ior, 1) := by decide +kernel
theorem dX2_takeUp_69 : decode cX2_takeUp 69 = .ok (.iastore, 1) := by decide +kernel
theorem dX2_takeUp_70 : decode cX2_takeUp 70 = .ok (.iload 4, 2) := by decide +kernel
theorem dX2_takeUp_72 : decode cX2_takeUp 72 = .ok (.invokestatic 51, 3) := by decide +kernel
theorem dX2_takeUp_75 : decode cX2_takeUp 75 = .ok (.istore 4, 2) := by decide +kernel
theorem dX2_takeUp_77 : decode cX2_takeUp 77 = .ok (.iinc 5 (-1), 3) := by decide +kernel
theorem dX2_takeUp_80 : decode cX2_takeUp 80 = .ok (.goto (-36), 3) := by decide +kernel
theorem dX2_takeUp_83 : decode cX2_takeUp 83 = .ok (.iinc 2 1, 3) := by decide +kernel
theorem dX2_takeUp_86 : decode cX2_takeUp 86 = .ok (.goto (-76), 3) := by decide +kernel
theorem dX2_takeUp_89 : decode cX2_takeUp 89 = .ok (.return_, 1) := by decide +kernel
theorem dX2_isIn_0 : decode cX2_isIn 0 = .ok (.aload_n 0, 1) := by decide +kernel
theorem dX2_isIn_1 : decode cX2_isIn 1 = .ok (.invokevirtual 54, 3) := by decide +kernel
theorem dX2_isIn_4 : decode cX2_isIn 4 = .ok (.iconst 0, 1) := by decide +kernel
theorem dX2_isIn_5 : decode cX2_isIn 5 = .ok (.istore_n 2, 1) := by decide +kernel
theorem dX2_isIn_6 : decode cX2_isIn 6 = .ok (.iload_n 2, 1) := by decide +kernel
theorem dX2_isIn_7 : decode cX2_isIn 7 = .ok (.aload_n 1, 1) := by decide +kernel
theorem dX2_isIn_8 : decode cX2_isIn 8 = .ok (.invokevirtual 57, 3) := by decide +kernel
theorem dX2_isIn_11 : decode cX2_isIn 11 = .ok (.if_icmp .ge 20, 3) := by decide +kernel
theorem dX2_isIn_14 : decode cX2_isIn 14 = .ok (.aload_n 0, 1) := by decide +kernel
theorem dX2_isIn_15 : decode cX2_isIn 15 = .ok (.aload_n 1, 1) := by decide +kernel
theorem dX2_isIn_16 : decode cX2_isIn 16 = .ok (.iload_n 2, 1) := by decide +kernel
theorem dX2_isIn_17 : decode cX2_isIn 17 = .ok (.invokevirtual 63, 3) := by decide +kernel
theorem dX2_isIn_20 : decode cX2_isIn 20 = .ok (.ifCond .eq 5, 3) := by decide +kernel
theorem dX2_isIn_23 : decode cX2_isIn 23 = .ok (.iconst 1, 1) := by decide +kernel
theorem dX2_isIn_24 : decode cX2_isIn 24 = .ok (.ireturn, 1) := by decide +kernel
theorem dX2_isIn_25 : decode cX2_isIn 25 = .ok (.iinc 2 1, 3) := by decide +kernel
theorem dX2_isIn_28 : decode cX2_isIn 28 = .ok (.goto (-22), 3) := by decide +kernel
theorem dX2_isIn_31 : decode cX2_isIn 31 = .ok (.iconst 0, 1) := by decide +kernel
theorem dX2_isIn_32 : decode cX2_isIn 32 = .ok (.ireturn, 1) := by decide +kernel
theorem dX2_lastEnd_0 : decode cX2_lastEnd 0 = .ok (.aload_n 0, 1) := by decide +kernel
theorem dX2_lastEnd_1 : decode cX2_lastEnd 1 = .ok (.invokevirtual 54, 3) := by decide +kernel
theorem dX2_lastEnd_4 : decode cX2_lastEnd 4 = .ok (.iconst (-1), 1) := by decide +kernel
theorem dX2_lastEnd_5 : decode cX2_lastEnd 5 = .ok (.istore_n 2, 1) := by decide +kernel
theorem dX2_lastEnd_6 : decode cX2_lastEnd 6 = .ok (.iconst 0, 1) := by decide +kernel
theorem dX2_lastEnd_7 : decode cX2_lastEnd 7 = .ok (.istore_n 3, 1) := by decide +kernel
theorem dX2_lastEnd_8 : decode cX2_lastEnd 8 = .ok (.iload_n 3, 1) := by decide +kernel
theorem dX2_lastEnd_9 : decode cX2_lastEnd 9 = .ok (.aload_n 1, 1) := by decide +kernel
theorem dX2_lastEnd_10 : decode cX2_lastEnd 10 = .ok (.invokevirtual 57, 3) := by decide +kernel
theorem dX2_lastEnd_13 : decode cX2_lastEnd 13 = .ok (.if_icmp .ge 24, 3) := by decide +kernel
theorem dX2_lastEnd_16 : decode cX2_lastEnd 16 = .ok (.aload_n 0, 1) := by decide +kernel
theorem dX2_lastEnd_17 : decode cX2_lastEnd 17 = .ok (.aload_n 1, 1) := by decide +kernel
theorem dX2_lastEnd_18 : decode cX2_lastEnd 18 = .ok (.iload_n 3, 1) := by decide +kernel
theorem dX2_lastEnd_19 : decode cX2_lastEnd 19 = .ok (.invokevirtual 63, 3) := by decide +kernel
theorem dX2_lastEnd_22 : decode cX2_lastEnd 22 = .ok (.ifCond .eq 9, 3) := by decide +kernel
theorem dX2_lastEnd_25 : decode cX2_lastEnd 25 = .ok (.aload_n 1, 1) := by decide +kernel
theorem dX2_lastEnd_26 : decode cX2_lastEnd 26 = .ok (.iload_n 3, 1) := by decide +kernel
theorem dX2_lastEnd_27 : decode cX2_lastEnd 27 = .ok (.invokevirtual 67, 3) := by decide +kernel
theorem dX2_lastEnd_30 : decode cX2_lastEnd 30 = .ok (.istore_n 2, 1) := by decide +kernel
theorem dX2_lastEnd_31 : decode cX2_lastEnd 31 = .ok (.iinc 3 1, 3) := by decide +kernel
theorem dX2_lastEnd_34 : decode cX2_lastEnd 34 = .ok (.goto (-26), 3) := by decide +kernel
theorem dX2_lastEnd_37 : decode cX2_lastEnd 37 = .ok (.iload_n 2, 1) := by decide +kernel
theorem dX2_lastEnd_38 : decode cX2_lastEnd 38 = .ok (.ireturn, 1) := by decide +kernel
theorem dX2_kindsBehind_0 : decode cX2_kindsBehind 0 = .ok (.aload_n 0, 1) := by decide +kernel
theorem dX2_kindsBehind_1 : decode cX2_kindsBehind 1 = .ok (.invokevirtual 54, 3) := by decide +kernel
theorem dX2_kindsBehind_4 : decode cX2_kindsBehind 4 = .ok (.iconst 0, 1) := by decide +kernel
theorem dX2_kindsBehind_5 : decode cX2_kindsBehind 5 = .ok (.istore_n 2, 1) := by decide +kernel
theorem dX2_kindsBehind_6 : decode cX2_kindsBehind 6 = .ok (.iconst 0, 1) := by decide +kernel
theorem dX2_kindsBehind_7 : decode cX2_kindsBehind 7 = .ok (.istore_n 3, 1) := by decide +kernel
theorem dX2_kindsBehind_8 : decode cX2_kindsBehind 8 = .ok (.iload_n 3, 1) := by decide +kernel
theorem dX2_kindsBehind_9 : decode cX2_kindsBehind 9 = .ok (.aload_n 1, 1) := by decide +kernel
theorem dX2_kindsBehind_10 : decode cX2_kindsBehind 10 = .ok (.invokevirtual 57, 3) := by decide +kernel
theorem dX2_kindsBehind_13 : decode cX2_kindsBehind 13 = .ok (.if_icmp .ge 47, 3) := by decide +kernel
theorem dX2_kindsBehind_16 : decode cX2_kindsBehind 16 = .ok (.aload_n 0, 1) := by decide +kernel
theorem dX2_kindsBehind_17 : decode cX2_kindsBehind 17 = .ok (.aload_n 0, 1) := by decide +kernel
theorem dX2_kindsBehind_18 : decode cX2_kindsBehind 18 = .ok (.getfield 41, 3) := by decide +kernel
theorem dX2_kindsBehind_21 : decode cX2_kindsBehind 21 = .ok (.aload_n 1, 1) := by decide +kernel
theorem dX2_kindsBehind_22 : decode cX2_kindsBehind 22 = .ok (.iload_n 3, 1) := by decide +kernel
theorem dX2_kindsBehind_23 : decode cX2_kindsBehind 23 = .ok (.invokevirtual 67, 3) := by decide +kernel
theorem dX2_kindsBehind_26 : decode cX2_kindsBehind 26 = .ok (.invokevirtual 70, 3) := by decide +kernel
theorem dX2_kindsBehind_29 : decode cX2_kindsBehind 29 = .ok (.ifCond .eq 18, 3) := by decide +kernel
theorem dX2_kindsBehind_32 : decode cX2_kindsBehind 32 = .ok (.iload_n 2, 1) := by decide +kernel
theorem dX2_kindsBehind_33 : decode cX2_kindsBehind 33 = .ok (.aload_n 1, 1) := by decide +kernel
theorem dX2_kindsBehind_34 : decode cX2_kindsBehind 34 = .ok (.iload_n 3, 1) := by decide +kernel
theorem dX2_kindsBehind_35 : decode cX2_kindsBehind 35 = .ok (.aload_n 0, 1) := by decide +kernel
theorem dX2_kindsBehind_36 : decode cX2_kindsBehind 36 = .ok (.getfield 9, 3) := by decide +kernel
theorem dX2_kindsBehind_39 : decode cX2_kindsBehind 39 = .ok (.getfield 43, 3) := by decide +kernel
theorem dX2_kindsBehind_42 : decode cX2_kindsBehind 42 = .ok (.invokevirtual 74, 3) := by decide +kernel
theorem dX2_kindsBehind_45 : decode cX2_kindsBehind 45 = .ok (.ior, 1) := by decide +kernel
theorem dX2_kindsBehind_46 : decode cX2_kindsBehind 46 = .ok (.istore_n 2, 1) := by decide +kernel
theorem dX2_kindsBehind_47 : decode cX2_kindsBehind 47 = .ok (.aload_n 0, 1) := by decide +kernel
theorem dX2_kindsBehind_48 : decode cX2_kindsBehind 48 = .ok (.aload_n 1, 1) := by decide +kernel
theorem dX2_kindsBehind_49 : decode cX2_kindsBehind 49 = .ok (.iload_n 3, 1) := by decide +kernel
theorem dX2_kindsBehind_50 : decode cX2_kindsBehind 50 = .ok (.invokevirtual 63, 3) := by decide +kernel
theorem dX2_kindsBehind_53 : decode cX2_kindsBehind 53 = .ok (.pop, 1) := by decide +kernel
theorem dX2_kindsBehind_54 : decode cX2_kindsBehind 54 = .ok (.iinc 3 1, 3) := by decide +kernel
theorem dX2_kindsBehind_57 : decode cX2_kindsBehind 57 = .ok (.goto (-49), 3) := by decide +kernel
theorem dX2_kindsBehind_60 : decode cX2_kindsBehind 60 = .ok (.iload_n 2, 1) := by decide +kernel
theorem dX2_kindsBehind_61 : decode cX2_kindsBehind 61 = .ok (.ireturn, 1) := by decide +kernel
theorem dX2_loseChains_0 : decode cX2_loseChains 0 = .ok (.iconst 0, 1) := by decide +kernel
theorem dX2_loseChains_1 : decode cX2_loseChains 1 = .ok (.istore_n 1, 1) := by decide +kernel
theorem dX2_loseChains_2 : decode cX2_loseChains 2 = .ok (.iload_n 1, 1) := by decide +kernel
theorem dX2_loseChains_3 : decode cX2_loseChains 3 = .ok (.iconst 4, 1) := by decide +kernel
theorem dX2_loseChains_4 : decode cX2_loseChains 4 = .ok (.if_icmp .ge 23, 3) := by decide +kernel
theorem dX2_loseChains_7 : decode cX2_loseChains 7 = .ok (.aload_n 0, 1) := by decide +kernel
theorem dX2_loseChains_8 : decode cX2_loseChains 8 = .ok (.getfield 26, 3) := by decide +kernel
theorem dX2_loseChains_11 : decode cX2_loseChains 11 = .ok (.iload_n 1, 1) := by decide +kernel
theorem dX2_loseChains_12 : decode cX2_loseChains 12 = .ok (.iconst (-1), 1) := by decide +kernel
theorem dX2_loseChains_13 : decode cX2_loseChains 13 = .ok (.iastore, 1) := by decide +kernel
theorem dX2_loseChains_14 : decode cX2_loseChains 14 = .ok (.aload_n 0, 1) := by decide +kernel
theorem dX2_loseChains_15 : decode cX2_loseChains 15 = .ok (.getfield 29, 3) := by decide +kernel
theorem dX2_loseChains_18 : decode cX2_loseChains 18 = .ok (.iload_n 1, 1) := by decide +kernel
theorem dX2_loseChains_19 : decode cX2_loseChains 19 = .ok (.iconst (-1), 1) := by decide +kernel
theorem dX2_loseChains_20 : decode cX2_loseChains 20 = .ok (.iastore, 1) := by decide +kernel
theorem dX2_loseChains_21 : decode cX2_loseChains 21 = .ok (.iinc 1 1, 3) := by decide +kernel
theorem dX2_loseChains_24 : decode cX2_loseChains 24 = .ok (.goto (-22), 3) := by decide +kernel
theorem dX2_loseChains_27 : decode cX2_loseChains 27 = .ok (.return_, 1) := by decide +kernel
theorem dX2_endsMatch_0 : decode cX2_endsMatch 0 = .ok (.aload_n 1, 1) := by decide +kernel
theorem dX2_endsMatch_1 : decode cX2_endsMatch 1 = .ok (.iload_n 2, 1) := by decide +kernel
theorem dX2_endsMatch_2 : decode cX2_endsMatch 2 = .ok (.aload_n 0, 1) := by decide +kernel
theorem dX2_endsMatch_3 : decode cX2_endsMatch 3 = .ok (.getfield 22, 3) := by decide +kernel
theorem dX2_endsMatch_6 : decode cX2_endsMatch 6 = .ok (.invokevirtual 74, 3) := by decide +kernel
theorem dX2_endsMatch_9 : decode cX2_endsMatch 9 = .ok (.istore_n 3, 1) := by decide +kernel
theorem dX2_endsMatch_10 : decode cX2_endsMatch 10 = .ok (.aload_n 1, 1) := by decide +kernel
theorem dX2_endsMatch_11 : decode cX2_endsMatch 11 = .ok (.iload_n 2, 1) := by decide +kernel
theorem dX2_endsMatch_12 : decode cX2_endsMatch 12 = .ok (.invokevirtual 67, 3) := by decide +kernel
theorem dX2_endsMatch_15 : decode cX2_endsMatch 15 = .ok (.istore 4, 2) := by decide +kernel
theorem dX2_endsMatch_17 : decode cX2_endsMatch 17 = .ok (.iconst 0, 1) := by decide +kernel
theorem dX2_endsMatch_18 : decode cX2_endsMatch 18 = .ok (.istore 5, 2) := by decide +kernel
theorem dX2_endsMatch_20 : decode cX2_endsMatch 20 = .ok (.aload_n 0, 1) := by decide +kernel
theorem dX2_endsMatch_21 : decode cX2_endsMatch 21 = .ok (.getfield 41, 3) := by decide +kernel
theorem dX2_endsMatch_24 : decode cX2_endsMatch 24 = .ok (.iconst 1, 1) := by decide +kernel
theorem dX2_endsMatch_25 : decode cX2_endsMatch 25 = .ok (.isub, 1) := by decide +kernel
theorem dX2_endsMatch_26 : decode cX2_endsMatch 26 = .ok (.istore 6, 2) := by decide +kernel
theorem dX2_endsMatch_28 : decode cX2_endsMatch 28 = .ok (.iload_n 3, 1) := by decide +kernel
theorem dX2_endsMatch_29 : decode cX2_endsMatch 29 = .ok (.ifCond .eq 90, 3) := by decide +kernel
theorem dX2_endsMatch_32 : decode cX2_endsMatch 32 = .ok (.iload 6, 2) := by decide +kernel
theorem dX2_endsMatch_34 : decode cX2_endsMatch 34 = .ok (.ifCond .lt 85, 3) := by decide +kernel
theorem dX2_endsMatch_37 : decode cX2_endsMatch 37 = .ok (.iload_n 3, 1) := by decide +kernel
theorem dX2_endsMatch_38 : decode cX2_endsMatch 38 = .ok (.iload 6, 2) := by decide +kernel
theorem dX2_endsMatch_40 : decode cX2_endsMatch 40 = .ok (.ishr, 1) := by decide +kernel
theorem dX2_endsMatch_41 : decode cX2_endsMatch 41 = .ok (.iconst 1, 1) := by decide +kernel
theorem dX2_endsMatch_42 : decode cX2_endsMatch 42 = .ok (.iand, 1) := by decide +kernel
theorem dX2_endsMatch_43 : decode cX2_endsMatch 43 = .ok (.ifCond .eq 70, 3) := by decide +kernel
theorem dX2_endsMatch_46 : decode cX2_endsMatch 46 = .ok (.aload_n 0, 1) := by decide +kernel
theorem dX2_endsMatch_47 : decode cX2_endsMatch 47 = .ok (.iload 6, 2) := by decide +kernel
theorem dX2_endsMatch_49 : decode cX2_endsMatch 49 = .ok (.iload 4, 2) := by decide +kernel
theorem dX2_endsMatch_51 : decode cX2_endsMatch 51 = .ok (.invokevirtual 70, 3) := by decide +kernel
theorem dX2_endsMatch_54 : decode cX2_endsMatch 54 = .ok (.ifCond .eq 59, 3) := by decide +kernel
theorem dX2_endsMatch_57 : decode cX2_endsMatch 57 = .ok (.aload_n 0, 1) := by decide +kernel
theorem dX2_endsMatch_58 : decode cX2_endsMatch 58 = .ok (.getfield 26, 3) := by decide +kernel
theorem dX2_endsMatch_61 : decode cX2_endsMatch 61 = .ok (.iload 6, 2) := by decide +kernel
theorem dX2_endsMatch_63 : decode cX2_endsMatch 63 = .ok (.iload 6, 2) := by decide +kernel
theorem dX2_endsMatch_65 : decode cX2_endsMatch 65 = .ok (.ifCond .ne 8, 3) := by decide +kernel
theorem dX2_endsMatch_68 : decode cX2_endsMatch 68 = .ok (.iload 4, 2) := by decide +kernel
theorem dX2_endsMatch_70 : decode cX2_endsMatch 70 = .ok (.goto 12, 3) := by decide +kernel
theorem dX2_endsMatch_73 : decode cX2_endsMatch 73 = .ok (.aload_n 0, 1) := by decide +kernel
theorem dX2_endsMatch_74 : decode cX2_endsMatch 74 = .ok (.getfield 26, 3) := by decide +kernel
theorem dX2_endsMatch_77 : decode cX2_endsMatch 77 = .ok (.iload 6, 2) := by decide +kernel
theorem dX2_endsMatch_79 : decode cX2_endsMatch 79 = .ok (.iconst 1, 1) := by decide +kernel
theorem dX2_endsMatch_80 : decode cX2_endsMatch 80 = .ok (.isub, 1) := by decide +kernel
theorem dX2_endsMatch_81 : decode cX2_endsMatch 81 = .ok (.iaload, 1) := by decide +kernel
theorem dX2_endsMatch_82 : decode cX2_endsMatch 82 = .ok (.iastore, 1) := by decide +kernel
theorem dX2_endsMatch_83 : decode cX2_endsMatch 83 = .ok (.aload_n 0, 1) := by decide +kernel
theorem dX2_endsMatch_84 : decode cX2_endsMatch 84 = .ok (.getfield 29, 3) := by decide +kernel
theorem dX2_endsMatch_87 : decode cX2_endsMatch 87 = .ok (.iload 6, 2) := by decide +kernel
theorem dX2_endsMatch_89 : decode cX2_endsMatch 89 = .ok (.iload 4, 2) := by decide +kernel
theorem dX2_endsMatch_91 : decode cX2_endsMatch 91 = .ok (.iastore, 1) := by decide +kernel
theorem dX2_endsMatch_92 : decode cX2_endsMatch 92 = .ok (.iload 5, 2) := by decide +kernel
theorem dX2_endsMatch_94 : decode cX2_endsMatch 94 = .ok (.iload 6, 2) := by decide +kernel
theorem dX2_endsMatch_96 : decode cX2_endsMatch 96 = .ok (.aload_n 0, 1) := by decide +kernel
theorem dX2_endsMatch_97 : decode cX2_endsMatch 97 = .ok (.getfield 41, 3) := by decide +kernel
theorem dX2_endsMatch_100 : decode cX2_endsMatch 100 = .ok (.iconst 1, 1) := by decide +kernel
theorem dX2_endsMatch_101 : decode cX2_endsMatch 101 = .ok (.isub, 1) := by decide +kernel
theorem dX2_endsMatch_102 : decode cX2_endsMatch 102 = .ok (.if_icmp .ne 7, 3) := by decide +kernel
theorem dX2_endsMatch_105 : decode cX2_endsMatch 105 = .ok (.iconst 1, 1) := by decide +kernel
theorem dX2_endsMatch_106 : decode cX2_endsMatch 106 = .ok (.goto 4, 3) := by decide +kernel
theorem dX2_endsMatch_109 : decode cX2_endsMatch 109 = .ok (.iconst 0, 1) := by decide +kernel
theorem dX2_endsMatch_110 : decode cX2_endsMatch 110 = .ok (.ior, 1) := by decide +kernel
theorem dX2_endsMatch_111 : decode cX2_endsMatch 111 = .ok (.istore 5, 2) := by decide +kernel
theorem dX2_endsMatch_113 : decode cX2_endsMatch 113 = .ok (.iinc 6 (-1), 3) := by decide +kernel
theorem dX2_endsMatch_116 : decode cX2_endsMatch 116 = .ok (.goto (-88), 3) := by decide +kernel
theorem dX2_endsMatch_119 : decode cX2_endsMatch 119 = .ok (.iload 5, 2) := by decide +kernel
theorem dX2_endsMatch_121 : decode cX2_endsMatch 121 = .ok (.ireturn, 1) := by decide +kernel
theorem dX2_canFollow_0 : decode cX2_canFollow 0 = .ok (.iload_n 1, 1) := by decide +kernel
theorem dX2_canFollow_1 : decode cX2_canFollow 1 = .ok (.ifCond .ne 5, 3) := by decide +kernel
theorem dX2_canFollow_4 : decode cX2_canFollow 4 = .ok (.iconst 1, 1) := by decide +kernel
theorem dX2_canFollow_5 : decode cX2_canFollow 5 = .ok (.ireturn, 1) := by decide +kernel
theorem dX2_canFollow_6 : decode cX2_canFollow 6 = .ok (.iload_n 1, 1) := by decide +kernel
theorem dX2_canFollow_7 : decode cX2_canFollow 7 = .ok (.iconst 1, 1) := by decide +kernel
theorem dX2_canFollow_8 : decode cX2_canFollow 8 = .ok (.isub, 1) := by decide +kernel
theorem dX2_canFollow_9 : decode cX2_canFollow 9 = .ok (.istore_n 3, 1) := by decide +kernel
theorem dX2_canFollow_10 : decode cX2_canFollow 10 = .ok (.aload_n 0, 1) := by decide +kernel
theorem dX2_canFollow_11 : decode cX2_canFollow 11 = .ok (.getfield 29, 3) := by decide +kernel
theorem dX2_canFollow_14 : decode cX2_canFollow 14 = .ok (.iload_n 3, 1) := by decide +kernel
theorem dX2_canFollow_15 : decode cX2_canFollow 15 = .ok (.iaload, 1) := by decide +kernel
theorem dX2_canFollow_16 : decode cX2_canFollow 16 = .ok (.iconst (-1), 1) := by decide +kernel
theorem dX2_canFollow_17 : decode cX2_canFollow 17 = .ok (.if_icmp .eq 37, 3) := by decide +kernel
theorem dX2_canFollow_20 : decode cX2_canFollow 20 = .ok (.iload_n 2, 1) := by decide +kernel
theorem dX2_canFollow_21 : decode cX2_canFollow 21 = .ok (.aload_n 0, 1) := by decide +kernel
theorem dX2_canFollow_22 : decode cX2_canFollow 22 = .ok (.getfield 29, 3) := by decide +kernel
theorem dX2_canFollow_25 : decode cX2_canFollow 25 = .ok (.iload_n 3, 1) := by decide +kernel
theorem dX2_canFollow_26 : decode cX2_canFollow 26 = .ok (.iaload, 1) := by decide +kernel
theorem dX2_canFollow_27 : decode cX2_canFollow 27 = .ok (.isub, 1) := by decide +kernel
theorem dX2_canFollow_28 : decode cX2_canFollow 28 = .ok (.aload_n 0, 1) := by decide +kernel
theorem dX2_canFollow_29 : decode cX2_canFollow 29 = .ok (.getfield 15, 3) := by decide +kernel
theorem dX2_canFollow_32 : decode cX2_canFollow 32 = .ok (.if_icmp .gt 22, 3) := by decide +kernel
theorem dX2_canFollow_35 : decode cX2_canFollow 35 = .ok (.iload_n 2, 1) := by decide +kernel
theorem dX2_canFollow_36 : decode cX2_canFollow 36 = .ok (.aload_n 0, 1) := by decide +kernel
theorem dX2_canFollow_37 : decode cX2_canFollow 37 = .ok (.getfield 26, 3) := by decide +kernel
theorem dX2_canFollow_40 : decode cX2_canFollow 40 = .ok (.iload_n 3, 1) := by decide +kernel
theorem dX2_canFollow_41 : decode cX2_canFollow 41 = .ok (.iaload, 1) := by decide +kernel
theorem dX2_canFollow_42 : decode cX2_canFollow 42 = .ok (.isub, 1) := by decide +kernel
theorem dX2_canFollow_43 : decode cX2_canFollow 43 = .ok (.aload_n 0, 1) := by decide +kernel
theorem dX2_canFollow_44 : decode cX2_canFollow 44 = .ok (.getfield 19, 3) := by decide +kernel
theorem dX2_canFollow_47 : decode cX2_canFollow 47 = .ok (.if_icmp .gt 7, 3) := by decide +kernel
theorem dX2_canFollow_50 : decode cX2_canFollow 50 = .ok (.iconst 1, 1) := by decide +kernel
theorem dX2_canFollow_51 : decode cX2_canFollow 51 = .ok (.goto 4, 3) := by decide +kernel
theorem dX2_canFollow_54 : decode cX2_canFollow 54 = .ok (.iconst 0, 1) := by decide +kernel
theorem dX2_canFollow_55 : decode cX2_canFollow 55 = .ok (.ireturn, 1) := by decide +kernel
theorem dX2_matchesIn_0 : decode cX2_matchesIn 0 = .ok (.lconst 0, 1) := by decide +kernel
theorem dX2_matchesIn_1 : decode cX2_matchesIn 1 = .ok (.lstore_n 2, 1) := by decide +kernel
theorem dX2_matchesIn_2 : decode cX2_matchesIn 2 = .ok (.aload_n 0, 1) := by decide +kernel
theorem dX2_matchesIn_3 : decode cX2_matchesIn 3 = .ok (.aload_n 1, 1) := by decide +kernel
theorem dX2_matchesIn_4 : decode cX2_matchesIn 4 = .ok (.invokevirtual 78, 3) := by decide +kernel
theorem dX2_matchesIn_7 : decode cX2_matchesIn 7 = .ok (.istore 4, 2) := by decide +kernel
theorem dX2_matchesIn_9 : decode cX2_matchesIn 9 = .ok (.iload 4, 2) := by decide +kernel
theorem dX2_matchesIn_11 : decode cX2_matchesIn 11 = .ok (.ifCond .eq 31, 3) := by decide +kernel
theorem dX2_matchesIn_14 : decode cX2_matchesIn 14 = .ok (.lload_n 2, 1) := by decide +kernel
theorem dX2_matchesIn_15 : decode cX2_matchesIn 15 = .ok (.ldc2_w 82, 3) := by decide +kernel
theorem dX2_matchesIn_18 : decode cX2_matchesIn 18 = .ok (.lcmp, 1) := by decide +kernel
theorem dX2_matchesIn_19 : decode cX2_matchesIn 19 = .ok (.ifCond .ge 23, 3) := by decide +kernel
theorem dX2_matchesIn_22 : decode cX2_matchesIn 22 = .ok (.lload_n 2, 1) := by decide +kernel
theorem dX2_matchesIn_23 : decode cX2_matchesIn 23 = .ok (.lconst 1, 1) := by decide +kernel
theorem dX2_matchesIn_24 : decode cX2_matchesIn 24 = .ok (.ladd, 1) := by decide +kernel
theorem dX2_matchesIn_25 : decode cX2_matchesIn 25 = .ok (.lstore_n 2, 1) := by decide +kernel
theorem dX2_matchesIn_26 : decode cX2_matchesIn 26 = .ok (.aload_n 0, 1) := by decide +kernel
theorem dX2_matchesIn_27 : decode cX2_matchesIn 27 = .ok (.aload_n 1, 1) := by decide +kernel
theorem dX2_matchesIn_28 : decode cX2_matchesIn 28 = .ok (.aload_n 0, 1) := by decide +kernel
theorem dX2_matchesIn_29 : decode cX2_matchesIn 29 = .ok (.getfield 41, 3) := by decide +kernel
theorem dX2_matchesIn_32 : decode cX2_matchesIn 32 = .ok (.iconst 1, 1) := by decide +kernel
theorem dX2_matchesIn_33 : decode cX2_matchesIn 33 = .ok (.isub, 1) := by decide +kernel
theorem dX2_matchesIn_34 : decode cX2_matchesIn 34 = .ok (.invokevirtual 84, 3) := by decide +kernel
theorem dX2_matchesIn_37 : decode cX2_matchesIn 37 = .ok (.istore 4, 2) := by decide +kernel
theorem dX2_matchesIn_39 : decode cX2_matchesIn 39 = .ok (.goto (-30), 3) := by decide +kernel
theorem dX2_matchesIn_42 : decode cX2_matchesIn 42 = .ok (.lload_n 2, 1) := by decide +kernel
theorem dX2_matchesIn_43 : decode cX2_matchesIn 43 = .ok (.lreturn, 1) := by decide +kernel
theorem dX2_placeInFirst_0 : decode cX2_placeInFirst 0 = .ok (.iload_n 2, 1) := by decide +kernel
theorem dX2_placeInFirst_1 : decode cX2_placeInFirst 1 = .ok (.ifCond .lt 28, 3) := by decide +kernel
theorem dX2_placeInFirst_4 : decode cX2_placeInFirst 4 = .ok (.iload_n 2, 1) := by decide +kernel
theorem dX2_placeInFirst_5 : decode cX2_placeInFirst 5 = .ok (.aload_n 0, 1) := by decide +kernel
theorem dX2_placeInFirst_6 : decode cX2_placeInFirst 6 = .ok (.getfield 41, 3) := by decide +kernel
theorem dX2_placeInFirst_9 : decode cX2_placeInFirst 9 = .ok (.if_icmp .ge 20, 3) := by decide +kernel
theorem dX2_placeInFirst_12 : decode cX2_placeInFirst 12 = .ok (.aload_n 0, 1) := by decide +kernel
theorem dX2_placeInFirst_13 : decode cX2_placeInFirst 13 = .ok (.aload_n 1, 1) := by decide +kernel
theorem dX2_placeInFirst_14 : decode cX2_placeInFirst 14 = .ok (.invokevirtual 78, 3) := by decide +kernel
theorem dX2_placeInFirst_17 : decode cX2_placeInFirst 17 = .ok (.ifCond .eq 12, 3) := by decide +kernel
theorem dX2_placeInFirst_20 : decode cX2_placeInFirst 20 = .ok (.aload_n 0, 1) := by decide +kernel
theorem dX2_placeInFirst_21 : decode cX2_placeInFirst 21 = .ok (.getfield 32, 3) := by decide +kernel
theorem dX2_placeInFirst_24 : decode cX2_placeInFirst 24 = .ok (.iload_n 2, 1) := by decide +kernel
theorem dX2_placeInFirst_25 : decode cX2_placeInFirst 25 = .ok (.iaload, 1) := by decide +kernel
theorem dX2_placeInFirst_26 : decode cX2_placeInFirst 26 = .ok (.goto 4, 3) := by decide +kernel
theorem dX2_placeInFirst_29 : decode cX2_placeInFirst 29 = .ok (.iconst (-1), 1) := by decide +kernel
theorem dX2_placeInFirst_30 : decode cX2_placeInFirst 30 = .ok (.ireturn, 1) := by decide +kernel
theorem dX2_goToFirstMatch_0 : decode cX2_goToFirstMatch 0 = .ok (.aload_n 0, 1) := by decide +kernel
theorem dX2_goToFirstMatch_1 : decode cX2_goToFirstMatch 1 = .ok (.getfield 32, 3) := by decide +kernel
theorem dX2_goToFirstMatch_4 : decode cX2_goToFirstMatch 4 = .ok (.iconst 0, 1) := by decide +kernel
theorem dX2_goToFirstMatch_5 : decode cX2_goToFirstMatch 5 = .ok (.iconst (-1), 1) := by decide +kernel
theorem dX2_goToFirstMatch_6 : decode cX2_goToFirstMatch 6 = .ok (.iastore, 1) := by decide +kernel
theorem dX2_goToFirstMatch_7 : decode cX2_goToFirstMatch 7 = .ok (.aload_n 0, 1) := by decide +kernel
theorem dX2_goToFirstMatch_8 : decode cX2_goToFirstMatch 8 = .ok (.aload_n 1, 1) := by decide +kernel
theorem dX2_goToFirstMatch_9 : decode cX2_goToFirstMatch 9 = .ok (.iconst 0, 1) := by decide +kernel
theorem dX2_goToFirstMatch_10 : decode cX2_goToFirstMatch 10 = .ok (.invokevirtual 84, 3) := by decide +kernel
theorem dX2_goToFirstMatch_13 : decode cX2_goToFirstMatch 13 = .ok (.ireturn, 1) := by decide +kernel
theorem dX2_goToNextMatch_0 : decode cX2_goToNextMatch 0 = .ok (.iload_n 2, 1) := by decide +kernel
theorem dX2_goToNextMatch_1 : decode cX2_goToNextMatch 1 = .ok (.istore_n 3, 1) := by decide +kernel
theorem dX2_goToNextMatch_2 : decode cX2_goToNextMatch 2 = .ok (.iconst 0, 1) := by decide +kernel
theorem dX2_goToNextMatch_3 : decode cX2_goToNextMatch 3 = .ok (.istore 4, 2) := by decide +kernel
theorem dX2_goToNextMatch_5 : decode cX2_goToNextMatch 5 = .ok (.iload 4, 2) := by decide +kernel
theorem dX2_goToNextMatch_7 : decode cX2_goToNextMatch 7 = .ok (.ldc 87, 2) := by decide +kernel
theorem dX2_goToNextMatch_9 : decode cX2_goToNextMatch 9 = .ok (.if_icmp .ge 70, 3) := by decide +kernel
theorem dX2_goToNextMatch_12 : decode cX2_goToNextMatch 12 = .ok (.iload_n 3, 1) := by decide +kernel
theorem dX2_goToNextMatch_13 : decode cX2_goToNextMatch 13 = .ok (.ifCond .lt 66, 3) := by decide +kernel
theorem dX2_goToNextMatch_16 : decode cX2_goToNextMatch 16 = .ok (.aload_n 0, 1) := by decide +kernel
theorem dX2_goToNextMatch_17 : decode cX2_goToNextMatch 17 = .ok (.getfield 32, 3) := by decide +kernel
theorem dX2_goToNextMatch_20 : decode cX2_goToNextMatch 20 = .ok (.iload_n 3, 1) := by decide +kernel
theorem dX2_goToNextMatch_21 : decode cX2_goToNextMatch 21 = .ok (.aload_n 0, 1) := by decide +kernel
theorem dX2_goToNextMatch_22 : decode cX2_goToNextMatch 22 = .ok (.aload_n 1, 1) := by decide +kernel
theorem dX2_goToNextMatch_23 : decode cX2_goToNextMatch 23 = .ok (.iload_n 3, 1) := by decide +kernel
theorem dX2_goToNextMatch_24 : decode cX2_goToNextMatch 24 = .ok (.invokevirtual 88, 3) := by decide +kernel
theorem dX2_goToNextMatch_27 : decode cX2_goToNextMatch 27 = .ok (.iastore, 1) := by decide +kernel
theorem dX2_goToNextMatch_28 : decode cX2_goToNextMatch 28 = .ok (.aload_n 0, 1) := by decide +kernel
theorem dX2_goToNextMatch_29 : decode cX2_goToNextMatch 29 = .ok (.getfield 32, 3) := by decide +kernel
theorem dX2_goToNextMatch_32 : decode cX2_goToNextMatch 32 = .ok (.iload_n 3, 1) := by decide +kernel
theorem dX2_goToNextMatch_33 : decode cX2_goToNextMatch 33 = .ok (.iaload, 1) := by decide +kernel
theorem dX2_goToNextMatch_34 : decode cX2_goToNextMatch 34 = .ok (.iconst (-1), 1) := by decide +kernel
theorem dX2_goToNextMatch_35 : decode cX2_goToNextMatch 35 = .ok (.if_icmp .ne 9, 3) := by decide +kernel
theorem dX2_goToNextMatch_38 : decode cX2_goToNextMatch 38 = .ok (.iinc 3 (-1), 3) := by decide +kernel
theorem dX2_goToNextMatch_41 : decode cX2_goToNextMatch 41 = .ok (.goto 32, 3) := by decide +kernel
theorem dX2_goToNextMatch_44 : decode cX2_goToNextMatch 44 = .ok (.iload_n 3, 1) := by decide +kernel
theorem dX2_goToNextMatch_45 : decode cX2_goToNextMatch 45 = .ok (.aload_n 0, 1) := by decide +kernel
theorem dX2_goToNextMatch_46 : decode cX2_goToNextMatch 46 = .ok (.getfield 41, 3) := by decide +kernel
theorem dX2_goToNextMatch_49 : decode cX2_goToNextMatch 49 = .ok (.iconst 1, 1) := by decide +kernel
theorem dX2_goToNextMatch_50 : decode cX2_goToNextMatch 50 = .ok (.isub, 1) := by decide +kernel
theorem dX2_goToNextMatch_51 : decode cX2_goToNextMatch 51 = .ok (.if_icmp .lt 5, 3) := by decide +kernel
theorem dX2_goToNextMatch_54 : decode cX2_goToNextMatch 54 = .ok (.iconst 1, 1) := by decide +kernel
theorem dX2_goToNextMatch_55 : decode cX2_goToNextMatch 55 = .ok (.ireturn, 1) := by decide +kernel
theorem dX2_goToNextMatch_56 : decode cX2_goToNextMatch 56 = .ok (.aload_n 0, 1) := by decide +kernel
theorem dX2_goToNextMatch_57 : decode cX2_goToNextMatch 57 = .ok (.getfield 32, 3) := by decide +kernel
theorem dX2_goToNextMatch_60 : decode cX2_goToNextMatch 60 = .ok (.iload_n 3, 1) := by decide +kernel
theorem dX2_goToNextMatch_61 : decode cX2_goToNextMatch 61 = .ok (.iconst 1, 1) := by decide +kernel
theorem dX2_goToNextMatch_62 : decode cX2_goToNextMatch 62 = .ok (.iadd, 1) := by decide +kernel
theorem dX2_goToNextMatch_63 : decode cX2_goToNextMatch 63 = .ok (.aload_n 0, 1) := by decide +kernel
theorem dX2_goToNextMatch_64 : decode cX2_goToNextMatch 64 = .ok (.getfield 32, 3) := by decide +kernel
theorem dX2_goToNextMatch_67 : decode cX2_goToNextMatch 67 = .ok (.iload_n 3, 1) := by decide +kernel
theorem dX2_goToNextMatch_68 : decode cX2_goToNextMatch 68 = .ok (.iaload, 1) := by decide +kernel
theorem dX2_goToNextMatch_69 : decode cX2_goToNextMatch 69 = .ok (.iastore, 1) := by decide +kernel
theorem dX2_goToNextMatch_70 : decode cX2_goToNextMatch 70 = .ok (.iinc 3 1, 3) := by decide +kernel
theorem dX2_goToNextMatch_73 : decode cX2_goToNextMatch 73 = .ok (.iinc 4 1, 3) := by decide +kernel
theorem dX2_goToNextMatch_76 : decode cX2_goToNextMatch 76 = .ok (.goto (-71), 3) := by decide +kernel
theorem dX2_goToNextMatch_79 : decode cX2_goToNextMatch 79 = .ok (.iconst 0, 1) := by decide +kernel
theorem dX2_goToNextMatch_80 : decode cX2_goToNextMatch 80 = .ok (.ireturn, 1) := by decide +kernel
theorem dX2_nextPlace_0 : decode cX2_nextPlace 0 = .ok (.aload_n 0, 1) := by decide +kernel
theorem dX2_nextPlace_1 : decode cX2_nextPlace 1 = .ok (.getfield 32, 3) := by decide +kernel
theorem dX2_nextPlace_4 : decode cX2_nextPlace 4 = .ok (.iload_n 2, 1) := by decide +kernel
theorem dX2_nextPlace_5 : decode cX2_nextPlace 5 = .ok (.iaload, 1) := by decide +kernel
theorem dX2_nextPlace_6 : decode cX2_nextPlace 6 = .ok (.iconst 1, 1) := by decide +kernel
theorem dX2_nextPlace_7 : decode cX2_nextPlace 7 = .ok (.iadd, 1) := by decide +kernel
theorem dX2_nextPlace_8 : decode cX2_nextPlace 8 = .ok (.istore_n 3, 1) := by decide +kernel
theorem dX2_nextPlace_9 : decode cX2_nextPlace 9 = .ok (.iload_n 3, 1) := by decide +kernel
theorem dX2_nextPlace_10 : decode cX2_nextPlace 10 = .ok (.aload_n 1, 1) := by decide +kernel
theorem dX2_nextPlace_11 : decode cX2_nextPlace 11 = .ok (.invokevirtual 57, 3) := by decide +kernel
theorem dX2_nextPlace_14 : decode cX2_nextPlace 14 = .ok (.if_icmp .ge 21, 3) := by decide +kernel
theorem dX2_nextPlace_17 : decode cX2_nextPlace 17 = .ok (.aload_n 0, 1) := by decide +kernel
theorem dX2_nextPlace_18 : decode cX2_nextPlace 18 = .ok (.aload_n 1, 1) := by decide +kernel
theorem dX2_nextPlace_19 : decode cX2_nextPlace 19 = .ok (.iload_n 3, 1) := by decide +kernel
theorem dX2_nextPlace_20 : decode cX2_nextPlace 20 = .ok (.iload_n 2, 1) := by decide +kernel
theorem dX2_nextPlace_21 : decode cX2_nextPlace 21 = .ok (.invokevirtual 92, 3) := by decide +kernel
theorem dX2_nextPlace_24 : decode cX2_nextPlace 24 = .ok (.ifCond .eq 5, 3) := by decide +kernel
theorem dX2_nextPlace_27 : decode cX2_nextPlace 27 = .ok (.iload_n 3, 1) := by decide +kernel
theorem dX2_nextPlace_28 : decode cX2_nextPlace 28 = .ok (.ireturn, 1) := by decide +kernel
theorem dX2_nextPlace_29 : decode cX2_nextPlace 29 = .ok (.iinc 3 1, 3) := by decide +kernel
theorem dX2_nextPlace_32 : decode cX2_nextPlace 32 = .ok (.goto (-23), 3) := by decide +kernel
theorem dX2_nextPlace_35 : decode cX2_nextPlace 35 = .ok (.iconst (-1), 1) := by decide +kernel
theorem dX2_nextPlace_36 : decode cX2_nextPlace 36 = .ok (.ireturn, 1) := by decide +kernel
theorem dX2_canStandAt_0 : decode cX2_canStandAt 0 = .ok (.aload_n 1, 1) := by decide +kernel
theorem dX2_canStandAt_1 : decode cX2_canStandAt 1 = .ok (.iload_n 2, 1) := by decide +kernel
theorem dX2_canStandAt_2 : decode cX2_canStandAt 2 = .ok (.aload_n 0, 1) := by decide +kernel
theorem dX2_canStandAt_3 : decode cX2_canStandAt 3 = .ok (.getfield 22, 3) := by decide +kernel
theorem dX2_canStandAt_6 : decode cX2_canStandAt 6 = .ok (.invokevirtual 74, 3) := by decide +kernel
theorem dX2_canStandAt_9 : decode cX2_canStandAt 9 = .ok (.iload_n 3, 1) := by decide +kernel
theorem dX2_canStandAt_10 : decode cX2_canStandAt 10 = .ok (.ishr, 1) := by decide +kernel
theorem dX2_canStandAt_11 : decode cX2_canStandAt 11 = .ok (.iconst 1, 1) := by decide +kernel
theorem dX2_canStandAt_12 : decode cX2_canStandAt 12 = .ok (.iand, 1) := by decide +kernel
theorem dX2_canStandAt_13 : decode cX2_canStandAt 13 = .ok (.ifCond .ne 5, 3) := by decide +kernel
theorem dX2_canStandAt_16 : decode cX2_canStandAt 16 = .ok (.iconst 0, 1) := by decide +kernel
theorem dX2_canStandAt_17 : decode cX2_canStandAt 17 = .ok (.ireturn, 1) := by decide +kernel
theorem dX2_canStandAt_18 : decode cX2_canStandAt 18 = .ok (.aload_n 1, 1) := by decide +kernel
theorem dX2_canStandAt_19 : decode cX2_canStandAt 19 = .ok (.iload_n 2, 1) := by decide +kernel
theorem dX2_canStandAt_20 : decode cX2_canStandAt 20 = .ok (.invokevirtual 67, 3) := by decide +kernel
theorem dX2_canStandAt_23 : decode cX2_canStandAt 23 = .ok (.istore 4, 2) := by decide +kernel
theorem dX2_canStandAt_25 : decode cX2_canStandAt 25 = .ok (.iload_n 3, 1) := by decide +kernel
theorem dX2_canStandAt_26 : decode cX2_canStandAt 26 = .ok (.ifCond .eq 45, 3) := by decide +kernel
theorem dX2_canStandAt_29 : decode cX2_canStandAt 29 = .ok (.iload 4, 2) := by decide +kernel
theorem dX2_canStandAt_31 : decode cX2_canStandAt 31 = .ok (.aload_n 1, 1) := by decide +kernel
theorem dX2_canStandAt_32 : decode cX2_canStandAt 32 = .ok (.aload_n 0, 1) := by decide +kernel
theorem dX2_canStandAt_33 : decode cX2_canStandAt 33 = .ok (.getfield 32, 3) := by decide +kernel
theorem dX2_canStandAt_36 : decode cX2_canStandAt 36 = .ok (.iload_n 3, 1) := by decide +kernel
theorem dX2_canStandAt_37 : decode cX2_canStandAt 37 = .ok (.iconst 1, 1) := by decide +kernel
theorem dX2_canStandAt_38 : decode cX2_canStandAt 38 = .ok (.isub, 1) := by decide +kernel
theorem dX2_canStandAt_39 : decode cX2_canStandAt 39 = .ok (.iaload, 1) := by decide +kernel
theorem dX2_canStandAt_40 : decode cX2_canStandAt 40 = .ok (.invokevirtual 67, 3) := by decide +kernel
theorem dX2_canStandAt_43 : decode cX2_canStandAt 43 = .ok (.isub, 1) := by decide +kernel
theorem dX2_canStandAt_44 : decode cX2_canStandAt 44 = .ok (.aload_n 0, 1) := by decide +kernel
theorem dX2_canStandAt_45 : decode cX2_canStandAt 45 = .ok (.getfield 15, 3) := by decide +kernel
theorem dX2_canStandAt_48 : decode cX2_canStandAt 48 = .ok (.if_icmp .gt 27, 3) := by decide +kernel
theorem dX2_canStandAt_51 : decode cX2_canStandAt 51 = .ok (.iload 4, 2) := by decide +kernel
theorem dX2_canStandAt_53 : decode cX2_canStandAt 53 = .ok (.aload_n 1, 1) := by decide +kernel
theorem dX2_canStandAt_54 : decode cX2_canStandAt 54 = .ok (.aload_n 0, 1) := by decide +kernel
theorem dX2_canStandAt_55 : decode cX2_canStandAt 55 = .ok (.getfield 32, 3) := by decide +kernel
theorem dX2_canStandAt_58 : decode cX2_canStandAt 58 = .ok (.iconst 0, 1) := by decide +kernel
theorem dX2_canStandAt_59 : decode cX2_canStandAt 59 = .ok (.iaload, 1) := by decide +kernel
theorem dX2_canStandAt_60 : decode cX2_canStandAt 60 = .ok (.invokevirtual 67, 3) := by decide +kernel
theorem dX2_canStandAt_63 : decode cX2_canStandAt 63 = .ok (.isub, 1) := by decide +kernel
theorem dX2_canStandAt_64 : decode cX2_canStandAt 64 = .ok (.aload_n 0, 1) := by decide +kernel
theorem dX2_canStandAt_65 : decode cX2_canStandAt 65 = .ok (.getfield 19, 3) := by decide +kernel
theorem dX2_canStandAt_68 : decode cX2_canStandAt 68 = .ok (.if_icmp .gt 7, 3) := by decide +kernel
theorem dX2_canStandAt_71 : decode cX2_canStandAt 71 = .ok (.iconst 1, 1) := by decide +kernel
theorem dX2_canStandAt_72 : decode cX2_canStandAt 72 = .ok (.goto 4, 3) := by decide +kernel
theorem dX2_canStandAt_75 : decode cX2_canStandAt 75 = .ok (.iconst 0, 1) := by decide +kernel
theorem dX2_canStandAt_76 : decode cX2_canStandAt 76 = .ok (.ireturn, 1) := by decide +kernel
theorem dX3_of_0 : decode cX3_of 0 = .ok (.iload_n 0, 1) := by decide +kernel
theorem dX3_of_1 : decode cX3_of 1 = .ok (.invokestatic 9, 3) := by decide +kernel
theorem dX3_of_4 : decode cX3_of 4 = .ok (.ifCond .eq 24, 3) := by decide +kernel
theorem dX3_of_7 : decode cX3_of 7 = .ok (.iload_n 1, 1) := by decide +kernel
theorem dX3_of_8 : decode cX3_of 8 = .ok (.invokestatic 13, 3) := by decide +kernel
theorem dX3_of_11 : decode cX3_of 11 = .ok (.ifCond .eq 17, 3) := by decide +kernel
theorem dX3_of_14 : decode cX3_of 14 = .ok (.iload_n 2, 1) := by decide +kernel
theorem dX3_of_15 : decode cX3_of 15 = .ok (.invokestatic 13, 3) := by decide +kernel
theorem dX3_of_18 : decode cX3_of 18 = .ok (.ifCond .eq 10, 3) := by decide +kernel
theorem dX3_of_21 : decode cX3_of 21 = .ok (.iload_n 3, 1) := by decide +kernel
theorem dX3_of_22 : decode cX3_of 22 = .ok (.invokestatic 13, 3) := by decide +kernel
theorem dX3_of_25 : decode cX3_of 25 = .ok (.ifCond .ne 5, 3) := by decide +kernel
theorem dX3_of_28 : decode cX3_of 28 = .ok (.iconst (-1), 1) := by decide +kernel
theorem dX3_of_29 : decode cX3_of 29 = .ok (.ireturn, 1) := by decide +kernel
theorem dX3_of_30 : decode cX3_of 30 = .ok (.iload_n 1, 1) := by decide +kernel
theorem dX3_of_31 : decode cX3_of 31 = .ok (.iconst (-1), 1) := by decide +kernel
theorem dX3_of_32 : decode cX3_of 32 = .ok (.if_icmp .ne 8, 3) := by decide +kernel
theorem dX3_of_35 : decode cX3_of 35 = .ok (.iload_n 2, 1) := by decide +kernel
theorem dX3_of_36 : decode cX3_of 36 = .ok (.iconst (-1), 1) := by decide +kernel
theorem dX3_of_37 : decode cX3_of 37 = .ok (.if_icmp .ne 13, 3) := by decide +kernel
theorem dX3_of_40 : decode cX3_of 40 = .ok (.iload_n 2, 1) := by decide +kernel
theorem dX3_of_41 : decode cX3_of 41 = .ok (.iconst (-1), 1) := by decide +kernel
theorem dX3_of_42 : decode cX3_of 42 = .ok (.if_icmp .ne 10, 3) := by decide +kernel
theorem dX3_of_45 : decode cX3_of 45 = .ok (.iload_n 3, 1) := by decide +kernel
theorem dX3_of_46 : decode cX3_of 46 = .ok (.iconst (-1), 1) := by decide +kernel
theorem dX3_of_47 : decode cX3_of 47 = .ok (.if_icmp .eq 5, 3) := by decide +kernel
theorem dX3_of_50 : decode cX3_of 50 = .ok (.iconst (-1), 1) := by decide +kernel
theorem dX3_of_51 : decode cX3_of 51 = .ok (.ireturn, 1) := by decide +kernel
theorem dX3_of_52 : decode cX3_of 52 = .ok (.iconst 1, 1) := by decide +kernel
theorem dX3_of_53 : decode cX3_of 53 = .ok (.iload_n 0, 1) := by decide +kernel
theorem dX3_of_54 : decode cX3_of 54 = .ok (.invokestatic 18, 3) := by decide +kernel
theorem dX3_of_57 : decode cX3_of 57 = .ok (.iload_n 1, 1) := by decide +kernel
theorem dX3_of_58 : decode cX3_of 58 = .ok (.invokestatic 18, 3) := by decide +kernel
theorem dX3_of_61 : decode cX3_of 61 = .ok (.iload_n 2, 1) := by decide +kernel
theorem dX3_of_62 : decode cX3_of 62 = .ok (.invokestatic 18, 3) := by decide +kernel
theorem dX3_of_65 : decode cX3_of 65 = .ok (.iload_n 3, 1) := by decide +kernel
theorem dX3_of_66 : decode cX3_of 66 = .ok (.invokestatic 18, 3) := by decide +kernel
theorem dX3_of_69 : decode cX3_of 69 = .ok (.ireturn, 1) := by decide +kernel
theorem dX3_isKindOrNone_0 : decode cX3_isKindOrNone 0 = .ok (.iload_n 0, 1) := by decide +kernel
theorem dX3_isKindOrNone_1 : decode cX3_isKindOrNone 1 = .ok (.iconst (-1), 1) := by decide +kernel
theorem dX3_isKindOrNone_2 : decode cX3_isKindOrNone 2 = .ok (.if_icmp .eq 10, 3) := by decide +kernel
theorem dX3_isKindOrNone_5 : decode cX3_isKindOrNone 5 = .ok (.iload_n 0, 1) := by decide +kernel
theorem dX3_isKindOrNone_6 : decode cX3_isKindOrNone 6 = .ok (.invokestatic 9, 3) := by decide +kernel
theorem dX3_isKindOrNone_9 : decode cX3_isKindOrNone 9 = .ok (.ifCond .eq 7, 3) := by decide +kernel
theorem dX3_isKindOrNone_12 : decode cX3_isKindOrNone 12 = .ok (.iconst 1, 1) := by decide +kernel
theorem dX3_isKindOrNone_13 : decode cX3_isKindOrNone 13 = .ok (.goto 4, 3) := by decide +kernel
theorem dX3_isKindOrNone_16 : decode cX3_isKindOrNone 16 = .ok (.iconst 0, 1) := by decide +kernel
theorem dX3_isKindOrNone_17 : decode cX3_isKindOrNone 17 = .ok (.ireturn, 1) := by decide +kernel
theorem dX3_lengthen_0 : decode cX3_lengthen 0 = .ok (.iload_n 1, 1) := by decide +kernel
theorem dX3_lengthen_1 : decode cX3_lengthen 1 = .ok (.iconst (-1), 1) := by decide +kernel
theorem dX3_lengthen_2 : decode cX3_lengthen 2 = .ok (.if_icmp .ne 7, 3) := by decide +kernel
theorem dX3_lengthen_5 : decode cX3_lengthen 5 = .ok (.iload_n 0, 1) := by decide +kernel
theorem dX3_lengthen_6 : decode cX3_lengthen 6 = .ok (.goto 9, 3) := by decide +kernel
theorem dX3_lengthen_9 : decode cX3_lengthen 9 = .ok (.iload_n 0, 1) := by decide +kernel
theorem dX3_lengthen_10 : decode cX3_lengthen 10 = .ok (.iconst 0, 1) := by decide +kernel
theorem dX3_lengthen_11 : decode cX3_lengthen 11 = .ok (.iload_n 1, 1) := by decide +kernel
theorem dX3_lengthen_12 : decode cX3_lengthen 12 = .ok (.invokestatic 22, 3) := by decide +kernel
theorem dX3_lengthen_15 : decode cX3_lengthen 15 = .ok (.ireturn, 1) := by decide +kernel
theorem dX3_length_0 : decode cX3_length 0 = .ok (.iconst 0, 1) := by decide +kernel
theorem dX3_length_1 : decode cX3_length 1 = .ok (.istore_n 1, 1) := by decide +kernel
theorem dX3_length_2 : decode cX3_length 2 = .ok (.iload_n 1, 1) := by decide +kernel
theorem dX3_length_3 : decode cX3_length 3 = .ok (.iconst 4, 1) := by decide +kernel
theorem dX3_length_4 : decode cX3_length 4 = .ok (.if_icmp .ge 19, 3) := by decide +kernel
theorem dX3_length_7 : decode cX3_length 7 = .ok (.iload_n 0, 1) := by decide +kernel
theorem dX3_length_8 : decode cX3_length 8 = .ok (.iconst 4, 1) := by decide +kernel
theorem dX3_length_9 : decode cX3_length 9 = .ok (.iload_n 1, 1) := by decide +kernel
theorem dX3_length_10 : decode cX3_length 10 = .ok (.iconst 1, 1) := by decide +kernel
theorem dX3_length_11 : decode cX3_length 11 = .ok (.iadd, 1) := by decide +kernel
theorem dX3_length_12 : decode cX3_length 12 = .ok (.imul, 1) := by decide +kernel
theorem dX3_length_13 : decode cX3_length 13 = .ok (.ishr, 1) := by decide +kernel
theorem dX3_length_14 : decode cX3_length 14 = .ok (.ifCond .le 9, 3) := by decide +kernel
theorem dX3_length_17 : decode cX3_length 17 = .ok (.iinc 1 1, 3) := by decide +kernel
theorem dX3_length_20 : decode cX3_length 20 = .ok (.goto (-18), 3) := by decide +kernel
theorem dX3_length_23 : decode cX3_length 23 = .ok (.iload_n 1, 1) := by decide +kernel
theorem dX3_length_24 : decode cX3_length 24 = .ok (.ireturn, 1) := by decide +kernel
theorem dX3_item_0 : decode cX3_item 0 = .ok (.iload_n 0, 1) := by decide +kernel
theorem dX3_item_1 : decode cX3_item 1 = .ok (.invokestatic 26, 3) := by decide +kernel
theorem dX3_item_4 : decode cX3_item 4 = .ok (.istore_n 2, 1) := by decide +kernel
theorem dX3_item_5 : decode cX3_item 5 = .ok (.iload_n 1, 1) := by decide +kernel
theorem dX3_item_6 : decode cX3_item 6 = .ok (.ifCond .lt 8, 3) := by decide +kernel
theorem dX3_item_9 : decode cX3_item 9 = .ok (.iload_n 1, 1) := by decide +kernel
theorem dX3_item_10 : decode cX3_item 10 = .ok (.iload_n 2, 1) := by decide +kernel
theorem dX3_item_11 : decode cX3_item 11 = .ok (.if_icmp .lt 7, 3) := by decide +kernel
theorem dX3_item_14 : decode cX3_item 14 = .ok (.iconst (-1), 1) := by decide +kernel
theorem dX3_item_15 : decode cX3_item 15 = .ok (.goto 15, 3) := by decide +kernel
theorem dX3_item_18 : decode cX3_item 18 = .ok (.iload_n 0, 1) := by decide +kernel
theorem dX3_item_19 : decode cX3_item 19 = .ok (.iconst 4, 1) := by decide +kernel
theorem dX3_item_20 : decode cX3_item 20 = .ok (.iload_n 2, 1) := by decide +kernel
theorem dX3_item_21 : decode cX3_item 21 = .ok (.iconst 1, 1) := by decide +kernel
theorem dX3_item_22 : decode cX3_item 22 = .ok (.isub, 1) := by decide +kernel
theorem dX3_item_23 : decode cX3_item 23 = .ok (.iload_n 1, 1) := by decide +kernel
theorem dX3_item_24 : decode cX3_item 24 = .ok (.isub, 1) := by decide +kernel
theorem dX3_item_25 : decode cX3_item 25 = .ok (.imul, 1) := by decide +kernel
theorem dX3_item_26 : decode cX3_item 26 = .ok (.ishr, 1) := by decide +kernel
theorem dX3_item_27 : decode cX3_item 27 = .ok (.bipush 15, 2) := by decide +kernel
theorem dX3_item_29 : decode cX3_item 29 = .ok (.iand, 1) := by decide +kernel
theorem dX3_item_30 : decode cX3_item 30 = .ok (.ireturn, 1) := by decide +kernel
theorem dX3_lastItem_0 : decode cX3_lastItem 0 = .ok (.iload_n 0, 1) := by decide +kernel
theorem dX3_lastItem_1 : decode cX3_lastItem 1 = .ok (.bipush 15, 2) := by decide +kernel
theorem dX3_lastItem_3 : decode cX3_lastItem 3 = .ok (.iand, 1) := by decide +kernel
theorem dX3_lastItem_4 : decode cX3_lastItem 4 = .ok (.ireturn, 1) := by decide +kernel
theorem dX3_withoutLast_0 : decode cX3_withoutLast 0 = .ok (.iload_n 0, 1) := by decide +kernel
theorem dX3_withoutLast_1 : decode cX3_withoutLast 1 = .ok (.iconst 4, 1) := by decide +kernel
theorem dX3_withoutLast_2 : decode cX3_withoutLast 2 = .ok (.ishr, 1) := by decide +kernel
theorem dX3_withoutLast_3 : decode cX3_withoutLast 3 = .ok (.ireturn, 1) := by decide +kernel
theorem dX3_insert_0 : decode cX3_insert 0 = .ok (.iconst 4, 1) := by decide +kernel
theorem dX3_insert_1 : decode cX3_insert 1 = .ok (.iload_n 1, 1) := by decide +kernel
theorem dX3_insert_2 : decode cX3_insert 2 = .ok (.imul, 1) := by decide +kernel
theorem dX3_insert_3 : decode cX3_insert 3 = .ok (.istore_n 3, 1) := by decide +kernel
theorem dX3_insert_4 : decode cX3_insert 4 = .ok (.iload_n 0, 1) := by decide +kernel
theorem dX3_insert_5 : decode cX3_insert 5 = .ok (.iconst 1, 1) := by decide +kernel
theorem dX3_insert_6 : decode cX3_insert 6 = .ok (.iload_n 3, 1) := by decide +kernel
theorem dX3_insert_7 : decode cX3_insert 7 = .ok (.ishl, 1) := by decide +kernel
theorem dX3_insert_8 : decode cX3_insert 8 = .ok (.iconst 1, 1) := by decide +kernel
theorem dX3_insert_9 : decode cX3_insert 9 = .ok (.isub, 1) := by decide +kernel
theorem dX3_insert_10 : decode cX3_insert 10 = .ok (.iand, 1) := by decide +kernel
theorem dX3_insert_11 : decode cX3_insert 11 = .ok (.istore 4, 2) := by decide +kernel
theorem dX3_insert_13 : decode cX3_insert 13 = .ok (.iload_n 0, 1) := by decide +kernel
theorem dX3_insert_14 : decode cX3_insert 14 = .ok (.iload_n 3, 1) := by decide +kernel
theorem dX3_insert_15 : decode cX3_insert 15 = .ok (.ishr, 1) := by decide +kernel
theorem dX3_insert_16 : decode cX3_insert 16 = .ok (.iconst 4, 1) := by decide +kernel
theorem dX3_insert_17 : decode cX3_insert 17 = .ok (.ishl, 1) := by decide +kernel
theorem dX3_insert_18 : decode cX3_insert 18 = .ok (.iload_n 2, 1) := by decide +kernel
theorem dX3_insert_19 : decode cX3_insert 19 = .ok (.ior, 1) := by decide +kernel
theorem dX3_insert_20 : decode cX3_insert 20 = .ok (.iload_n 3, 1) := by decide +kernel
theorem dX3_insert_21 : decode cX3_insert 21 = .ok (.ishl, 1) := by decide +kernel
theorem dX3_insert_22 : decode cX3_insert 22 = .ok (.iload 4, 2) := by decide +kernel
theorem dX3_insert_24 : decode cX3_insert 24 = .ok (.ior, 1) := by decide +kernel
theorem dX3_insert_25 : decode cX3_insert 25 = .ok (.ireturn, 1) := by decide +kernel
theorem dX3_replace_0 : decode cX3_replace 0 = .ok (.iconst 4, 1) := by decide +kernel
theorem dX3_replace_1 : decode cX3_replace 1 = .ok (.iload_n 0, 1) := by decide +kernel
theorem dX3_replace_2 : decode cX3_replace 2 = .ok (.invokestatic 26, 3) := by decide +kernel
theorem dX3_replace_5 : decode cX3_replace 5 = .ok (.iconst 1, 1) := by decide +kernel
theorem dX3_replace_6 : decode cX3_replace 6 = .ok (.isub, 1) := by decide +kernel
theorem dX3_replace_7 : decode cX3_replace 7 = .ok (.iload_n 1, 1) := by decide +kernel
theorem dX3_replace_8 : decode cX3_replace 8 = .ok (.isub, 1) := by decide +kernel
theorem dX3_replace_9 : decode cX3_replace 9 = .ok (.imul, 1) := by decide +kernel
theorem dX3_replace_10 : decode cX3_replace 10 = .ok (.istore_n 3, 1) := by decide +kernel
theorem dX3_replace_11 : decode cX3_replace 11 = .ok (.iload_n 0, 1) := by decide +kernel
theorem dX3_replace_12 : decode cX3_replace 12 = .ok (.bipush 15, 2) := by decide +kernel
theorem dX3_replace_14 : decode cX3_replace 14 = .ok (.iload_n 3, 1) := by decide +kernel
theorem dX3_replace_15 : decode cX3_replace 15 = .ok (.ishl, 1) := by decide +kernel
theorem dX3_replace_16 : decode cX3_replace 16 = .ok (.iconst (-1), 1) := by decide +kernel
theorem dX3_replace_17 : decode cX3_replace 17 = .ok (.ixor, 1) := by decide +kernel
theorem dX3_replace_18 : decode cX3_replace 18 = .ok (.iand, 1) := by decide +kernel
theorem dX3_replace_19 : decode cX3_replace 19 = .ok (.iload_n 2, 1) := by decide +kernel
theorem dX3_replace_20 : decode cX3_replace 20 = .ok (.iload_n 3, 1) := by decide +kernel
theorem dX3_replace_21 : decode cX3_replace 21 = .ok (.ishl, 1) := by decide +kernel
theorem dX3_replace_22 : decode cX3_replace 22 = .ok (.ior, 1) := by decide +kernel
theorem dX3_replace_23 : decode cX3_replace 23 = .ok (.ireturn, 1) := by decide +kernel
theorem dX4_init_0 : decode cX4_init 0 = .ok (.aload_n 0, 1) := by decide +kernel
theorem dX4_init_1 : decode cX4_init 1 = .ok (.invokespecial 3, 3) := by decide +kernel
theorem dX4_init_4 : decode cX4_init 4 = .ok (.aload_n 0, 1) := by decide +kernel
theorem dX4_init_5 : decode cX4_init 5 = .ok (.bipush 30, 2) := by decide +kernel
theorem dX4_init_7 : decode cX4_init 7 = .ok (.newarray .int, 2) := by decide +kernel
theorem dX4_init_9 : decode cX4_init 9 = .ok (.putfield 9, 3) := by decide +kernel
theorem dX4_init_12 : decode cX4_init 12 = .ok (.aload_n 0, 1) := by decide +kernel
theorem dX4_init_13 : decode cX4_init 13 = .ok (.bipush 30, 2) := by decide +kernel
theorem dX4_init_15 : decode cX4_init 15 = .ok (.newarray .int, 2) := by decide +kernel
theorem dX4_init_17 : decode cX4_init 17 = .ok (.putfield 15, 3) := by decide +kernel
theorem dX4_init_20 : decode cX4_init 20 = .ok (.return_, 1) := by decide +kernel
theorem dX4_begin_0 : decode cX4_begin 0 = .ok (.aload_n 0, 1) := by decide +kernel
theorem dX4_begin_1 : decode cX4_begin 1 = .ok (.iload_n 1, 1) := by decide +kernel
theorem dX4_begin_2 : decode cX4_begin 2 = .ok (.putfield 18, 3) := by decide +kernel
theorem dX4_begin_5 : decode cX4_begin 5 = .ok (.aload_n 0, 1) := by decide +kernel
theorem dX4_begin_6 : decode cX4_begin 6 = .ok (.iconst 1, 1) := by decide +kernel
theorem dX4_begin_7 : decode cX4_begin 7 = .ok (.putfield 22, 3) := by decide +kernel
theorem dX4_begin_10 : decode cX4_begin 10 = .ok (.aload_n 0, 1) := by decide +kernel
theorem dX4_begin_11 : decode cX4_begin 11 = .ok (.iconst 0, 1) := by decide +kernel
theorem dX4_begin_12 : decode cX4_begin 12 = .ok (.putfield 26, 3) := by decide +kernel
theorem dX4_begin_15 : decode cX4_begin 15 = .ok (.return_, 1) := by decide +kernel
theorem dX4_append_0 : decode cX4_append 0 = .ok (.aload_n 0, 1) := by decide +kernel
theorem dX4_append_1 : decode cX4_append 1 = .ok (.getfield 26, 3) := by decide +kernel
theorem dX4_append_4 : decode cX4_append 4 = .ok (.bipush 30, 2) := by decide +kernel
theorem dX4_append_6 : decode cX4_append 6 = .ok (.if_icmp .ge 17, 3) := by decide +kernel
theorem dX4_append_9 : decode cX4_append 9 = .ok (.iload_n 1, 1) := by decide +kernel
theorem dX4_append_10 : decode cX4_append 10 = .ok (.aload_n 0, 1) := by decide +kernel
theorem dX4_append_11 : decode cX4_append 11 = .ok (.aload_n 0, 1) := by decide +kernel
theorem dX4_append_12 : decode cX4_append 12 = .ok (.getfield 26, 3) := by decide +kernel
theorem dX4_append_15 : decode cX4_append 15 = .ok (.iconst 1, 1) := by decide +kernel
theorem dX4_append_16 : decode cX4_append 16 = .ok (.isub, 1) := by decide +kernel
theorem dX4_append_17 : decode cX4_append 17 = .ok (.invokevirtual 29, 3) := by decide +kernel
theorem dX4_append_20 : decode cX4_append 20 = .ok (.if_icmp .ge 5, 3) := by decide +kernel
theorem dX4_append_23 : decode cX4_append 23 = .ok (.iconst (-1), 1) := by decide +kernel
theorem dX4_append_24 : decode cX4_append 24 = .ok (.ireturn, 1) := by decide +kernel
theorem dX4_append_25 : decode cX4_append 25 = .ok (.aload_n 0, 1) := by decide +kernel
theorem dX4_append_26 : decode cX4_append 26 = .ok (.getfield 9, 3) := by decide +kernel
theorem dX4_append_29 : decode cX4_append 29 = .ok (.aload_n 0, 1) := by decide +kernel
theorem dX4_append_30 : decode cX4_append 30 = .ok (.getfield 26, 3) := by decide +kernel
theorem dX4_append_33 : decode cX4_append 33 = .ok (.iload_n 1, 1) := by decide +kernel
theorem dX4_append_34 : decode cX4_append 34 = .ok (.iastore, 1) := by decide +kernel
theorem dX4_append_35 : decode cX4_append 35 = .ok (.aload_n 0, 1) := by decide +kernel
theorem dX4_append_36 : decode cX4_append 36 = .ok (.getfield 15, 3) := by decide +kernel
theorem dX4_append_39 : decode cX4_append 39 = .ok (.aload_n 0, 1) := by decide +kernel
theorem dX4_append_40 : decode cX4_append 40 = .ok (.getfield 26, 3) := by decide +kernel
theorem dX4_append_43 : decode cX4_append 43 = .ok (.iload_n 2, 1) := by decide +kernel
theorem dX4_append_44 : decode cX4_append 44 = .ok (.iastore, 1) := by decide +kernel
theorem dX4_append_45 : decode cX4_append 45 = .ok (.aload_n 0, 1) := by decide +kernel
theorem dX4_append_46 : decode cX4_append 46 = .ok (.dup, 1) := by decide +kernel
theorem dX4_append_47 : decode cX4_append 47 = .ok (.getfield 26, 3) := by decide +kernel
theorem dX4_append_50 : decode cX4_append 50 = .ok (.iconst 1, 1) := by decide +kernel
theorem dX4_append_51 : decode cX4_append 51 = .ok (.iadd, 1) := by decide +kernel
theorem dX4_append_52 : decode cX4_append 52 = .ok (.putfield 26, 3) := by decide +kernel
theorem dX4_append_55 : decode cX4_append 55 = .ok (.aload_n 0, 1) := by decide +kernel
theorem dX4_append_56 : decode cX4_append 56 = .ok (.getfield 26, 3) := by decide +kernel
theorem dX4_append_59 : decode cX4_append 59 = .ok (.iconst 1, 1) := by decide +kernel
theorem dX4_append_60 : decode cX4_append 60 = .ok (.isub, 1) := by decide +kernel
theorem dX4_append_61 : decode cX4_append 61 = .ok (.ireturn, 1) := by decide +kernel
theorem dX4_size_0 : decode cX4_size 0 = .ok (.aload_n 0, 1) := by decide +kernel
theorem dX4_size_1 : decode cX4_size 1 = .ok (.getfield 26, 3) := by decide +kernel
theorem dX4_size_4 : decode cX4_size 4 = .ok (.ireturn, 1) := by decide +kernel
theorem dX4_tickAt_0 : decode cX4_tickAt 0 = .ok (.iload_n 1, 1) := by decide +kernel
theorem dX4_tickAt_1 : decode cX4_tickAt 1 = .ok (.ifCond .lt 20, 3) := by decide +kernel
theorem dX4_tickAt_4 : decode cX4_tickAt 4 = .ok (.iload_n 1, 1) := by decide +kernel
theorem dX4_tickAt_5 : decode cX4_tickAt 5 = .ok (.aload_n 0, 1) := by decide +kernel
theorem dX4_tickAt_6 : decode cX4_tickAt 6 = .ok (.getfield 26, 3) := by decide +kernel
theorem dX4_tickAt_9 : decode cX4_tickAt 9 = .ok (.if_icmp .ge 12, 3) := by decide +kernel
theorem dX4_tickAt_12 : decode cX4_tickAt 12 = .ok (.aload_n 0, 1) := by decide +kernel
theorem dX4_tickAt_13 : decode cX4_tickAt 13 = .ok (.getfield 9, 3) := by decide +kernel
theorem dX4_tickAt_16 : decode cX4_tickAt 16 = .ok (.iload_n 1, 1) := by decide +kernel
theorem dX4_tickAt_17 : decode cX4_tickAt 17 = .ok (.iaload, 1) := by decide +kernel
theorem dX4_tickAt_18 : decode cX4_tickAt 18 = .ok (.goto 4, 3) := by decide +kernel
theorem dX4_tickAt_21 : decode cX4_tickAt 21 = .ok (.iconst (-1), 1) := by decide +kernel
theorem dX4_tickAt_22 : decode cX4_tickAt 22 = .ok (.ireturn, 1) := by decide +kernel
theorem dX4_kindAt_0 : decode cX4_kindAt 0 = .ok (.iload_n 1, 1) := by decide +kernel
theorem dX4_kindAt_1 : decode cX4_kindAt 1 = .ok (.ifCond .lt 20, 3) := by decide +kernel
theorem dX4_kindAt_4 : decode cX4_kindAt 4 = .ok (.iload_n 1, 1) := by decide +kernel
theorem dX4_kindAt_5 : decode cX4_kindAt 5 = .ok (.aload_n 0, 1) := by decide +kernel
theorem dX4_kindAt_6 : decode cX4_kindAt 6 = .ok (.getfield 26, 3) := by decide +kernel
theorem dX4_kindAt_9 : decode cX4_kindAt 9 = .ok (.if_icmp .ge 12, 3) := by decide +kernel
theorem dX4_kindAt_12 : decode cX4_kindAt 12 = .ok (.aload_n 0, 1) := by decide +kernel
theorem dX4_kindAt_13 : decode cX4_kindAt 13 = .ok (.getfield 15, 3) := by decide +kernel
theorem dX4_kindAt_16 : decode cX4_kindAt 16 = .ok (.iload_n 1, 1) := by decide +kernel
theorem dX4_kindAt_17 : decode cX4_kindAt 17 = .ok (.iaload, 1) := by decide +kernel
theorem dX4_kindAt_18 : decode cX4_kindAt 18 = .ok (.goto 4, 3) := by decide +kernel
theorem dX4_kindAt_21 : decode cX4_kindAt 21 = .ok (.iconst (-1), 1) := by decide +kernel
theorem dX4_kindAt_22 : decode cX4_kindAt 22 = .ok (.ireturn, 1) := by decide +kernel
theorem dX4_bitsAt_0 : decode cX4_bitsAt 0 = .ok (.iload_n 1, 1) := by decide +kernel
theorem dX4_bitsAt_1 : decode cX4_bitsAt 1 = .ok (.ifCond .lt 22, 3) := by decide +kernel
theorem dX4_bitsAt_4 : decode cX4_bitsAt 4 = .ok (.iload_n 1, 1) := by decide +kernel
theorem dX4_bitsAt_5 : decode cX4_bitsAt 5 = .ok (.aload_n 0, 1) := by decide +kernel
theorem dX4_bitsAt_6 : decode cX4_bitsAt 6 = .ok (.getfield 26, 3) := by decide +kernel
theorem dX4_bitsAt_9 : decode cX4_bitsAt 9 = .ok (.if_icmp .ge 14, 3) := by decide +kernel
theorem dX4_bitsAt_12 : decode cX4_bitsAt 12 = .ok (.aload_n 2, 1) := by decide +kernel
theorem dX4_bitsAt_13 : decode cX4_bitsAt 13 = .ok (.aload_n 0, 1) := by decide +kernel
theorem dX4_bitsAt_14 : decode cX4_bitsAt 14 = .ok (.getfield 15, 3) := by decide +kernel
theorem dX4_bitsAt_17 : decode cX4_bitsAt 17 = .ok (.iload_n 1, 1) := by decide +kernel
theorem dX4_bitsAt_18 : decode cX4_bitsAt 18 = .ok (.iaload, 1) := by decide +kernel
theorem dX4_bitsAt_19 : decode cX4_bitsAt 19 = .ok (.iaload, 1) := by decide +kernel
theorem dX4_bitsAt_20 : decode cX4_bitsAt 20 = .ok (.goto 4, 3) := by decide +kernel
theorem dX4_bitsAt_23 : decode cX4_bitsAt 23 = .ok (.iconst 0, 1) := by decide +kernel
theorem dX4_bitsAt_24 : decode cX4_bitsAt 24 = .ok (.ireturn, 1) := by decide +kernel
theorem dX4_howMany_0 : decode cX4_howMany 0 = .ok (.iconst 0, 1) := by decide +kernel
theorem dX4_howMany_1 : decode cX4_howMany 1 = .ok (.istore_n 3, 1) := by decide +kernel
theorem dX4_howMany_2 : decode cX4_howMany 2 = .ok (.iconst 0, 1) := by decide +kernel
end
section
theorem dX4_howMany_3 : decode cX4_howMany 3 = .ok (.istore 4, 2) := by decide +kernel
theorem dX4_howMany_5 : decode cX4_howMany 5 = .ok (.iload 4, 2) := by decide +kernel
theorem dX4_howMany_7 : decode cX4_howMany 7 = .ok (.aload_n 0, 1) := by decide +kernel
theorem dX4_howMany_8 : decode cX4_howMany 8 = .ok (.getfield 26, 3) := by decide +kernel
theorem dX4_howMany_11 : decode cX4_howMany 11 = .ok (.if_icmp .ge 26, 3) := by decide +kernel
theorem dX4_howMany_14 : decode cX4_howMany 14 = .ok (.iload_n 3, 1) := by decide +kernel
theorem dX4_howMany_15 : decode cX4_howMany 15 = .ok (.aload_n 0, 1) := by decide +kernel
theorem dX4_howMany_16 : decode cX4_howMany 16 = .ok (.iload 4, 2) := by decide +kernel
theorem dX4_howMany_18 : decode cX4_howMany 18 = .ok (.aload_n 1, 1) := by decide +kernel
theorem dX4_howMany_19 : decode cX4_howMany 19 = .ok (.getfield 33, 3) := by decide +kernel
theorem dX4_howMany_22 : decode cX4_howMany 22 = .ok (.invokevirtual 38, 3) := by decide +kernel
theorem dX4_howMany_25 : decode cX4_howMany 25 = .ok (.iload_n 2, 1) := by decide +kernel
theorem dX4_howMany_26 : decode cX4_howMany 26 = .ok (.ishr, 1) := by decide +kernel
theorem dX4_howMany_27 : decode cX4_howMany 27 = .ok (.iconst 1, 1) := by decide +kernel
theorem dX4_howMany_28 : decode cX4_howMany 28 = .ok (.iand, 1) := by decide +kernel
theorem dX4_howMany_29 : decode cX4_howMany 29 = .ok (.iadd, 1) := by decide +kernel
theorem dX4_howMany_30 : decode cX4_howMany 30 = .ok (.istore_n 3, 1) := by decide +kernel
theorem dX4_howMany_31 : decode cX4_howMany 31 = .ok (.iinc 4 1, 3) := by decide +kernel
theorem dX4_howMany_34 : decode cX4_howMany 34 = .ok (.goto (-29), 3) := by decide +kernel
theorem dX4_howMany_37 : decode cX4_howMany 37 = .ok (.iload_n 3, 1) := by decide +kernel
theorem dX4_howMany_38 : decode cX4_howMany 38 = .ok (.ireturn, 1) := by decide +kernel
theorem dX5_init_0 : decode cX5_init 0 = .ok (.aload_n 0, 1) := by decide +kernel
theorem dX5_init_1 : decode cX5_init 1 = .ok (.invokespecial 1, 3) := by decide +kernel
theorem dX5_init_4 : decode cX5_init 4 = .ok (.aload_n 0, 1) := by decide +kernel
theorem dX5_init_5 : decode cX5_init 5 = .ok (.new 7, 3) := by decide +kernel
theorem dX5_init_8 : decode cX5_init 8 = .ok (.dup, 1) := by decide +kernel
theorem dX5_init_9 : decode cX5_init 9 = .ok (.invokespecial 9, 3) := by decide +kernel
theorem dX5_init_12 : decode cX5_init 12 = .ok (.putfield 10, 3) := by decide +kernel
theorem dX5_init_15 : decode cX5_init 15 = .ok (.aload_n 0, 1) := by decide +kernel
theorem dX5_init_16 : decode cX5_init 16 = .ok (.new 16, 3) := by decide +kernel
theorem dX5_init_19 : decode cX5_init 19 = .ok (.dup, 1) := by decide +kernel
theorem dX5_init_20 : decode cX5_init 20 = .ok (.aload_n 0, 1) := by decide +kernel
theorem dX5_init_21 : decode cX5_init 21 = .ok (.getfield 10, 3) := by decide +kernel
theorem dX5_init_24 : decode cX5_init 24 = .ok (.invokespecial 18, 3) := by decide +kernel
theorem dX5_init_27 : decode cX5_init 27 = .ok (.putfield 21, 3) := by decide +kernel
theorem dX5_init_30 : decode cX5_init 30 = .ok (.aload_n 0, 1) := by decide +kernel
theorem dX5_init_31 : decode cX5_init 31 = .ok (.new 25, 3) := by decide +kernel
theorem dX5_init_34 : decode cX5_init 34 = .ok (.dup, 1) := by decide +kernel
theorem dX5_init_35 : decode cX5_init 35 = .ok (.invokespecial 27, 3) := by decide +kernel
theorem dX5_init_38 : decode cX5_init 38 = .ok (.putfield 28, 3) := by decide +kernel
theorem dX5_init_41 : decode cX5_init 41 = .ok (.aload_n 0, 1) := by decide +kernel
theorem dX5_init_42 : decode cX5_init 42 = .ok (.bipush 24, 2) := by decide +kernel
theorem dX5_init_44 : decode cX5_init 44 = .ok (.anewarray 32, 3) := by decide +kernel
theorem dX5_init_47 : decode cX5_init 47 = .ok (.putfield 34, 3) := by decide +kernel
theorem dX5_init_50 : decode cX5_init 50 = .ok (.iconst 0, 1) := by decide +kernel
theorem dX5_init_51 : decode cX5_init 51 = .ok (.istore_n 1, 1) := by decide +kernel
theorem dX5_init_52 : decode cX5_init 52 = .ok (.iload_n 1, 1) := by decide +kernel
theorem dX5_init_53 : decode cX5_init 53 = .ok (.bipush 24, 2) := by decide +kernel
theorem dX5_init_55 : decode cX5_init 55 = .ok (.if_icmp .ge 22, 3) := by decide +kernel
theorem dX5_init_58 : decode cX5_init 58 = .ok (.aload_n 0, 1) := by decide +kernel
theorem dX5_init_59 : decode cX5_init 59 = .ok (.getfield 34, 3) := by decide +kernel
theorem dX5_init_62 : decode cX5_init 62 = .ok (.iload_n 1, 1) := by decide +kernel
theorem dX5_init_63 : decode cX5_init 63 = .ok (.new 32, 3) := by decide +kernel
theorem dX5_init_66 : decode cX5_init 66 = .ok (.dup, 1) := by decide +kernel
theorem dX5_init_67 : decode cX5_init 67 = .ok (.invokespecial 38, 3) := by decide +kernel
theorem dX5_init_70 : decode cX5_init 70 = .ok (.aastore, 1) := by decide +kernel
theorem dX5_init_71 : decode cX5_init 71 = .ok (.iinc 1 1, 3) := by decide +kernel
theorem dX5_init_74 : decode cX5_init 74 = .ok (.goto (-22), 3) := by decide +kernel
theorem dX5_init_77 : decode cX5_init 77 = .ok (.aload_n 0, 1) := by decide +kernel
theorem dX5_init_78 : decode cX5_init 78 = .ok (.bipush 16, 2) := by decide +kernel
theorem dX5_init_80 : decode cX5_init 80 = .ok (.newarray .int, 2) := by decide +kernel
theorem dX5_init_82 : decode cX5_init 82 = .ok (.putfield 39, 3) := by decide +kernel
theorem dX5_init_85 : decode cX5_init 85 = .ok (.aload_n 0, 1) := by decide +kernel
theorem dX5_init_86 : decode cX5_init 86 = .ok (.iconst 0, 1) := by decide +kernel
theorem dX5_init_87 : decode cX5_init 87 = .ok (.putfield 43, 3) := by decide +kernel
theorem dX5_init_90 : decode cX5_init 90 = .ok (.return_, 1) := by decide +kernel
theorem dX5_under_0 : decode cX5_under 0 = .ok (.iload_n 1, 1) := by decide +kernel
theorem dX5_under_1 : decode cX5_under 1 = .ok (.invokestatic 47, 3) := by decide +kernel
theorem dX5_under_4 : decode cX5_under 4 = .ok (.ifCond .eq 31, 3) := by decide +kernel
theorem dX5_under_7 : decode cX5_under 7 = .ok (.iload_n 2, 1) := by decide +kernel
theorem dX5_under_8 : decode cX5_under 8 = .ok (.iconst (-1), 1) := by decide +kernel
theorem dX5_under_9 : decode cX5_under 9 = .ok (.if_icmp .eq 10, 3) := by decide +kernel
theorem dX5_under_12 : decode cX5_under 12 = .ok (.iload_n 2, 1) := by decide +kernel
theorem dX5_under_13 : decode cX5_under 13 = .ok (.invokestatic 47, 3) := by decide +kernel
theorem dX5_under_16 : decode cX5_under 16 = .ok (.ifCond .eq 19, 3) := by decide +kernel
theorem dX5_under_19 : decode cX5_under 19 = .ok (.aload_n 0, 1) := by decide +kernel
theorem dX5_under_20 : decode cX5_under 20 = .ok (.getfield 10, 3) := by decide +kernel
theorem dX5_under_23 : decode cX5_under 23 = .ok (.iload_n 1, 1) := by decide +kernel
theorem dX5_under_24 : decode cX5_under 24 = .ok (.iload_n 2, 1) := by decide +kernel
theorem dX5_under_25 : decode cX5_under 25 = .ok (.invokevirtual 51, 3) := by decide +kernel
theorem dX5_under_28 : decode cX5_under 28 = .ok (.ifCond .eq 7, 3) := by decide +kernel
theorem dX5_under_31 : decode cX5_under 31 = .ok (.iconst 1, 1) := by decide +kernel
theorem dX5_under_32 : decode cX5_under 32 = .ok (.goto 4, 3) := by decide +kernel
theorem dX5_under_35 : decode cX5_under 35 = .ok (.iconst 0, 1) := by decide +kernel
theorem dX5_under_36 : decode cX5_under 36 = .ok (.ireturn, 1) := by decide +kernel
theorem dX5_row_0 : decode cX5_row 0 = .ok (.iload_n 1, 1) := by decide +kernel
theorem dX5_row_1 : decode cX5_row 1 = .ok (.ifCond .lt 17, 3) := by decide +kernel
theorem dX5_row_4 : decode cX5_row 4 = .ok (.iload_n 1, 1) := by decide +kernel
theorem dX5_row_5 : decode cX5_row 5 = .ok (.iconst 2, 1) := by decide +kernel
theorem dX5_row_6 : decode cX5_row 6 = .ok (.if_icmp .ge 12, 3) := by decide +kernel
theorem dX5_row_9 : decode cX5_row 9 = .ok (.aload_n 0, 1) := by decide +kernel
theorem dX5_row_10 : decode cX5_row 10 = .ok (.getfield 43, 3) := by decide +kernel
theorem dX5_row_13 : decode cX5_row 13 = .ok (.bipush 24, 2) := by decide +kernel
theorem dX5_row_15 : decode cX5_row 15 = .ok (.if_icmp .lt 5, 3) := by decide +kernel
theorem dX5_row_18 : decode cX5_row 18 = .ok (.iconst (-1), 1) := by decide +kernel
theorem dX5_row_19 : decode cX5_row 19 = .ok (.ireturn, 1) := by decide +kernel
theorem dX5_row_20 : decode cX5_row 20 = .ok (.aload_n 0, 1) := by decide +kernel
theorem dX5_row_21 : decode cX5_row 21 = .ok (.getfield 34, 3) := by decide +kernel
theorem dX5_row_24 : decode cX5_row 24 = .ok (.aload_n 0, 1) := by decide +kernel
theorem dX5_row_25 : decode cX5_row 25 = .ok (.getfield 43, 3) := by decide +kernel
theorem dX5_row_28 : decode cX5_row 28 = .ok (.aaload, 1) := by decide +kernel
theorem dX5_row_29 : decode cX5_row 29 = .ok (.iload_n 1, 1) := by decide +kernel
theorem dX5_row_30 : decode cX5_row 30 = .ok (.invokevirtual 55, 3) := by decide +kernel
theorem dX5_row_33 : decode cX5_row 33 = .ok (.aload_n 0, 1) := by decide +kernel
theorem dX5_row_34 : decode cX5_row 34 = .ok (.dup, 1) := by decide +kernel
theorem dX5_row_35 : decode cX5_row 35 = .ok (.getfield 43, 3) := by decide +kernel
theorem dX5_row_38 : decode cX5_row 38 = .ok (.iconst 1, 1) := by decide +kernel
theorem dX5_row_39 : decode cX5_row 39 = .ok (.iadd, 1) := by decide +kernel
theorem dX5_row_40 : decode cX5_row 40 = .ok (.putfield 43, 3) := by decide +kernel
theorem dX5_row_43 : decode cX5_row 43 = .ok (.aload_n 0, 1) := by decide +kernel
theorem dX5_row_44 : decode cX5_row 44 = .ok (.getfield 43, 3) := by decide +kernel
theorem dX5_row_47 : decode cX5_row 47 = .ok (.iconst 1, 1) := by decide +kernel
theorem dX5_row_48 : decode cX5_row 48 = .ok (.isub, 1) := by decide +kernel
theorem dX5_row_49 : decode cX5_row 49 = .ok (.ireturn, 1) := by decide +kernel
theorem dX5_put_0 : decode cX5_put 0 = .ok (.aload_n 0, 1) := by decide +kernel
theorem dX5_put_1 : decode cX5_put 1 = .ok (.iload_n 1, 1) := by decide +kernel
theorem dX5_put_2 : decode cX5_put 2 = .ok (.invokevirtual 59, 3) := by decide +kernel
theorem dX5_put_5 : decode cX5_put 5 = .ok (.ifCond .eq 31, 3) := by decide +kernel
theorem dX5_put_8 : decode cX5_put 8 = .ok (.iload_n 2, 1) := by decide +kernel
theorem dX5_put_9 : decode cX5_put 9 = .ok (.invokestatic 62, 3) := by decide +kernel
theorem dX5_put_12 : decode cX5_put 12 = .ok (.ifCond .eq 24, 3) := by decide +kernel
theorem dX5_put_15 : decode cX5_put 15 = .ok (.iload_n 3, 1) := by decide +kernel
theorem dX5_put_16 : decode cX5_put 16 = .ok (.invokestatic 47, 3) := by decide +kernel
theorem dX5_put_19 : decode cX5_put 19 = .ok (.ifCond .eq 17, 3) := by decide +kernel
theorem dX5_put_22 : decode cX5_put 22 = .ok (.aload_n 0, 1) := by decide +kernel
theorem dX5_put_23 : decode cX5_put 23 = .ok (.getfield 34, 3) := by decide +kernel
theorem dX5_put_26 : decode cX5_put 26 = .ok (.iload_n 1, 1) := by decide +kernel
theorem dX5_put_27 : decode cX5_put 27 = .ok (.aaload, 1) := by decide +kernel
theorem dX5_put_28 : decode cX5_put 28 = .ok (.iload_n 2, 1) := by decide +kernel
theorem dX5_put_29 : decode cX5_put 29 = .ok (.iload_n 3, 1) := by decide +kernel
theorem dX5_put_30 : decode cX5_put 30 = .ok (.invokevirtual 65, 3) := by decide +kernel
theorem dX5_put_33 : decode cX5_put 33 = .ok (.goto 4, 3) := by decide +kernel
theorem dX5_put_36 : decode cX5_put 36 = .ok (.iconst (-1), 1) := by decide +kernel
theorem dX5_put_37 : decode cX5_put 37 = .ok (.ireturn, 1) := by decide +kernel
theorem dX5_take_0 : decode cX5_take 0 = .ok (.aload_n 0, 1) := by decide +kernel
theorem dX5_take_1 : decode cX5_take 1 = .ok (.iload_n 1, 1) := by decide +kernel
theorem dX5_take_2 : decode cX5_take 2 = .ok (.invokevirtual 59, 3) := by decide +kernel
theorem dX5_take_5 : decode cX5_take 5 = .ok (.ifCond .eq 16, 3) := by decide +kernel
theorem dX5_take_8 : decode cX5_take 8 = .ok (.aload_n 0, 1) := by decide +kernel
theorem dX5_take_9 : decode cX5_take 9 = .ok (.getfield 34, 3) := by decide +kernel
theorem dX5_take_12 : decode cX5_take 12 = .ok (.iload_n 1, 1) := by decide +kernel
theorem dX5_take_13 : decode cX5_take 13 = .ok (.aaload, 1) := by decide +kernel
theorem dX5_take_14 : decode cX5_take 14 = .ok (.getfield 69, 3) := by decide +kernel
theorem dX5_take_17 : decode cX5_take 17 = .ok (.iload_n 2, 1) := by decide +kernel
theorem dX5_take_18 : decode cX5_take 18 = .ok (.if_icmp .ne 5, 3) := by decide +kernel
theorem dX5_take_21 : decode cX5_take 21 = .ok (.iconst 0, 1) := by decide +kernel
theorem dX5_take_22 : decode cX5_take 22 = .ok (.ireturn, 1) := by decide +kernel
theorem dX5_take_23 : decode cX5_take 23 = .ok (.aload_n 0, 1) := by decide +kernel
theorem dX5_take_24 : decode cX5_take 24 = .ok (.getfield 34, 3) := by decide +kernel
theorem dX5_take_27 : decode cX5_take 27 = .ok (.iload_n 1, 1) := by decide +kernel
theorem dX5_take_28 : decode cX5_take 28 = .ok (.aaload, 1) := by decide +kernel
theorem dX5_take_29 : decode cX5_take 29 = .ok (.iload_n 2, 1) := by decide +kernel
theorem dX5_take_30 : decode cX5_take 30 = .ok (.putfield 69, 3) := by decide +kernel
theorem dX5_take_33 : decode cX5_take 33 = .ok (.iconst 1, 1) := by decide +kernel
theorem dX5_take_34 : decode cX5_take 34 = .ok (.ireturn, 1) := by decide +kernel
theorem dX5_gap_0 : decode cX5_gap 0 = .ok (.iload_n 1, 1) := by decide +kernel
theorem dX5_gap_1 : decode cX5_gap 1 = .ok (.invokestatic 62, 3) := by decide +kernel
theorem dX5_gap_4 : decode cX5_gap 4 = .ok (.ifCond .ne 5, 3) := by decide +kernel
theorem dX5_gap_7 : decode cX5_gap 7 = .ok (.iconst 0, 1) := by decide +kernel
theorem dX5_gap_8 : decode cX5_gap 8 = .ok (.ireturn, 1) := by decide +kernel
theorem dX5_gap_9 : decode cX5_gap 9 = .ok (.aload_n 0, 1) := by decide +kernel
theorem dX5_gap_10 : decode cX5_gap 10 = .ok (.getfield 21, 3) := by decide +kernel
theorem dX5_gap_13 : decode cX5_gap 13 = .ok (.iload_n 1, 1) := by decide +kernel
theorem dX5_gap_14 : decode cX5_gap 14 = .ok (.putfield 73, 3) := by decide +kernel
theorem dX5_gap_17 : decode cX5_gap 17 = .ok (.iconst 1, 1) := by decide +kernel
theorem dX5_gap_18 : decode cX5_gap 18 = .ok (.ireturn, 1) := by decide +kernel
theorem dX5_span_0 : decode cX5_span 0 = .ok (.iload_n 1, 1) := by decide +kernel
theorem dX5_span_1 : decode cX5_span 1 = .ok (.invokestatic 62, 3) := by decide +kernel
theorem dX5_span_4 : decode cX5_span 4 = .ok (.ifCond .ne 5, 3) := by decide +kernel
theorem dX5_span_7 : decode cX5_span 7 = .ok (.iconst 0, 1) := by decide +kernel
theorem dX5_span_8 : decode cX5_span 8 = .ok (.ireturn, 1) := by decide +kernel
theorem dX5_span_9 : decode cX5_span 9 = .ok (.aload_n 0, 1) := by decide +kernel
theorem dX5_span_10 : decode cX5_span 10 = .ok (.getfield 21, 3) := by decide +kernel
theorem dX5_span_13 : decode cX5_span 13 = .ok (.iload_n 1, 1) := by decide +kernel
theorem dX5_span_14 : decode cX5_span 14 = .ok (.putfield 76, 3) := by decide +kernel
theorem dX5_span_17 : decode cX5_span 17 = .ok (.iconst 1, 1) := by decide +kernel
theorem dX5_span_18 : decode cX5_span 18 = .ok (.ireturn, 1) := by decide +kernel
theorem dX5_count_0 : decode cX5_count 0 = .ok (.iload_n 1, 1) := by decide +kernel
theorem dX5_count_1 : decode cX5_count 1 = .ok (.iload_n 2, 1) := by decide +kernel
theorem dX5_count_2 : decode cX5_count 2 = .ok (.iload_n 3, 1) := by decide +kernel
theorem dX5_count_3 : decode cX5_count 3 = .ok (.iload 4, 2) := by decide +kernel
theorem dX5_count_5 : decode cX5_count 5 = .ok (.invokestatic 79, 3) := by decide +kernel
theorem dX5_count_8 : decode cX5_count 8 = .ok (.istore 5, 2) := by decide +kernel
theorem dX5_count_10 : decode cX5_count 10 = .ok (.iload 5, 2) := by decide +kernel
theorem dX5_count_12 : decode cX5_count 12 = .ok (.iconst (-1), 1) := by decide +kernel
theorem dX5_count_13 : decode cX5_count 13 = .ok (.if_icmp .ne 7, 3) := by decide +kernel
theorem dX5_count_16 : decode cX5_count 16 = .ok (.iconst (-1), 1) := by decide +kernel
theorem dX5_count_17 : decode cX5_count 17 = .ok (.goto 9, 3) := by decide +kernel
theorem dX5_count_20 : decode cX5_count 20 = .ok (.aload_n 0, 1) := by decide +kernel
theorem dX5_count_21 : decode cX5_count 21 = .ok (.iload 5, 2) := by decide +kernel
theorem dX5_count_23 : decode cX5_count 23 = .ok (.invokevirtual 85, 3) := by decide +kernel
theorem dX5_count_26 : decode cX5_count 26 = .ok (.ireturn, 1) := by decide +kernel
theorem dX5_matches_0 : decode cX5_matches 0 = .ok (.iload_n 2, 1) := by decide +kernel
theorem dX5_matches_1 : decode cX5_matches 1 = .ok (.iload_n 3, 1) := by decide +kernel
theorem dX5_matches_2 : decode cX5_matches 2 = .ok (.iload 4, 2) := by decide +kernel
theorem dX5_matches_4 : decode cX5_matches 4 = .ok (.iload 5, 2) := by decide +kernel
theorem dX5_matches_6 : decode cX5_matches 6 = .ok (.invokestatic 79, 3) := by decide +kernel
theorem dX5_matches_9 : decode cX5_matches 9 = .ok (.istore 6, 2) := by decide +kernel
theorem dX5_matches_11 : decode cX5_matches 11 = .ok (.aload_n 0, 1) := by decide +kernel
theorem dX5_matches_12 : decode cX5_matches 12 = .ok (.iload_n 1, 1) := by decide +kernel
theorem dX5_matches_13 : decode cX5_matches 13 = .ok (.invokevirtual 59, 3) := by decide +kernel
theorem dX5_matches_16 : decode cX5_matches 16 = .ok (.ifCond .eq 9, 3) := by decide +kernel
theorem dX5_matches_19 : decode cX5_matches 19 = .ok (.iload 6, 2) := by decide +kernel
theorem dX5_matches_21 : decode cX5_matches 21 = .ok (.iconst (-1), 1) := by decide +kernel
theorem dX5_matches_22 : decode cX5_matches 22 = .ok (.if_icmp .ne 7, 3) := by decide +kernel
theorem dX5_matches_25 : decode cX5_matches 25 = .ok (.ldc2_w 89, 3) := by decide +kernel
theorem dX5_matches_28 : decode cX5_matches 28 = .ok (.lreturn, 1) := by decide +kernel
theorem dX5_matches_29 : decode cX5_matches 29 = .ok (.aload_n 0, 1) := by decide +kernel
theorem dX5_matches_30 : decode cX5_matches 30 = .ok (.getfield 21, 3) := by decide +kernel
theorem dX5_matches_33 : decode cX5_matches 33 = .ok (.iload 6, 2) := by decide +kernel
theorem dX5_matches_35 : decode cX5_matches 35 = .ok (.invokevirtual 91, 3) := by decide +kernel
theorem dX5_matches_38 : decode cX5_matches 38 = .ok (.aload_n 0, 1) := by decide +kernel
theorem dX5_matches_39 : decode cX5_matches 39 = .ok (.getfield 21, 3) := by decide +kernel
theorem dX5_matches_42 : decode cX5_matches 42 = .ok (.aload_n 0, 1) := by decide +kernel
theorem dX5_matches_43 : decode cX5_matches 43 = .ok (.getfield 34, 3) := by decide +kernel
theorem dX5_matches_46 : decode cX5_matches 46 = .ok (.iload_n 1, 1) := by decide +kernel
theorem dX5_matches_47 : decode cX5_matches 47 = .ok (.aaload, 1) := by decide +kernel
theorem dX5_matches_48 : decode cX5_matches 48 = .ok (.invokevirtual 94, 3) := by decide +kernel
theorem dX5_matches_51 : decode cX5_matches 51 = .ok (.lreturn, 1) := by decide +kernel
theorem dX5_match_0 : decode cX5_match 0 = .ok (.iload_n 2, 1) := by decide +kernel
theorem dX5_match_1 : decode cX5_match 1 = .ok (.iload_n 3, 1) := by decide +kernel
theorem dX5_match_2 : decode cX5_match 2 = .ok (.iload 4, 2) := by decide +kernel
theorem dX5_match_4 : decode cX5_match 4 = .ok (.iload 5, 2) := by decide +kernel
theorem dX5_match_6 : decode cX5_match 6 = .ok (.invokestatic 79, 3) := by decide +kernel
theorem dX5_match_9 : decode cX5_match 9 = .ok (.istore 7, 2) := by decide +kernel
theorem dX5_match_11 : decode cX5_match 11 = .ok (.aload_n 0, 1) := by decide +kernel
theorem dX5_match_12 : decode cX5_match 12 = .ok (.iload_n 1, 1) := by decide +kernel
theorem dX5_match_13 : decode cX5_match 13 = .ok (.invokevirtual 59, 3) := by decide +kernel
theorem dX5_match_16 : decode cX5_match 16 = .ok (.ifCond .eq 9, 3) := by decide +kernel
theorem dX5_match_19 : decode cX5_match 19 = .ok (.iload 7, 2) := by decide +kernel
theorem dX5_match_21 : decode cX5_match 21 = .ok (.iconst (-1), 1) := by decide +kernel
theorem dX5_match_22 : decode cX5_match 22 = .ok (.if_icmp .ne 5, 3) := by decide +kernel
theorem dX5_match_25 : decode cX5_match 25 = .ok (.iconst (-1), 1) := by decide +kernel
theorem dX5_match_26 : decode cX5_match 26 = .ok (.ireturn, 1) := by decide +kernel
theorem dX5_match_27 : decode cX5_match 27 = .ok (.aload_n 0, 1) := by decide +kernel
theorem dX5_match_28 : decode cX5_match 28 = .ok (.getfield 21, 3) := by decide +kernel
theorem dX5_match_31 : decode cX5_match 31 = .ok (.iload 7, 2) := by decide +kernel
theorem dX5_match_33 : decode cX5_match 33 = .ok (.invokevirtual 91, 3) := by decide +kernel
theorem dX5_match_36 : decode cX5_match 36 = .ok (.aload_n 0, 1) := by decide +kernel
theorem dX5_match_37 : decode cX5_match 37 = .ok (.getfield 21, 3) := by decide +kernel
theorem dX5_match_40 : decode cX5_match 40 = .ok (.aload_n 0, 1) := by decide +kernel
theorem dX5_match_41 : decode cX5_match 41 = .ok (.getfield 34, 3) := by decide +kernel
theorem dX5_match_44 : decode cX5_match 44 = .ok (.iload_n 1, 1) := by decide +kernel
theorem dX5_match_45 : decode cX5_match 45 = .ok (.aaload, 1) := by decide +kernel
theorem dX5_match_46 : decode cX5_match 46 = .ok (.iload 6, 2) := by decide +kernel
theorem dX5_match_48 : decode cX5_match 48 = .ok (.invokevirtual 98, 3) := by decide +kernel
theorem dX5_match_51 : decode cX5_match 51 = .ok (.ireturn, 1) := by decide +kernel
theorem dX5_find_0 : decode cX5_find 0 = .ok (.iload_n 1, 1) := by decide +kernel
theorem dX5_find_1 : decode cX5_find 1 = .ok (.iconst 1, 1) := by decide +kernel
theorem dX5_find_2 : decode cX5_find 2 = .ok (.if_icmp .lt 19, 3) := by decide +kernel
theorem dX5_find_5 : decode cX5_find 5 = .ok (.iload_n 1, 1) := by decide +kernel
theorem dX5_find_6 : decode cX5_find 6 = .ok (.bipush 24, 2) := by decide +kernel
theorem dX5_find_8 : decode cX5_find 8 = .ok (.if_icmp .gt 13, 3) := by decide +kernel
theorem dX5_find_11 : decode cX5_find 11 = .ok (.iload_n 2, 1) := by decide +kernel
theorem dX5_find_12 : decode cX5_find 12 = .ok (.iconst 1, 1) := by decide +kernel
theorem dX5_find_13 : decode cX5_find 13 = .ok (.if_icmp .lt 8, 3) := by decide +kernel
theorem dX5_find_16 : decode cX5_find 16 = .ok (.iload_n 2, 1) := by decide +kernel
theorem dX5_find_17 : decode cX5_find 17 = .ok (.iconst 4, 1) := by decide +kernel
theorem dX5_find_18 : decode cX5_find 18 = .ok (.if_icmp .le 5, 3) := by decide +kernel
theorem dX5_find_21 : decode cX5_find 21 = .ok (.iconst (-1), 1) := by decide +kernel
theorem dX5_find_22 : decode cX5_find 22 = .ok (.ireturn, 1) := by decide +kernel
theorem dX5_find_23 : decode cX5_find 23 = .ok (.aload_n 0, 1) := by decide +kernel
theorem dX5_find_24 : decode cX5_find 24 = .ok (.getfield 28, 3) := by decide +kernel
theorem dX5_find_27 : decode cX5_find 27 = .ok (.invokevirtual 102, 3) := by decide +kernel
theorem dX5_find_30 : decode cX5_find 30 = .ok (.aload_n 0, 1) := by decide +kernel
theorem dX5_find_31 : decode cX5_find 31 = .ok (.iconst 1, 1) := by decide +kernel
theorem dX5_find_32 : decode cX5_find 32 = .ok (.aload_n 0, 1) := by decide +kernel
theorem dX5_find_33 : decode cX5_find 33 = .ok (.invokevirtual 105, 3) := by decide +kernel
theorem dX5_find_36 : decode cX5_find 36 = .ok (.iload_n 1, 1) := by decide +kernel
theorem dX5_find_37 : decode cX5_find 37 = .ok (.invokevirtual 109, 3) := by decide +kernel
theorem dX5_find_40 : decode cX5_find 40 = .ok (.iconst 0, 1) := by decide +kernel
theorem dX5_find_41 : decode cX5_find 41 = .ok (.istore_n 3, 1) := by decide +kernel
theorem dX5_find_42 : decode cX5_find 42 = .ok (.iload_n 3, 1) := by decide +kernel
theorem dX5_find_43 : decode cX5_find 43 = .ok (.aload_n 0, 1) := by decide +kernel
theorem dX5_find_44 : decode cX5_find 44 = .ok (.getfield 28, 3) := by decide +kernel
theorem dX5_find_47 : decode cX5_find 47 = .ok (.invokevirtual 113, 3) := by decide +kernel
theorem dX5_find_50 : decode cX5_find 50 = .ok (.if_icmp .ge 65, 3) := by decide +kernel
theorem dX5_find_53 : decode cX5_find 53 = .ok (.iload_n 3, 1) := by decide +kernel
theorem dX5_find_54 : decode cX5_find 54 = .ok (.sipush 2000, 3) := by decide +kernel
theorem dX5_find_57 : decode cX5_find 57 = .ok (.if_icmp .ge 58, 3) := by decide +kernel
theorem dX5_find_60 : decode cX5_find 60 = .ok (.aload_n 0, 1) := by decide +kernel
theorem dX5_find_61 : decode cX5_find 61 = .ok (.getfield 28, 3) := by decide +kernel
theorem dX5_find_64 : decode cX5_find 64 = .ok (.invokevirtual 116, 3) := by decide +kernel
theorem dX5_find_67 : decode cX5_find 67 = .ok (.ifCond .ne 48, 3) := by decide +kernel
theorem dX5_find_70 : decode cX5_find 70 = .ok (.aload_n 0, 1) := by decide +kernel
theorem dX5_find_71 : decode cX5_find 71 = .ok (.getfield 28, 3) := by decide +kernel
theorem dX5_find_74 : decode cX5_find 74 = .ok (.iload_n 3, 1) := by decide +kernel
theorem dX5_find_75 : decode cX5_find 75 = .ok (.invokevirtual 120, 3) := by decide +kernel
theorem dX5_find_78 : decode cX5_find 78 = .ok (.invokestatic 123, 3) := by decide +kernel
theorem dX5_find_81 : decode cX5_find 81 = .ok (.iload_n 2, 1) := by decide +kernel
theorem dX5_find_82 : decode cX5_find 82 = .ok (.if_icmp .lt 6, 3) := by decide +kernel
theorem dX5_find_85 : decode cX5_find 85 = .ok (.goto 30, 3) := by decide +kernel
theorem dX5_find_88 : decode cX5_find 88 = .ok (.aload_n 0, 1) := by decide +kernel
theorem dX5_find_89 : decode cX5_find 89 = .ok (.aload_n 0, 1) := by decide +kernel
theorem dX5_find_90 : decode cX5_find 90 = .ok (.getfield 28, 3) := by decide +kernel
theorem dX5_find_93 : decode cX5_find 93 = .ok (.iload_n 3, 1) := by decide +kernel
theorem dX5_find_94 : decode cX5_find 94 = .ok (.invokevirtual 120, 3) := by decide +kernel
theorem dX5_find_97 : decode cX5_find 97 = .ok (.aload_n 0, 1) := by decide +kernel
theorem dX5_find_98 : decode cX5_find 98 = .ok (.getfield 28, 3) := by decide +kernel
theorem dX5_find_101 : decode cX5_find 101 = .ok (.iload_n 3, 1) := by decide +kernel
theorem dX5_find_102 : decode cX5_find 102 = .ok (.invokevirtual 126, 3) := by decide +kernel
theorem dX5_find_105 : decode cX5_find 105 = .ok (.iload_n 1, 1) := by decide +kernel
theorem dX5_find_106 : decode cX5_find 106 = .ok (.invokevirtual 109, 3) := by decide +kernel
theorem dX5_find_109 : decode cX5_find 109 = .ok (.iinc 3 1, 3) := by decide +kernel
theorem dX5_find_112 : decode cX5_find 112 = .ok (.goto (-70), 3) := by decide +kernel
theorem dX5_find_115 : decode cX5_find 115 = .ok (.aload_n 0, 1) := by decide +kernel
theorem dX5_find_116 : decode cX5_find 116 = .ok (.getfield 28, 3) := by decide +kernel
theorem dX5_find_119 : decode cX5_find 119 = .ok (.invokevirtual 113, 3) := by decide +kernel
theorem dX5_find_122 : decode cX5_find 122 = .ok (.ireturn, 1) := by decide +kernel
theorem dX5_found_0 : decode cX5_found 0 = .ok (.aload_n 0, 1) := by decide +kernel
theorem dX5_found_1 : decode cX5_found 1 = .ok (.getfield 28, 3) := by decide +kernel
theorem dX5_found_4 : decode cX5_found 4 = .ok (.iload_n 1, 1) := by decide +kernel
theorem dX5_found_5 : decode cX5_found 5 = .ok (.invokevirtual 129, 3) := by decide +kernel
theorem dX5_found_8 : decode cX5_found 8 = .ok (.ifCond .ne 5, 3) := by decide +kernel
theorem dX5_found_11 : decode cX5_found 11 = .ok (.iconst (-1), 1) := by decide +kernel
theorem dX5_found_12 : decode cX5_found 12 = .ok (.ireturn, 1) := by decide +kernel
theorem dX5_found_13 : decode cX5_found 13 = .ok (.iload_n 2, 1) := by decide +kernel
theorem dX5_found_14 : decode cX5_found 14 = .ok (.iconst 4, 1) := by decide +kernel
theorem dX5_found_15 : decode cX5_found 15 = .ok (.if_icmp .ne 15, 3) := by decide +kernel
theorem dX5_found_18 : decode cX5_found 18 = .ok (.aload_n 0, 1) := by decide +kernel
theorem dX5_found_19 : decode cX5_found 19 = .ok (.getfield 28, 3) := by decide +kernel
theorem dX5_found_22 : decode cX5_found 22 = .ok (.iload_n 1, 1) := by decide +kernel
theorem dX5_found_23 : decode cX5_found 23 = .ok (.invokevirtual 126, 3) := by decide +kernel
theorem dX5_found_26 : decode cX5_found 26 = .ok (.invokestatic 132, 3) := by decide +kernel
theorem dX5_found_29 : decode cX5_found 29 = .ok (.ireturn, 1) := by decide +kernel
theorem dX5_found_30 : decode cX5_found 30 = .ok (.iload_n 2, 1) := by decide +kernel
theorem dX5_found_31 : decode cX5_found 31 = .ok (.iconst 5, 1) := by decide +kernel
theorem dX5_found_32 : decode cX5_found 32 = .ok (.if_icmp .ne 17, 3) := by decide +kernel
theorem dX5_found_35 : decode cX5_found 35 = .ok (.aload_n 0, 1) := by decide +kernel
theorem dX5_found_36 : decode cX5_found 36 = .ok (.getfield 28, 3) := by decide +kernel
theorem dX5_found_39 : decode cX5_found 39 = .ok (.iload_n 1, 1) := by decide +kernel
theorem dX5_found_40 : decode cX5_found 40 = .ok (.invokevirtual 120, 3) := by decide +kernel
theorem dX5_found_43 : decode cX5_found 43 = .ok (.invokestatic 123, 3) := by decide +kernel
theorem dX5_found_46 : decode cX5_found 46 = .ok (.goto 15, 3) := by decide +kernel
theorem dX5_found_49 : decode cX5_found 49 = .ok (.aload_n 0, 1) := by decide +kernel
theorem dX5_found_50 : decode cX5_found 50 = .ok (.getfield 28, 3) := by decide +kernel
theorem dX5_found_53 : decode cX5_found 53 = .ok (.iload_n 1, 1) := by decide +kernel
theorem dX5_found_54 : decode cX5_found 54 = .ok (.invokevirtual 120, 3) := by decide +kernel
theorem dX5_found_57 : decode cX5_found 57 = .ok (.iload_n 2, 1) := by decide +kernel
theorem dX5_found_58 : decode cX5_found 58 = .ok (.invokestatic 137, 3) := by decide +kernel
theorem dX5_found_61 : decode cX5_found 61 = .ok (.ireturn, 1) := by decide +kernel
theorem dX5_closed_0 : decode cX5_closed 0 = .ok (.aload_n 0, 1) := by decide +kernel
theorem dX5_closed_1 : decode cX5_closed 1 = .ok (.getfield 28, 3) := by decide +kernel
theorem dX5_closed_4 : decode cX5_closed 4 = .ok (.iload_n 1, 1) := by decide +kernel
theorem dX5_closed_5 : decode cX5_closed 5 = .ok (.invokevirtual 129, 3) := by decide +kernel
theorem dX5_closed_8 : decode cX5_closed 8 = .ok (.ifCond .ne 5, 3) := by decide +kernel
theorem dX5_closed_11 : decode cX5_closed 11 = .ok (.iconst (-1), 1) := by decide +kernel
theorem dX5_closed_12 : decode cX5_closed 12 = .ok (.ireturn, 1) := by decide +kernel
theorem dX5_closed_13 : decode cX5_closed 13 = .ok (.aload_n 0, 1) := by decide +kernel
theorem dX5_closed_14 : decode cX5_closed 14 = .ok (.getfield 28, 3) := by decide +kernel
theorem dX5_closed_17 : decode cX5_closed 17 = .ok (.iload_n 1, 1) := by decide +kernel
theorem dX5_closed_18 : decode cX5_closed 18 = .ok (.invokevirtual 120, 3) := by decide +kernel
theorem dX5_closed_21 : decode cX5_closed 21 = .ok (.istore_n 2, 1) := by decide +kernel
theorem dX5_closed_22 : decode cX5_closed 22 = .ok (.aload_n 0, 1) := by decide +kernel
theorem dX5_closed_23 : decode cX5_closed 23 = .ok (.iload_n 2, 1) := by decide +kernel
theorem dX5_closed_24 : decode cX5_closed 24 = .ok (.invokevirtual 85, 3) := by decide +kernel
theorem dX5_closed_27 : decode cX5_closed 27 = .ok (.istore_n 3, 1) := by decide +kernel
theorem dX5_closed_28 : decode cX5_closed 28 = .ok (.aload_n 0, 1) := by decide +kernel
theorem dX5_closed_29 : decode cX5_closed 29 = .ok (.iload_n 2, 1) := by decide +kernel
theorem dX5_closed_30 : decode cX5_closed 30 = .ok (.iload_n 3, 1) := by decide +kernel
theorem dX5_closed_31 : decode cX5_closed 31 = .ok (.invokevirtual 140, 3) := by decide +kernel
theorem dX5_closed_34 : decode cX5_closed 34 = .ok (.ifCond .ne 12, 3) := by decide +kernel
theorem dX5_closed_37 : decode cX5_closed 37 = .ok (.aload_n 0, 1) := by decide +kernel
theorem dX5_closed_38 : decode cX5_closed 38 = .ok (.iload_n 2, 1) := by decide +kernel
theorem dX5_closed_39 : decode cX5_closed 39 = .ok (.iload_n 3, 1) := by decide +kernel
theorem dX5_closed_40 : decode cX5_closed 40 = .ok (.invokevirtual 143, 3) := by decide +kernel
theorem dX5_closed_43 : decode cX5_closed 43 = .ok (.ifCond .eq 7, 3) := by decide +kernel
theorem dX5_closed_46 : decode cX5_closed 46 = .ok (.iconst 0, 1) := by decide +kernel
theorem dX5_closed_47 : decode cX5_closed 47 = .ok (.goto 4, 3) := by decide +kernel
theorem dX5_closed_50 : decode cX5_closed 50 = .ok (.iconst 1, 1) := by decide +kernel
theorem dX5_closed_51 : decode cX5_closed 51 = .ok (.ireturn, 1) := by decide +kernel
theorem dX5_best_0 : decode cX5_best 0 = .ok (.aload_n 0, 1) := by decide +kernel
theorem dX5_best_1 : decode cX5_best 1 = .ok (.iconst 0, 1) := by decide +kernel
theorem dX5_best_2 : decode cX5_best 2 = .ok (.invokevirtual 146, 3) := by decide +kernel
theorem dX5_best_5 : decode cX5_best 5 = .ok (.istore_n 1, 1) := by decide +kernel
theorem dX5_best_6 : decode cX5_best 6 = .ok (.aload_n 0, 1) := by decide +kernel
theorem dX5_best_7 : decode cX5_best 7 = .ok (.iconst 1, 1) := by decide +kernel
theorem dX5_best_8 : decode cX5_best 8 = .ok (.invokevirtual 146, 3) := by decide +kernel
theorem dX5_best_11 : decode cX5_best 11 = .ok (.istore_n 2, 1) := by decide +kernel
theorem dX5_best_12 : decode cX5_best 12 = .ok (.iconst (-1), 1) := by decide +kernel
theorem dX5_best_13 : decode cX5_best 13 = .ok (.istore_n 3, 1) := by decide +kernel
theorem dX5_best_14 : decode cX5_best 14 = .ok (.iconst (-1), 1) := by decide +kernel
theorem dX5_best_15 : decode cX5_best 15 = .ok (.istore 4, 2) := by decide +kernel
theorem dX5_best_17 : decode cX5_best 17 = .ok (.iconst (-1), 1) := by decide +kernel
theorem dX5_best_18 : decode cX5_best 18 = .ok (.istore 5, 2) := by decide +kernel
theorem dX5_best_20 : decode cX5_best 20 = .ok (.iconst 0, 1) := by decide +kernel
theorem dX5_best_21 : decode cX5_best 21 = .ok (.istore 6, 2) := by decide +kernel
theorem dX5_best_23 : decode cX5_best 23 = .ok (.iload 6, 2) := by decide +kernel
theorem dX5_best_25 : decode cX5_best 25 = .ok (.aload_n 0, 1) := by decide +kernel
theorem dX5_best_26 : decode cX5_best 26 = .ok (.getfield 28, 3) := by decide +kernel
theorem dX5_best_29 : decode cX5_best 29 = .ok (.invokevirtual 113, 3) := by decide +kernel
theorem dX5_best_32 : decode cX5_best 32 = .ok (.if_icmp .ge 78, 3) := by decide +kernel
theorem dX5_best_35 : decode cX5_best 35 = .ok (.aload_n 0, 1) := by decide +kernel
theorem dX5_best_36 : decode cX5_best 36 = .ok (.getfield 28, 3) := by decide +kernel
theorem dX5_best_39 : decode cX5_best 39 = .ok (.iload 6, 2) := by decide +kernel
theorem dX5_best_41 : decode cX5_best 41 = .ok (.invokevirtual 120, 3) := by decide +kernel
theorem dX5_best_44 : decode cX5_best 44 = .ok (.istore 7, 2) := by decide +kernel
theorem dX5_best_46 : decode cX5_best 46 = .ok (.iload 7, 2) := by decide +kernel
theorem dX5_best_48 : decode cX5_best 48 = .ok (.invokestatic 149, 3) := by decide +kernel
theorem dX5_best_51 : decode cX5_best 51 = .ok (.istore 8, 2) := by decide +kernel
theorem dX5_best_53 : decode cX5_best 53 = .ok (.iload 8, 2) := by decide +kernel
theorem dX5_best_55 : decode cX5_best 55 = .ok (.iload 5, 2) := by decide +kernel
theorem dX5_best_57 : decode cX5_best 57 = .ok (.if_icmp .eq 16, 3) := by decide +kernel
theorem dX5_best_60 : decode cX5_best 60 = .ok (.aload_n 0, 1) := by decide +kernel
theorem dX5_best_61 : decode cX5_best 61 = .ok (.iload 8, 2) := by decide +kernel
theorem dX5_best_63 : decode cX5_best 63 = .ok (.iload_n 1, 1) := by decide +kernel
theorem dX5_best_64 : decode cX5_best 64 = .ok (.iload_n 2, 1) := by decide +kernel
theorem dX5_best_65 : decode cX5_best 65 = .ok (.ior, 1) := by decide +kernel
theorem dX5_best_66 : decode cX5_best 66 = .ok (.invokevirtual 152, 3) := by decide +kernel
theorem dX5_best_69 : decode cX5_best 69 = .ok (.iload 8, 2) := by decide +kernel
theorem dX5_best_71 : decode cX5_best 71 = .ok (.istore 5, 2) := by decide +kernel
theorem dX5_best_73 : decode cX5_best 73 = .ok (.aload_n 0, 1) := by decide +kernel
theorem dX5_best_74 : decode cX5_best 74 = .ok (.getfield 39, 3) := by decide +kernel
theorem dX5_best_77 : decode cX5_best 77 = .ok (.iload 7, 2) := by decide +kernel
theorem dX5_best_79 : decode cX5_best 79 = .ok (.invokestatic 156, 3) := by decide +kernel
theorem dX5_best_82 : decode cX5_best 82 = .ok (.iaload, 1) := by decide +kernel
theorem dX5_best_83 : decode cX5_best 83 = .ok (.iload_n 1, 1) := by decide +kernel
theorem dX5_best_84 : decode cX5_best 84 = .ok (.iload_n 2, 1) := by decide +kernel
theorem dX5_best_85 : decode cX5_best 85 = .ok (.invokestatic 159, 3) := by decide +kernel
theorem dX5_best_88 : decode cX5_best 88 = .ok (.istore 9, 2) := by decide +kernel
theorem dX5_best_90 : decode cX5_best 90 = .ok (.iload 9, 2) := by decide +kernel
theorem dX5_best_92 : decode cX5_best 92 = .ok (.iload 4, 2) := by decide +kernel
theorem dX5_best_94 : decode cX5_best 94 = .ok (.if_icmp .le 10, 3) := by decide +kernel
theorem dX5_best_97 : decode cX5_best 97 = .ok (.iload 9, 2) := by decide +kernel
theorem dX5_best_99 : decode cX5_best 99 = .ok (.istore 4, 2) := by decide +kernel
theorem dX5_best_101 : decode cX5_best 101 = .ok (.iload 6, 2) := by decide +kernel
theorem dX5_best_103 : decode cX5_best 103 = .ok (.istore_n 3, 1) := by decide +kernel
theorem dX5_best_104 : decode cX5_best 104 = .ok (.iinc 6 1, 3) := by decide +kernel
theorem dX5_best_107 : decode cX5_best 107 = .ok (.goto (-84), 3) := by decide +kernel
theorem dX5_best_110 : decode cX5_best 110 = .ok (.iload_n 3, 1) := by decide +kernel
theorem dX5_best_111 : decode cX5_best 111 = .ok (.ireturn, 1) := by decide +kernel
theorem dX5_expected_0 : decode cX5_expected 0 = .ok (.iload_n 1, 1) := by decide +kernel
theorem dX5_expected_1 : decode cX5_expected 1 = .ok (.invokestatic 47, 3) := by decide +kernel
theorem dX5_expected_4 : decode cX5_expected 4 = .ok (.ifCond .eq 34, 3) := by decide +kernel
theorem dX5_expected_7 : decode cX5_expected 7 = .ok (.iload_n 2, 1) := by decide +kernel
theorem dX5_expected_8 : decode cX5_expected 8 = .ok (.invokestatic 47, 3) := by decide +kernel
theorem dX5_expected_11 : decode cX5_expected 11 = .ok (.ifCond .eq 27, 3) := by decide +kernel
theorem dX5_expected_14 : decode cX5_expected 14 = .ok (.aload_n 0, 1) := by decide +kernel
theorem dX5_expected_15 : decode cX5_expected 15 = .ok (.getfield 10, 3) := by decide +kernel
theorem dX5_expected_18 : decode cX5_expected 18 = .ok (.iload_n 1, 1) := by decide +kernel
theorem dX5_expected_19 : decode cX5_expected 19 = .ok (.iload_n 2, 1) := by decide +kernel
theorem dX5_expected_20 : decode cX5_expected 20 = .ok (.invokevirtual 163, 3) := by decide +kernel
theorem dX5_expected_23 : decode cX5_expected 23 = .ok (.ifCond .ne 15, 3) := by decide +kernel
theorem dX5_expected_26 : decode cX5_expected 26 = .ok (.aload_n 0, 1) := by decide +kernel
theorem dX5_expected_27 : decode cX5_expected 27 = .ok (.getfield 10, 3) := by decide +kernel
theorem dX5_expected_30 : decode cX5_expected 30 = .ok (.iload_n 2, 1) := by decide +kernel
theorem dX5_expected_31 : decode cX5_expected 31 = .ok (.iload_n 1, 1) := by decide +kernel
theorem dX5_expected_32 : decode cX5_expected 32 = .ok (.invokevirtual 163, 3) := by decide +kernel
theorem dX5_expected_35 : decode cX5_expected 35 = .ok (.ifCond .eq 7, 3) := by decide +kernel
theorem dX5_expected_38 : decode cX5_expected 38 = .ok (.ldc2_w 89, 3) := by decide +kernel
theorem dX5_expected_41 : decode cX5_expected 41 = .ok (.lreturn, 1) := by decide +kernel
theorem dX5_expected_42 : decode cX5_expected 42 = .ok (.lconst 0, 1) := by decide +kernel
theorem dX5_expected_43 : decode cX5_expected 43 = .ok (.lstore_n 3, 1) := by decide +kernel
theorem dX5_expected_44 : decode cX5_expected 44 = .ok (.iconst 0, 1) := by decide +kernel
theorem dX5_expected_45 : decode cX5_expected 45 = .ok (.istore 5, 2) := by decide +kernel
theorem dX5_expected_47 : decode cX5_expected 47 = .ok (.iload 5, 2) := by decide +kernel
theorem dX5_expected_49 : decode cX5_expected 49 = .ok (.aload_n 0, 1) := by decide +kernel
theorem dX5_expected_50 : decode cX5_expected 50 = .ok (.getfield 43, 3) := by decide +kernel
theorem dX5_expected_53 : decode cX5_expected 53 = .ok (.if_icmp .ge 58, 3) := by decide +kernel
theorem dX5_expected_56 : decode cX5_expected 56 = .ok (.aload_n 0, 1) := by decide +kernel
theorem dX5_expected_57 : decode cX5_expected 57 = .ok (.getfield 34, 3) := by decide +kernel
theorem dX5_expected_60 : decode cX5_expected 60 = .ok (.iload 5, 2) := by decide +kernel
theorem dX5_expected_62 : decode cX5_expected 62 = .ok (.aaload, 1) := by decide +kernel
theorem dX5_expected_63 : decode cX5_expected 63 = .ok (.getfield 69, 3) := by decide +kernel
theorem dX5_expected_66 : decode cX5_expected 66 = .ok (.ifCond .eq 39, 3) := by decide +kernel
theorem dX5_expected_69 : decode cX5_expected 69 = .ok (.lload_n 3, 1) := by decide +kernel
theorem dX5_expected_70 : decode cX5_expected 70 = .ok (.aload_n 0, 1) := by decide +kernel
theorem dX5_expected_71 : decode cX5_expected 71 = .ok (.getfield 34, 3) := by decide +kernel
theorem dX5_expected_74 : decode cX5_expected 74 = .ok (.iload 5, 2) := by decide +kernel
theorem dX5_expected_76 : decode cX5_expected 76 = .ok (.aaload, 1) := by decide +kernel
theorem dX5_expected_77 : decode cX5_expected 77 = .ok (.aload_n 0, 1) := by decide +kernel
theorem dX5_expected_78 : decode cX5_expected 78 = .ok (.getfield 10, 3) := by decide +kernel
theorem dX5_expected_81 : decode cX5_expected 81 = .ok (.iload_n 1, 1) := by decide +kernel
theorem dX5_expected_82 : decode cX5_expected 82 = .ok (.invokevirtual 166, 3) := by decide +kernel
theorem dX5_expected_85 : decode cX5_expected 85 = .ok (.aload_n 0, 1) := by decide +kernel
theorem dX5_expected_86 : decode cX5_expected 86 = .ok (.getfield 34, 3) := by decide +kernel
theorem dX5_expected_89 : decode cX5_expected 89 = .ok (.iload 5, 2) := by decide +kernel
theorem dX5_expected_91 : decode cX5_expected 91 = .ok (.aaload, 1) := by decide +kernel
theorem dX5_expected_92 : decode cX5_expected 92 = .ok (.aload_n 0, 1) := by decide +kernel
theorem dX5_expected_93 : decode cX5_expected 93 = .ok (.getfield 10, 3) := by decide +kernel
theorem dX5_expected_96 : decode cX5_expected 96 = .ok (.iload_n 2, 1) := by decide +kernel
theorem dX5_expected_97 : decode cX5_expected 97 = .ok (.invokevirtual 166, 3) := by decide +kernel
theorem dX5_expected_100 : decode cX5_expected 100 = .ok (.invokestatic 170, 3) := by decide +kernel
theorem dX5_expected_103 : decode cX5_expected 103 = .ok (.ladd, 1) := by decide +kernel
theorem dX5_expected_104 : decode cX5_expected 104 = .ok (.lstore_n 3, 1) := by decide +kernel
theorem dX5_expected_105 : decode cX5_expected 105 = .ok (.iinc 5 1, 3) := by decide +kernel
theorem dX5_expected_108 : decode cX5_expected 108 = .ok (.goto (-61), 3) := by decide +kernel
theorem dX5_expected_111 : decode cX5_expected 111 = .ok (.lload_n 3, 1) := by decide +kernel
theorem dX5_expected_112 : decode cX5_expected 112 = .ok (.lreturn, 1) := by decide +kernel
theorem dX5_share_0 : decode cX5_share 0 = .ok (.iload_n 1, 1) := by decide +kernel
theorem dX5_share_1 : decode cX5_share 1 = .ok (.iload_n 2, 1) := by decide +kernel
theorem dX5_share_2 : decode cX5_share 2 = .ok (.iload_n 3, 1) := by decide +kernel
theorem dX5_share_3 : decode cX5_share 3 = .ok (.iload 4, 2) := by decide +kernel
theorem dX5_share_5 : decode cX5_share 5 = .ok (.invokestatic 79, 3) := by decide +kernel
theorem dX5_share_8 : decode cX5_share 8 = .ok (.istore 5, 2) := by decide +kernel
theorem dX5_share_10 : decode cX5_share 10 = .ok (.iload 5, 2) := by decide +kernel
theorem dX5_share_12 : decode cX5_share 12 = .ok (.invokestatic 123, 3) := by decide +kernel
theorem dX5_share_15 : decode cX5_share 15 = .ok (.iconst 2, 1) := by decide +kernel
theorem dX5_share_16 : decode cX5_share 16 = .ok (.if_icmp .ge 5, 3) := by decide +kernel
theorem dX5_share_19 : decode cX5_share 19 = .ok (.iconst (-1), 1) := by decide +kernel
theorem dX5_share_20 : decode cX5_share 20 = .ok (.ireturn, 1) := by decide +kernel
theorem dX5_share_21 : decode cX5_share 21 = .ok (.aload_n 0, 1) := by decide +kernel
theorem dX5_share_22 : decode cX5_share 22 = .ok (.iload 5, 2) := by decide +kernel
theorem dX5_share_24 : decode cX5_share 24 = .ok (.invokestatic 149, 3) := by decide +kernel
theorem dX5_share_27 : decode cX5_share 27 = .ok (.invokevirtual 85, 3) := by decide +kernel
theorem dX5_share_30 : decode cX5_share 30 = .ok (.istore 6, 2) := by decide +kernel
theorem dX5_share_32 : decode cX5_share 32 = .ok (.iload 6, 2) := by decide +kernel
theorem dX5_share_34 : decode cX5_share 34 = .ok (.ifCond .ne 7, 3) := by decide +kernel
theorem dX5_share_37 : decode cX5_share 37 = .ok (.iconst 0, 1) := by decide +kernel
theorem dX5_share_38 : decode cX5_share 38 = .ok (.goto 16, 3) := by decide +kernel
theorem dX5_share_41 : decode cX5_share 41 = .ok (.aload_n 0, 1) := by decide +kernel
theorem dX5_share_42 : decode cX5_share 42 = .ok (.iload 5, 2) := by decide +kernel
theorem dX5_share_44 : decode cX5_share 44 = .ok (.invokevirtual 85, 3) := by decide +kernel
theorem dX5_share_47 : decode cX5_share 47 = .ok (.sipush 1000, 3) := by decide +kernel
theorem dX5_share_50 : decode cX5_share 50 = .ok (.imul, 1) := by decide +kernel
theorem dX5_share_51 : decode cX5_share 51 = .ok (.iload 6, 2) := by decide +kernel
theorem dX5_share_53 : decode cX5_share 53 = .ok (.idiv, 1) := by decide +kernel
theorem dX5_share_54 : decode cX5_share 54 = .ok (.ireturn, 1) := by decide +kernel
theorem dX5_lacking_0 : decode cX5_lacking 0 = .ok (.aload_n 0, 1) := by decide +kernel
theorem dX5_lacking_1 : decode cX5_lacking 1 = .ok (.iload_n 1, 1) := by decide +kernel
theorem dX5_lacking_2 : decode cX5_lacking 2 = .ok (.iload_n 2, 1) := by decide +kernel
theorem dX5_lacking_3 : decode cX5_lacking 3 = .ok (.iload_n 3, 1) := by decide +kernel
theorem dX5_lacking_4 : decode cX5_lacking 4 = .ok (.iload 4, 2) := by decide +kernel
theorem dX5_lacking_6 : decode cX5_lacking 6 = .ok (.invokestatic 79, 3) := by decide +kernel
theorem dX5_lacking_9 : decode cX5_lacking 9 = .ok (.invokevirtual 174, 3) := by decide +kernel
theorem dX5_lacking_12 : decode cX5_lacking 12 = .ok (.istore 6, 2) := by decide +kernel
theorem dX5_lacking_14 : decode cX5_lacking 14 = .ok (.iconst 0, 1) := by decide +kernel
theorem dX5_lacking_15 : decode cX5_lacking 15 = .ok (.istore 7, 2) := by decide +kernel
theorem dX5_lacking_17 : decode cX5_lacking 17 = .ok (.iconst 0, 1) := by decide +kernel
theorem dX5_lacking_18 : decode cX5_lacking 18 = .ok (.istore 8, 2) := by decide +kernel
theorem dX5_lacking_20 : decode cX5_lacking 20 = .ok (.iload 8, 2) := by decide +kernel
theorem dX5_lacking_22 : decode cX5_lacking 22 = .ok (.aload_n 0, 1) := by decide +kernel
theorem dX5_lacking_23 : decode cX5_lacking 23 = .ok (.getfield 43, 3) := by decide +kernel
theorem dX5_lacking_26 : decode cX5_lacking 26 = .ok (.if_icmp .ge 32, 3) := by decide +kernel
theorem dX5_lacking_29 : decode cX5_lacking 29 = .ok (.iload 8, 2) := by decide +kernel
theorem dX5_lacking_31 : decode cX5_lacking 31 = .ok (.iload 6, 2) := by decide +kernel
theorem dX5_lacking_33 : decode cX5_lacking 33 = .ok (.invokestatic 177, 3) := by decide +kernel
theorem dX5_lacking_36 : decode cX5_lacking 36 = .ok (.ifCond .eq 16, 3) := by decide +kernel
theorem dX5_lacking_39 : decode cX5_lacking 39 = .ok (.iload 7, 2) := by decide +kernel
theorem dX5_lacking_41 : decode cX5_lacking 41 = .ok (.iload 5, 2) := by decide +kernel
theorem dX5_lacking_43 : decode cX5_lacking 43 = .ok (.if_icmp .ne 6, 3) := by decide +kernel
theorem dX5_lacking_46 : decode cX5_lacking 46 = .ok (.iload 8, 2) := by decide +kernel
theorem dX5_lacking_48 : decode cX5_lacking 48 = .ok (.ireturn, 1) := by decide +kernel
theorem dX5_lacking_49 : decode cX5_lacking 49 = .ok (.iinc 7 1, 3) := by decide +kernel
theorem dX5_lacking_52 : decode cX5_lacking 52 = .ok (.iinc 8 1, 3) := by decide +kernel
theorem dX5_lacking_55 : decode cX5_lacking 55 = .ok (.goto (-35), 3) := by decide +kernel
theorem dX5_lacking_58 : decode cX5_lacking 58 = .ok (.iconst (-1), 1) := by decide +kernel
theorem dX5_lacking_59 : decode cX5_lacking 59 = .ok (.ireturn, 1) := by decide +kernel
theorem dX5_sure_0 : decode cX5_sure 0 = .ok (.iload_n 2, 1) := by decide +kernel
theorem dX5_sure_1 : decode cX5_sure 1 = .ok (.iload_n 3, 1) := by decide +kernel
theorem dX5_sure_2 : decode cX5_sure 2 = .ok (.iload 4, 2) := by decide +kernel
theorem dX5_sure_4 : decode cX5_sure 4 = .ok (.iload 5, 2) := by decide +kernel
theorem dX5_sure_6 : decode cX5_sure 6 = .ok (.invokestatic 79, 3) := by decide +kernel
theorem dX5_sure_9 : decode cX5_sure 9 = .ok (.istore 6, 2) := by decide +kernel
theorem dX5_sure_11 : decode cX5_sure 11 = .ok (.aload_n 0, 1) := by decide +kernel
theorem dX5_sure_12 : decode cX5_sure 12 = .ok (.iload_n 1, 1) := by decide +kernel
theorem dX5_sure_13 : decode cX5_sure 13 = .ok (.invokevirtual 59, 3) := by decide +kernel
theorem dX5_sure_16 : decode cX5_sure 16 = .ok (.ifCond .eq 16, 3) := by decide +kernel
theorem dX5_sure_19 : decode cX5_sure 19 = .ok (.iload_n 1, 1) := by decide +kernel
theorem dX5_sure_20 : decode cX5_sure 20 = .ok (.aload_n 0, 1) := by decide +kernel
theorem dX5_sure_21 : decode cX5_sure 21 = .ok (.iload 6, 2) := by decide +kernel
theorem dX5_sure_23 : decode cX5_sure 23 = .ok (.invokevirtual 174, 3) := by decide +kernel
theorem dX5_sure_26 : decode cX5_sure 26 = .ok (.invokestatic 177, 3) := by decide +kernel
theorem dX5_sure_29 : decode cX5_sure 29 = .ok (.ifCond .ne 5, 3) := by decide +kernel
theorem dX5_sure_32 : decode cX5_sure 32 = .ok (.iconst (-1), 1) := by decide +kernel
theorem dX5_sure_33 : decode cX5_sure 33 = .ok (.ireturn, 1) := by decide +kernel
theorem dX5_sure_34 : decode cX5_sure 34 = .ok (.aload_n 0, 1) := by decide +kernel
theorem dX5_sure_35 : decode cX5_sure 35 = .ok (.getfield 21, 3) := by decide +kernel
theorem dX5_sure_38 : decode cX5_sure 38 = .ok (.iload 6, 2) := by decide +kernel
theorem dX5_sure_40 : decode cX5_sure 40 = .ok (.invokestatic 149, 3) := by decide +kernel
theorem dX5_sure_43 : decode cX5_sure 43 = .ok (.invokevirtual 91, 3) := by decide +kernel
theorem dX5_sure_46 : decode cX5_sure 46 = .ok (.sipush 9999, 3) := by decide +kernel
theorem dX5_sure_49 : decode cX5_sure 49 = .ok (.aload_n 0, 1) := by decide +kernel
theorem dX5_sure_50 : decode cX5_sure 50 = .ok (.getfield 21, 3) := by decide +kernel
theorem dX5_sure_53 : decode cX5_sure 53 = .ok (.aload_n 0, 1) := by decide +kernel
theorem dX5_sure_54 : decode cX5_sure 54 = .ok (.getfield 34, 3) := by decide +kernel
theorem dX5_sure_57 : decode cX5_sure 57 = .ok (.iload_n 1, 1) := by decide +kernel
theorem dX5_sure_58 : decode cX5_sure 58 = .ok (.aaload, 1) := by decide +kernel
theorem dX5_sure_59 : decode cX5_sure 59 = .ok (.invokevirtual 180, 3) := by decide +kernel
theorem dX5_sure_62 : decode cX5_sure 62 = .ok (.aload_n 0, 1) := by decide +kernel
theorem dX5_sure_63 : decode cX5_sure 63 = .ok (.getfield 21, 3) := by decide +kernel
theorem dX5_sure_66 : decode cX5_sure 66 = .ok (.getfield 73, 3) := by decide +kernel
theorem dX5_sure_69 : decode cX5_sure 69 = .ok (.iadd, 1) := by decide +kernel
theorem dX5_sure_70 : decode cX5_sure 70 = .ok (.invokestatic 184, 3) := by decide +kernel
theorem dX5_sure_73 : decode cX5_sure 73 = .ok (.ireturn, 1) := by decide +kernel
theorem dX5_look_0 : decode cX5_look 0 = .ok (.aload_n 0, 1) := by decide +kernel
theorem dX5_look_1 : decode cX5_look 1 = .ok (.iload_n 1, 1) := by decide +kernel
theorem dX5_look_2 : decode cX5_look 2 = .ok (.invokevirtual 59, 3) := by decide +kernel
theorem dX5_look_5 : decode cX5_look 5 = .ok (.ifCond .ne 5, 3) := by decide +kernel
theorem dX5_look_8 : decode cX5_look 8 = .ok (.iconst (-1), 1) := by decide +kernel
theorem dX5_look_9 : decode cX5_look 9 = .ok (.ireturn, 1) := by decide +kernel
theorem dX5_look_10 : decode cX5_look 10 = .ok (.iload_n 2, 1) := by decide +kernel
theorem dX5_look_11 : decode cX5_look 11 = .ok (.iconst (-1), 1) := by decide +kernel
theorem dX5_look_12 : decode cX5_look 12 = .ok (.if_icmp .ne 14, 3) := by decide +kernel
theorem dX5_look_15 : decode cX5_look 15 = .ok (.aload_n 0, 1) := by decide +kernel
theorem dX5_look_16 : decode cX5_look 16 = .ok (.getfield 34, 3) := by decide +kernel
theorem dX5_look_19 : decode cX5_look 19 = .ok (.iload_n 1, 1) := by decide +kernel
theorem dX5_look_20 : decode cX5_look 20 = .ok (.aaload, 1) := by decide +kernel
theorem dX5_look_21 : decode cX5_look 21 = .ok (.iload_n 3, 1) := by decide +kernel
theorem dX5_look_22 : decode cX5_look 22 = .ok (.invokestatic 189, 3) := by decide +kernel
theorem dX5_look_25 : decode cX5_look 25 = .ok (.ireturn, 1) := by decide +kernel
theorem dX5_look_26 : decode cX5_look 26 = .ok (.iload_n 3, 1) := by decide +kernel
theorem dX5_look_27 : decode cX5_look 27 = .ok (.lookupswitch 47 #[(0, 25), (1, 36)], 25) := by decide +kernel
theorem dX5_look_52 : decode cX5_look 52 = .ok (.aload_n 0, 1) := by decide +kernel
theorem dX5_look_53 : decode cX5_look 53 = .ok (.getfield 34, 3) := by decide +kernel
theorem dX5_look_56 : decode cX5_look 56 = .ok (.iload_n 1, 1) := by decide +kernel
theorem dX5_look_57 : decode cX5_look 57 = .ok (.aaload, 1) := by decide +kernel
theorem dX5_look_58 : decode cX5_look 58 = .ok (.iload_n 2, 1) := by decide +kernel
theorem dX5_look_59 : decode cX5_look 59 = .ok (.invokevirtual 192, 3) := by decide +kernel
theorem dX5_look_62 : decode cX5_look 62 = .ok (.ireturn, 1) := by decide +kernel
theorem dX5_look_63 : decode cX5_look 63 = .ok (.aload_n 0, 1) := by decide +kernel
theorem dX5_look_64 : decode cX5_look 64 = .ok (.getfield 34, 3) := by decide +kernel
theorem dX5_look_67 : decode cX5_look 67 = .ok (.iload_n 1, 1) := by decide +kernel
theorem dX5_look_68 : decode cX5_look 68 = .ok (.aaload, 1) := by decide +kernel
theorem dX5_look_69 : decode cX5_look 69 = .ok (.iload_n 2, 1) := by decide +kernel
theorem dX5_look_70 : decode cX5_look 70 = .ok (.invokevirtual 195, 3) := by decide +kernel
theorem dX5_look_73 : decode cX5_look 73 = .ok (.ireturn, 1) := by decide +kernel
theorem dX5_look_74 : decode cX5_look 74 = .ok (.iconst (-1), 1) := by decide +kernel
theorem dX5_look_75 : decode cX5_look 75 = .ok (.ireturn, 1) := by decide +kernel
theorem dX5_isUnder_0 : decode cX5_isUnder 0 = .ok (.iload_n 1, 1) := by decide +kernel
theorem dX5_isUnder_1 : decode cX5_isUnder 1 = .ok (.invokestatic 47, 3) := by decide +kernel
theorem dX5_isUnder_4 : decode cX5_isUnder 4 = .ok (.ifCond .eq 10, 3) := by decide +kernel
theorem dX5_isUnder_7 : decode cX5_isUnder 7 = .ok (.iload_n 2, 1) := by decide +kernel
theorem dX5_isUnder_8 : decode cX5_isUnder 8 = .ok (.invokestatic 47, 3) := by decide +kernel
theorem dX5_isUnder_11 : decode cX5_isUnder 11 = .ok (.ifCond .ne 5, 3) := by decide +kernel
theorem dX5_isUnder_14 : decode cX5_isUnder 14 = .ok (.iconst (-1), 1) := by decide +kernel
theorem dX5_isUnder_15 : decode cX5_isUnder 15 = .ok (.ireturn, 1) := by decide +kernel
theorem dX5_isUnder_16 : decode cX5_isUnder 16 = .ok (.iload_n 1, 1) := by decide +kernel
theorem dX5_isUnder_17 : decode cX5_isUnder 17 = .ok (.iload_n 2, 1) := by decide +kernel
theorem dX5_isUnder_18 : decode cX5_isUnder 18 = .ok (.if_icmp .eq 19, 3) := by decide +kernel
theorem dX5_isUnder_21 : decode cX5_isUnder 21 = .ok (.aload_n 0, 1) := by decide +kernel
theorem dX5_isUnder_22 : decode cX5_isUnder 22 = .ok (.getfield 10, 3) := by decide +kernel
theorem dX5_isUnder_25 : decode cX5_isUnder 25 = .ok (.iload_n 1, 1) := by decide +kernel
theorem dX5_isUnder_26 : decode cX5_isUnder 26 = .ok (.iload_n 2, 1) := by decide +kernel
theorem dX5_isUnder_27 : decode cX5_isUnder 27 = .ok (.invokevirtual 163, 3) := by decide +kernel
theorem dX5_isUnder_30 : decode cX5_isUnder 30 = .ok (.ifCond .eq 7, 3) := by decide +kernel
theorem dX5_isUnder_33 : decode cX5_isUnder 33 = .ok (.iconst 1, 1) := by decide +kernel
theorem dX5_isUnder_34 : decode cX5_isUnder 34 = .ok (.goto 4, 3) := by decide +kernel
theorem dX5_isUnder_37 : decode cX5_isUnder 37 = .ok (.iconst 0, 1) := by decide +kernel
theorem dX5_isUnder_38 : decode cX5_isUnder 38 = .ok (.ireturn, 1) := by decide +kernel
theorem dX5_tell_0 : decode cX5_tell 0 = .ok (.iload_n 1, 1) := by decide +kernel
theorem dX5_tell_1 : decode cX5_tell 1 = .ok (.tableswitch 81 0 5 #[39, 44, 52, 60, 68, 76], 39) := by decide +kernel
theorem dX5_tell_40 : decode cX5_tell 40 = .ok (.aload_n 0, 1) := by decide +kernel
theorem dX5_tell_41 : decode cX5_tell 41 = .ok (.getfield 43, 3) := by decide +kernel
theorem dX5_tell_44 : decode cX5_tell 44 = .ok (.ireturn, 1) := by decide +kernel
theorem dX5_tell_45 : decode cX5_tell 45 = .ok (.aload_n 0, 1) := by decide +kernel
theorem dX5_tell_46 : decode cX5_tell 46 = .ok (.invokevirtual 105, 3) := by decide +kernel
theorem dX5_tell_49 : decode cX5_tell 49 = .ok (.invokestatic 132, 3) := by decide +kernel
theorem dX5_tell_52 : decode cX5_tell 52 = .ok (.ireturn, 1) := by decide +kernel
theorem dX5_tell_53 : decode cX5_tell 53 = .ok (.aload_n 0, 1) := by decide +kernel
theorem dX5_tell_54 : decode cX5_tell 54 = .ok (.getfield 21, 3) := by decide +kernel
theorem dX5_tell_57 : decode cX5_tell 57 = .ok (.getfield 73, 3) := by decide +kernel
theorem dX5_tell_60 : decode cX5_tell 60 = .ok (.ireturn, 1) := by decide +kernel
theorem dX5_tell_61 : decode cX5_tell 61 = .ok (.aload_n 0, 1) := by decide +kernel
theorem dX5_tell_62 : decode cX5_tell 62 = .ok (.getfield 21, 3) := by decide +kernel
theorem dX5_tell_65 : decode cX5_tell 65 = .ok (.getfield 76, 3) := by decide +kernel
theorem dX5_tell_68 : decode cX5_tell 68 = .ok (.ireturn, 1) := by decide +kernel
theorem dX5_tell_69 : decode cX5_tell 69 = .ok (.aload_n 0, 1) := by decide +kernel
theorem dX5_tell_70 : decode cX5_tell 70 = .ok (.getfield 28, 3) := by decide +kernel
theorem dX5_tell_73 : decode cX5_tell 73 = .ok (.invokevirtual 113, 3) := by decide +kernel
theorem dX5_tell_76 : decode cX5_tell 76 = .ok (.ireturn, 1) := by decide +kernel
theorem dX5_tell_77 : decode cX5_tell 77 = .ok (.aload_n 0, 1) := by decide +kernel
theorem dX5_tell_78 : decode cX5_tell 78 = .ok (.invokevirtual 198, 3) := by decide +kernel
theorem dX5_tell_81 : decode cX5_tell 81 = .ok (.ireturn, 1) := by decide +kernel
theorem dX5_tell_82 : decode cX5_tell 82 = .ok (.iconst (-1), 1) := by decide +kernel
theorem dX5_tell_83 : decode cX5_tell 83 = .ok (.ireturn, 1) := by decide +kernel
theorem dX5_isKind_0 : decode cX5_isKind 0 = .ok (.iload_n 0, 1) := by decide +kernel
theorem dX5_isKind_1 : decode cX5_isKind 1 = .ok (.ifCond .lt 13, 3) := by decide +kernel
theorem dX5_isKind_4 : decode cX5_isKind 4 = .ok (.iload_n 0, 1) := by decide +kernel
theorem dX5_isKind_5 : decode cX5_isKind 5 = .ok (.bipush 16, 2) := by decide +kernel
theorem dX5_isKind_7 : decode cX5_isKind 7 = .ok (.if_icmp .ge 7, 3) := by decide +kernel
theorem dX5_isKind_10 : decode cX5_isKind 10 = .ok (.iconst 1, 1) := by decide +kernel
theorem dX5_isKind_11 : decode cX5_isKind 11 = .ok (.goto 4, 3) := by decide +kernel
theorem dX5_isKind_14 : decode cX5_isKind 14 = .ok (.iconst 0, 1) := by decide +kernel
theorem dX5_isKind_15 : decode cX5_isKind 15 = .ok (.ireturn, 1) := by decide +kernel
theorem dX5_isTick_0 : decode cX5_isTick 0 = .ok (.iload_n 0, 1) := by decide +kernel
theorem dX5_isTick_1 : decode cX5_isTick 1 = .ok (.ifCond .lt 14, 3) := by decide +kernel
theorem dX5_isTick_4 : decode cX5_isTick 4 = .ok (.iload_n 0, 1) := by decide +kernel
theorem dX5_isTick_5 : decode cX5_isTick 5 = .ok (.sipush 9999, 3) := by decide +kernel
theorem dX5_isTick_8 : decode cX5_isTick 8 = .ok (.if_icmp .gt 7, 3) := by decide +kernel
theorem dX5_isTick_11 : decode cX5_isTick 11 = .ok (.iconst 1, 1) := by decide +kernel
theorem dX5_isTick_12 : decode cX5_isTick 12 = .ok (.goto 4, 3) := by decide +kernel
theorem dX5_isTick_15 : decode cX5_isTick 15 = .ok (.iconst 0, 1) := by decide +kernel
theorem dX5_isTick_16 : decode cX5_isTick 16 = .ok (.ireturn, 1) := by decide +kernel
theorem dX5_isAmong_0 : decode cX5_isAmong 0 = .ok (.iload_n 1, 1) := by decide +kernel
theorem dX5_isAmong_1 : decode cX5_isAmong 1 = .ok (.iload_n 0, 1) := by decide +kernel
theorem dX5_isAmong_2 : decode cX5_isAmong 2 = .ok (.ishr, 1) := by decide +kernel
theorem dX5_isAmong_3 : decode cX5_isAmong 3 = .ok (.iconst 1, 1) := by decide +kernel
theorem dX5_isAmong_4 : decode cX5_isAmong 4 = .ok (.iand, 1) := by decide +kernel
theorem dX5_isAmong_5 : decode cX5_isAmong 5 = .ok (.ifCond .eq 7, 3) := by decide +kernel
theorem dX5_isAmong_8 : decode cX5_isAmong 8 = .ok (.iconst 1, 1) := by decide +kernel
theorem dX5_isAmong_9 : decode cX5_isAmong 9 = .ok (.goto 4, 3) := by decide +kernel
theorem dX5_isAmong_12 : decode cX5_isAmong 12 = .ok (.iconst 0, 1) := by decide +kernel
theorem dX5_isAmong_13 : decode cX5_isAmong 13 = .ok (.ireturn, 1) := by decide +kernel
theorem dX5_isRow_0 : decode cX5_isRow 0 = .ok (.iload_n 1, 1) := by decide +kernel
theorem dX5_isRow_1 : decode cX5_isRow 1 = .ok (.ifCond .lt 15, 3) := by decide +kernel
theorem dX5_isRow_4 : decode cX5_isRow 4 = .ok (.iload_n 1, 1) := by decide +kernel
theorem dX5_isRow_5 : decode cX5_isRow 5 = .ok (.aload_n 0, 1) := by decide +kernel
theorem dX5_isRow_6 : decode cX5_isRow 6 = .ok (.getfield 43, 3) := by decide +kernel
theorem dX5_isRow_9 : decode cX5_isRow 9 = .ok (.if_icmp .ge 7, 3) := by decide +kernel
theorem dX5_isRow_12 : decode cX5_isRow 12 = .ok (.iconst 1, 1) := by decide +kernel
theorem dX5_isRow_13 : decode cX5_isRow 13 = .ok (.goto 4, 3) := by decide +kernel
theorem dX5_isRow_16 : decode cX5_isRow 16 = .ok (.iconst 0, 1) := by decide +kernel
theorem dX5_isRow_17 : decode cX5_isRow 17 = .ok (.ireturn, 1) := by decide +kernel
theorem dX5_lookAtRow_0 : decode cX5_lookAtRow 0 = .ok (.iload_n 1, 1) := by decide +kernel
theorem dX5_lookAtRow_1 : decode cX5_lookAtRow 1 = .ok (.tableswitch 50 0 2 #[27, 32, 45], 27) := by decide +kernel
theorem dX5_lookAtRow_28 : decode cX5_lookAtRow 28 = .ok (.aload_n 0, 1) := by decide +kernel
theorem dX5_lookAtRow_29 : decode cX5_lookAtRow 29 = .ok (.getfield 201, 3) := by decide +kernel
theorem dX5_lookAtRow_32 : decode cX5_lookAtRow 32 = .ok (.ireturn, 1) := by decide +kernel
theorem dX5_lookAtRow_33 : decode cX5_lookAtRow 33 = .ok (.aload_n 0, 1) := by decide +kernel
theorem dX5_lookAtRow_34 : decode cX5_lookAtRow 34 = .ok (.getfield 69, 3) := by decide +kernel
theorem dX5_lookAtRow_37 : decode cX5_lookAtRow 37 = .ok (.ifCond .eq 7, 3) := by decide +kernel
theorem dX5_lookAtRow_40 : decode cX5_lookAtRow 40 = .ok (.iconst 1, 1) := by decide +kernel
theorem dX5_lookAtRow_41 : decode cX5_lookAtRow 41 = .ok (.goto 4, 3) := by decide +kernel
theorem dX5_lookAtRow_44 : decode cX5_lookAtRow 44 = .ok (.iconst 0, 1) := by decide +kernel
theorem dX5_lookAtRow_45 : decode cX5_lookAtRow 45 = .ok (.ireturn, 1) := by decide +kernel
theorem dX5_lookAtRow_46 : decode cX5_lookAtRow 46 = .ok (.aload_n 0, 1) := by decide +kernel
theorem dX5_lookAtRow_47 : decode cX5_lookAtRow 47 = .ok (.invokevirtual 204, 3) := by decide +kernel
theorem dX5_lookAtRow_50 : decode cX5_lookAtRow 50 = .ok (.ireturn, 1) := by decide +kernel
theorem dX5_lookAtRow_51 : decode cX5_lookAtRow 51 = .ok (.iconst (-1), 1) := by decide +kernel
theorem dX5_lookAtRow_52 : decode cX5_lookAtRow 52 = .ok (.ireturn, 1) := by decide +kernel
theorem dX5_happeningsInAll_0 : decode cX5_happeningsInAll 0 = .ok (.iconst 0, 1) := by decide +kernel
theorem dX5_happeningsInAll_1 : decode cX5_happeningsInAll 1 = .ok (.istore_n 1, 1) := by decide +kernel
theorem dX5_happeningsInAll_2 : decode cX5_happeningsInAll 2 = .ok (.iconst 0, 1) := by decide +kernel
theorem dX5_happeningsInAll_3 : decode cX5_happeningsInAll 3 = .ok (.istore_n 2, 1) := by decide +kernel
theorem dX5_happeningsInAll_4 : decode cX5_happeningsInAll 4 = .ok (.iload_n 2, 1) := by decide +kernel
theorem dX5_happeningsInAll_5 : decode cX5_happeningsInAll 5 = .ok (.aload_n 0, 1) := by decide +kernel
theorem dX5_happeningsInAll_6 : decode cX5_happeningsInAll 6 = .ok (.getfield 43, 3) := by decide +kernel
theorem dX5_happeningsInAll_9 : decode cX5_happeningsInAll 9 = .ok (.if_icmp .ge 21, 3) := by decide +kernel
theorem dX5_happeningsInAll_12 : decode cX5_happeningsInAll 12 = .ok (.iload_n 1, 1) := by decide +kernel
theorem dX5_happeningsInAll_13 : decode cX5_happeningsInAll 13 = .ok (.aload_n 0, 1) := by decide +kernel
theorem dX5_happeningsInAll_14 : decode cX5_happeningsInAll 14 = .ok (.getfield 34, 3) := by decide +kernel
theorem dX5_happeningsInAll_17 : decode cX5_happeningsInAll 17 = .ok (.iload_n 2, 1) := by decide +kernel
theorem dX5_happeningsInAll_18 : decode cX5_happeningsInAll 18 = .ok (.aaload, 1) := by decide +kernel
theorem dX5_happeningsInAll_19 : decode cX5_happeningsInAll 19 = .ok (.invokevirtual 204, 3) := by decide +kernel
theorem dX5_happeningsInAll_22 : decode cX5_happeningsInAll 22 = .ok (.iadd, 1) := by decide +kernel
theorem dX5_happeningsInAll_23 : decode cX5_happeningsInAll 23 = .ok (.istore_n 1, 1) := by decide +kernel
theorem dX5_happeningsInAll_24 : decode cX5_happeningsInAll 24 = .ok (.iinc 2 1, 3) := by decide +kernel
theorem dX5_happeningsInAll_27 : decode cX5_happeningsInAll 27 = .ok (.goto (-23), 3) := by decide +kernel
theorem dX5_happeningsInAll_30 : decode cX5_happeningsInAll 30 = .ok (.iload_n 1, 1) := by decide +kernel
theorem dX5_happeningsInAll_31 : decode cX5_happeningsInAll 31 = .ok (.ireturn, 1) := by decide +kernel
theorem dX5_rowsInOf_0 : decode cX5_rowsInOf 0 = .ok (.iconst 0, 1) := by decide +kernel
theorem dX5_rowsInOf_1 : decode cX5_rowsInOf 1 = .ok (.istore_n 2, 1) := by decide +kernel
theorem dX5_rowsInOf_2 : decode cX5_rowsInOf 2 = .ok (.iconst 0, 1) := by decide +kernel
theorem dX5_rowsInOf_3 : decode cX5_rowsInOf 3 = .ok (.istore_n 3, 1) := by decide +kernel
theorem dX5_rowsInOf_4 : decode cX5_rowsInOf 4 = .ok (.iload_n 3, 1) := by decide +kernel
theorem dX5_rowsInOf_5 : decode cX5_rowsInOf 5 = .ok (.aload_n 0, 1) := by decide +kernel
theorem dX5_rowsInOf_6 : decode cX5_rowsInOf 6 = .ok (.getfield 43, 3) := by decide +kernel
theorem dX5_rowsInOf_9 : decode cX5_rowsInOf 9 = .ok (.if_icmp .ge 40, 3) := by decide +kernel
theorem dX5_rowsInOf_12 : decode cX5_rowsInOf 12 = .ok (.aload_n 0, 1) := by decide +kernel
theorem dX5_rowsInOf_13 : decode cX5_rowsInOf 13 = .ok (.getfield 34, 3) := by decide +kernel
theorem dX5_rowsInOf_16 : decode cX5_rowsInOf 16 = .ok (.iload_n 3, 1) := by decide +kernel
theorem dX5_rowsInOf_17 : decode cX5_rowsInOf 17 = .ok (.aaload, 1) := by decide +kernel
theorem dX5_rowsInOf_18 : decode cX5_rowsInOf 18 = .ok (.getfield 69, 3) := by decide +kernel
theorem dX5_rowsInOf_21 : decode cX5_rowsInOf 21 = .ok (.ifCond .eq 22, 3) := by decide +kernel
theorem dX5_rowsInOf_24 : decode cX5_rowsInOf 24 = .ok (.aload_n 0, 1) := by decide +kernel
theorem dX5_rowsInOf_25 : decode cX5_rowsInOf 25 = .ok (.getfield 34, 3) := by decide +kernel
theorem dX5_rowsInOf_28 : decode cX5_rowsInOf 28 = .ok (.iload_n 3, 1) := by decide +kernel
theorem dX5_rowsInOf_29 : decode cX5_rowsInOf 29 = .ok (.aaload, 1) := by decide +kernel
theorem dX5_rowsInOf_30 : decode cX5_rowsInOf 30 = .ok (.getfield 201, 3) := by decide +kernel
theorem dX5_rowsInOf_33 : decode cX5_rowsInOf 33 = .ok (.iload_n 1, 1) := by decide +kernel
theorem dX5_rowsInOf_34 : decode cX5_rowsInOf 34 = .ok (.if_icmp .ne 9, 3) := by decide +kernel
theorem dX5_rowsInOf_37 : decode cX5_rowsInOf 37 = .ok (.iload_n 2, 1) := by decide +kernel
theorem dX5_rowsInOf_38 : decode cX5_rowsInOf 38 = .ok (.iconst 1, 1) := by decide +kernel
theorem dX5_rowsInOf_39 : decode cX5_rowsInOf 39 = .ok (.iload_n 3, 1) := by decide +kernel
theorem dX5_rowsInOf_40 : decode cX5_rowsInOf 40 = .ok (.ishl, 1) := by decide +kernel
theorem dX5_rowsInOf_41 : decode cX5_rowsInOf 41 = .ok (.ior, 1) := by decide +kernel
theorem dX5_rowsInOf_42 : decode cX5_rowsInOf 42 = .ok (.istore_n 2, 1) := by decide +kernel
theorem dX5_rowsInOf_43 : decode cX5_rowsInOf 43 = .ok (.iinc 3 1, 3) := by decide +kernel
theorem dX5_rowsInOf_46 : decode cX5_rowsInOf 46 = .ok (.goto (-42), 3) := by decide +kernel
theorem dX5_rowsInOf_49 : decode cX5_rowsInOf 49 = .ok (.iload_n 2, 1) := by decide +kernel
theorem dX5_rowsInOf_50 : decode cX5_rowsInOf 50 = .ok (.ireturn, 1) := by decide +kernel
theorem dX5_rowsIn_0 : decode cX5_rowsIn 0 = .ok (.aload_n 0, 1) := by decide +kernel
theorem dX5_rowsIn_1 : decode cX5_rowsIn 1 = .ok (.iconst 0, 1) := by decide +kernel
theorem dX5_rowsIn_2 : decode cX5_rowsIn 2 = .ok (.invokevirtual 146, 3) := by decide +kernel
theorem dX5_rowsIn_5 : decode cX5_rowsIn 5 = .ok (.aload_n 0, 1) := by decide +kernel
theorem dX5_rowsIn_6 : decode cX5_rowsIn 6 = .ok (.iconst 1, 1) := by decide +kernel
theorem dX5_rowsIn_7 : decode cX5_rowsIn 7 = .ok (.invokevirtual 146, 3) := by decide +kernel
theorem dX5_rowsIn_10 : decode cX5_rowsIn 10 = .ok (.ior, 1) := by decide +kernel
theorem dX5_rowsIn_11 : decode cX5_rowsIn 11 = .ok (.ireturn, 1) := by decide +kernel
theorem dX5_rowsWith_0 : decode cX5_rowsWith 0 = .ok (.aload_n 0, 1) := by decide +kernel
theorem dX5_rowsWith_1 : decode cX5_rowsWith 1 = .ok (.getfield 21, 3) := by decide +kernel
theorem dX5_rowsWith_4 : decode cX5_rowsWith 4 = .ok (.iload_n 1, 1) := by decide +kernel
theorem dX5_rowsWith_5 : decode cX5_rowsWith 5 = .ok (.invokevirtual 91, 3) := by decide +kernel
theorem dX5_rowsWith_8 : decode cX5_rowsWith 8 = .ok (.iconst 0, 1) := by decide +kernel
theorem dX5_rowsWith_9 : decode cX5_rowsWith 9 = .ok (.istore_n 2, 1) := by decide +kernel
theorem dX5_rowsWith_10 : decode cX5_rowsWith 10 = .ok (.iconst 0, 1) := by decide +kernel
theorem dX5_rowsWith_11 : decode cX5_rowsWith 11 = .ok (.istore_n 3, 1) := by decide +kernel
theorem dX5_rowsWith_12 : decode cX5_rowsWith 12 = .ok (.iload_n 3, 1) := by decide +kernel
theorem dX5_rowsWith_13 : decode cX5_rowsWith 13 = .ok (.aload_n 0, 1) := by decide +kernel
theorem dX5_rowsWith_14 : decode cX5_rowsWith 14 = .ok (.getfield 43, 3) := by decide +kernel
theorem dX5_rowsWith_17 : decode cX5_rowsWith 17 = .ok (.if_icmp .ge 43, 3) := by decide +kernel
theorem dX5_rowsWith_20 : decode cX5_rowsWith 20 = .ok (.aload_n 0, 1) := by decide +kernel
theorem dX5_rowsWith_21 : decode cX5_rowsWith 21 = .ok (.getfield 34, 3) := by decide +kernel
theorem dX5_rowsWith_24 : decode cX5_rowsWith 24 = .ok (.iload_n 3, 1) := by decide +kernel
theorem dX5_rowsWith_25 : decode cX5_rowsWith 25 = .ok (.aaload, 1) := by decide +kernel
theorem dX5_rowsWith_26 : decode cX5_rowsWith 26 = .ok (.getfield 69, 3) := by decide +kernel
theorem dX5_rowsWith_29 : decode cX5_rowsWith 29 = .ok (.ifCond .eq 25, 3) := by decide +kernel
theorem dX5_rowsWith_32 : decode cX5_rowsWith 32 = .ok (.aload_n 0, 1) := by decide +kernel
theorem dX5_rowsWith_33 : decode cX5_rowsWith 33 = .ok (.getfield 21, 3) := by decide +kernel
theorem dX5_rowsWith_36 : decode cX5_rowsWith 36 = .ok (.aload_n 0, 1) := by decide +kernel
theorem dX5_rowsWith_37 : decode cX5_rowsWith 37 = .ok (.getfield 34, 3) := by decide +kernel
theorem dX5_rowsWith_40 : decode cX5_rowsWith 40 = .ok (.iload_n 3, 1) := by decide +kernel
theorem dX5_rowsWith_41 : decode cX5_rowsWith 41 = .ok (.aaload, 1) := by decide +kernel
theorem dX5_rowsWith_42 : decode cX5_rowsWith 42 = .ok (.invokevirtual 205, 3) := by decide +kernel
theorem dX5_rowsWith_45 : decode cX5_rowsWith 45 = .ok (.ifCond .eq 9, 3) := by decide +kernel
theorem dX5_rowsWith_48 : decode cX5_rowsWith 48 = .ok (.iload_n 2, 1) := by decide +kernel
theorem dX5_rowsWith_49 : decode cX5_rowsWith 49 = .ok (.iconst 1, 1) := by decide +kernel
theorem dX5_rowsWith_50 : decode cX5_rowsWith 50 = .ok (.iload_n 3, 1) := by decide +kernel
theorem dX5_rowsWith_51 : decode cX5_rowsWith 51 = .ok (.ishl, 1) := by decide +kernel
theorem dX5_rowsWith_52 : decode cX5_rowsWith 52 = .ok (.ior, 1) := by decide +kernel
theorem dX5_rowsWith_53 : decode cX5_rowsWith 53 = .ok (.istore_n 2, 1) := by decide +kernel
theorem dX5_rowsWith_54 : decode cX5_rowsWith 54 = .ok (.iinc 3 1, 3) := by decide +kernel
theorem dX5_rowsWith_57 : decode cX5_rowsWith 57 = .ok (.goto (-45), 3) := by decide +kernel
theorem dX5_rowsWith_60 : decode cX5_rowsWith 60 = .ok (.iload_n 2, 1) := by decide +kernel
theorem dX5_rowsWith_61 : decode cX5_rowsWith 61 = .ok (.ireturn, 1) := by decide +kernel
theorem dX5_countOf_0 : decode cX5_countOf 0 = .ok (.aload_n 0, 1) := by decide +kernel
theorem dX5_countOf_1 : decode cX5_countOf 1 = .ok (.iload_n 1, 1) := by decide +kernel
theorem dX5_countOf_2 : decode cX5_countOf 2 = .ok (.invokevirtual 209, 3) := by decide +kernel
theorem dX5_countOf_5 : decode cX5_countOf 5 = .ok (.invokestatic 132, 3) := by decide +kernel
theorem dX5_countOf_8 : decode cX5_countOf 8 = .ok (.ireturn, 1) := by decide +kernel
theorem dX5_rowsLacking_0 : decode cX5_rowsLacking 0 = .ok (.iload_n 1, 1) := by decide +kernel
theorem dX5_rowsLacking_1 : decode cX5_rowsLacking 1 = .ok (.invokestatic 123, 3) := by decide +kernel
theorem dX5_rowsLacking_4 : decode cX5_rowsLacking 4 = .ok (.iconst 2, 1) := by decide +kernel
theorem dX5_rowsLacking_5 : decode cX5_rowsLacking 5 = .ok (.if_icmp .ge 7, 3) := by decide +kernel
theorem dX5_rowsLacking_8 : decode cX5_rowsLacking 8 = .ok (.iconst 0, 1) := by decide +kernel
theorem dX5_rowsLacking_9 : decode cX5_rowsLacking 9 = .ok (.goto 19, 3) := by decide +kernel
theorem dX5_rowsLacking_12 : decode cX5_rowsLacking 12 = .ok (.aload_n 0, 1) := by decide +kernel
theorem dX5_rowsLacking_13 : decode cX5_rowsLacking 13 = .ok (.iload_n 1, 1) := by decide +kernel
theorem dX5_rowsLacking_14 : decode cX5_rowsLacking 14 = .ok (.invokestatic 149, 3) := by decide +kernel
theorem dX5_rowsLacking_17 : decode cX5_rowsLacking 17 = .ok (.invokevirtual 209, 3) := by decide +kernel
theorem dX5_rowsLacking_20 : decode cX5_rowsLacking 20 = .ok (.aload_n 0, 1) := by decide +kernel
theorem dX5_rowsLacking_21 : decode cX5_rowsLacking 21 = .ok (.iload_n 1, 1) := by decide +kernel
theorem dX5_rowsLacking_22 : decode cX5_rowsLacking 22 = .ok (.invokevirtual 209, 3) := by decide +kernel
theorem dX5_rowsLacking_25 : decode cX5_rowsLacking 25 = .ok (.iconst (-1), 1) := by decide +kernel
theorem dX5_rowsLacking_26 : decode cX5_rowsLacking 26 = .ok (.ixor, 1) := by decide +kernel
theorem dX5_rowsLacking_27 : decode cX5_rowsLacking 27 = .ok (.iand, 1) := by decide +kernel
theorem dX5_rowsLacking_28 : decode cX5_rowsLacking 28 = .ok (.ireturn, 1) := by decide +kernel
theorem dX5_gatherRowsBehind_0 : decode cX5_gatherRowsBehind 0 = .ok (.aload_n 0, 1) := by decide +kernel
theorem dX5_gatherRowsBehind_1 : decode cX5_gatherRowsBehind 1 = .ok (.getfield 21, 3) := by decide +kernel
theorem dX5_gatherRowsBehind_4 : decode cX5_gatherRowsBehind 4 = .ok (.iload_n 1, 1) := by decide +kernel
theorem dX5_gatherRowsBehind_5 : decode cX5_gatherRowsBehind 5 = .ok (.invokevirtual 91, 3) := by decide +kernel
theorem dX5_gatherRowsBehind_8 : decode cX5_gatherRowsBehind 8 = .ok (.iconst 0, 1) := by decide +kernel
theorem dX5_gatherRowsBehind_9 : decode cX5_gatherRowsBehind 9 = .ok (.istore_n 3, 1) := by decide +kernel
theorem dX5_gatherRowsBehind_10 : decode cX5_gatherRowsBehind 10 = .ok (.iload_n 3, 1) := by decide +kernel
theorem dX5_gatherRowsBehind_11 : decode cX5_gatherRowsBehind 11 = .ok (.bipush 16, 2) := by decide +kernel
theorem dX5_gatherRowsBehind_13 : decode cX5_gatherRowsBehind 13 = .ok (.if_icmp .ge 16, 3) := by decide +kernel
theorem dX5_gatherRowsBehind_16 : decode cX5_gatherRowsBehind 16 = .ok (.aload_n 0, 1) := by decide +kernel
theorem dX5_gatherRowsBehind_17 : decode cX5_gatherRowsBehind 17 = .ok (.getfield 39, 3) := by decide +kernel
theorem dX5_gatherRowsBehind_20 : decode cX5_gatherRowsBehind 20 = .ok (.iload_n 3, 1) := by decide +kernel
theorem dX5_gatherRowsBehind_21 : decode cX5_gatherRowsBehind 21 = .ok (.iconst 0, 1) := by decide +kernel
theorem dX5_gatherRowsBehind_22 : decode cX5_gatherRowsBehind 22 = .ok (.iastore, 1) := by decide +kernel
theorem dX5_gatherRowsBehind_23 : decode cX5_gatherRowsBehind 23 = .ok (.iinc 3 1, 3) := by decide +kernel
theorem dX5_gatherRowsBehind_26 : decode cX5_gatherRowsBehind 26 = .ok (.goto (-16), 3) := by decide +kernel
theorem dX5_gatherRowsBehind_29 : decode cX5_gatherRowsBehind 29 = .ok (.iconst 0, 1) := by decide +kernel
theorem dX5_gatherRowsBehind_30 : decode cX5_gatherRowsBehind 30 = .ok (.istore_n 3, 1) := by decide +kernel
theorem dX5_gatherRowsBehind_31 : decode cX5_gatherRowsBehind 31 = .ok (.iload_n 3, 1) := by decide +kernel
theorem dX5_gatherRowsBehind_32 : decode cX5_gatherRowsBehind 32 = .ok (.aload_n 0, 1) := by decide +kernel
theorem dX5_gatherRowsBehind_33 : decode cX5_gatherRowsBehind 33 = .ok (.getfield 43, 3) := by decide +kernel
theorem dX5_gatherRowsBehind_36 : decode cX5_gatherRowsBehind 36 = .ok (.if_icmp .ge 71, 3) := by decide +kernel
theorem dX5_gatherRowsBehind_39 : decode cX5_gatherRowsBehind 39 = .ok (.iload_n 3, 1) := by decide +kernel
theorem dX5_gatherRowsBehind_40 : decode cX5_gatherRowsBehind 40 = .ok (.iload_n 2, 1) := by decide +kernel
theorem dX5_gatherRowsBehind_41 : decode cX5_gatherRowsBehind 41 = .ok (.invokestatic 177, 3) := by decide +kernel
theorem dX5_gatherRowsBehind_44 : decode cX5_gatherRowsBehind 44 = .ok (.ifCond .eq 19, 3) := by decide +kernel
theorem dX5_gatherRowsBehind_47 : decode cX5_gatherRowsBehind 47 = .ok (.aload_n 0, 1) := by decide +kernel
theorem dX5_gatherRowsBehind_48 : decode cX5_gatherRowsBehind 48 = .ok (.getfield 21, 3) := by decide +kernel
theorem dX5_gatherRowsBehind_51 : decode cX5_gatherRowsBehind 51 = .ok (.aload_n 0, 1) := by decide +kernel
theorem dX5_gatherRowsBehind_52 : decode cX5_gatherRowsBehind 52 = .ok (.getfield 34, 3) := by decide +kernel
theorem dX5_gatherRowsBehind_55 : decode cX5_gatherRowsBehind 55 = .ok (.iload_n 3, 1) := by decide +kernel
theorem dX5_gatherRowsBehind_56 : decode cX5_gatherRowsBehind 56 = .ok (.aaload, 1) := by decide +kernel
theorem dX5_gatherRowsBehind_57 : decode cX5_gatherRowsBehind 57 = .ok (.invokevirtual 212, 3) := by decide +kernel
theorem dX5_gatherRowsBehind_60 : decode cX5_gatherRowsBehind 60 = .ok (.goto 4, 3) := by decide +kernel
theorem dX5_gatherRowsBehind_63 : decode cX5_gatherRowsBehind 63 = .ok (.iconst 0, 1) := by decide +kernel
theorem dX5_gatherRowsBehind_64 : decode cX5_gatherRowsBehind 64 = .ok (.istore 4, 2) := by decide +kernel
theorem dX5_gatherRowsBehind_66 : decode cX5_gatherRowsBehind 66 = .ok (.iconst 0, 1) := by decide +kernel
theorem dX5_gatherRowsBehind_67 : decode cX5_gatherRowsBehind 67 = .ok (.istore 5, 2) := by decide +kernel
theorem dX5_gatherRowsBehind_69 : decode cX5_gatherRowsBehind 69 = .ok (.iload 5, 2) := by decide +kernel
theorem dX5_gatherRowsBehind_71 : decode cX5_gatherRowsBehind 71 = .ok (.bipush 16, 2) := by decide +kernel
theorem dX5_gatherRowsBehind_73 : decode cX5_gatherRowsBehind 73 = .ok (.if_icmp .ge 28, 3) := by decide +kernel
theorem dX5_gatherRowsBehind_76 : decode cX5_gatherRowsBehind 76 = .ok (.aload_n 0, 1) := by decide +kernel
theorem dX5_gatherRowsBehind_77 : decode cX5_gatherRowsBehind 77 = .ok (.getfield 39, 3) := by decide +kernel
theorem dX5_gatherRowsBehind_80 : decode cX5_gatherRowsBehind 80 = .ok (.iload 5, 2) := by decide +kernel
theorem dX5_gatherRowsBehind_82 : decode cX5_gatherRowsBehind 82 = .ok (.dup2, 1) := by decide +kernel
theorem dX5_gatherRowsBehind_83 : decode cX5_gatherRowsBehind 83 = .ok (.iaload, 1) := by decide +kernel
theorem dX5_gatherRowsBehind_84 : decode cX5_gatherRowsBehind 84 = .ok (.iload 4, 2) := by decide +kernel
theorem dX5_gatherRowsBehind_86 : decode cX5_gatherRowsBehind 86 = .ok (.iload 5, 2) := by decide +kernel
theorem dX5_gatherRowsBehind_88 : decode cX5_gatherRowsBehind 88 = .ok (.ishr, 1) := by decide +kernel
theorem dX5_gatherRowsBehind_89 : decode cX5_gatherRowsBehind 89 = .ok (.iconst 1, 1) := by decide +kernel
theorem dX5_gatherRowsBehind_90 : decode cX5_gatherRowsBehind 90 = .ok (.iand, 1) := by decide +kernel
theorem dX5_gatherRowsBehind_91 : decode cX5_gatherRowsBehind 91 = .ok (.iload_n 3, 1) := by decide +kernel
theorem dX5_gatherRowsBehind_92 : decode cX5_gatherRowsBehind 92 = .ok (.ishl, 1) := by decide +kernel
theorem dX5_gatherRowsBehind_93 : decode cX5_gatherRowsBehind 93 = .ok (.ior, 1) := by decide +kernel
theorem dX5_gatherRowsBehind_94 : decode cX5_gatherRowsBehind 94 = .ok (.iastore, 1) := by decide +kernel
theorem dX5_gatherRowsBehind_95 : decode cX5_gatherRowsBehind 95 = .ok (.iinc 5 1, 3) := by decide +kernel
theorem dX5_gatherRowsBehind_98 : decode cX5_gatherRowsBehind 98 = .ok (.goto (-29), 3) := by decide +kernel
theorem dX5_gatherRowsBehind_101 : decode cX5_gatherRowsBehind 101 = .ok (.iinc 3 1, 3) := by decide +kernel
theorem dX5_gatherRowsBehind_104 : decode cX5_gatherRowsBehind 104 = .ok (.goto (-73), 3) := by decide +kernel
theorem dX5_gatherRowsBehind_107 : decode cX5_gatherRowsBehind 107 = .ok (.return_, 1) := by decide +kernel
theorem dX5_findLonger_0 : decode cX5_findLonger 0 = .ok (.aload_n 0, 1) := by decide +kernel
theorem dX5_findLonger_1 : decode cX5_findLonger 1 = .ok (.iload_n 1, 1) := by decide +kernel
end
section
theorem dX5_findLonger_2 : decode cX5_findLonger 2 = .ok (.iload_n 2, 1) := by decide +kernel
theorem dX5_findLonger_3 : decode cX5_findLonger 3 = .ok (.invokevirtual 152, 3) := by decide +kernel
theorem dX5_findLonger_6 : decode cX5_findLonger 6 = .ok (.iconst 0, 1) := by decide +kernel
theorem dX5_findLonger_7 : decode cX5_findLonger 7 = .ok (.istore 4, 2) := by decide +kernel
theorem dX5_findLonger_9 : decode cX5_findLonger 9 = .ok (.iload 4, 2) := by decide +kernel
theorem dX5_findLonger_11 : decode cX5_findLonger 11 = .ok (.bipush 16, 2) := by decide +kernel
theorem dX5_findLonger_13 : decode cX5_findLonger 13 = .ok (.if_icmp .ge 44, 3) := by decide +kernel
theorem dX5_findLonger_16 : decode cX5_findLonger 16 = .ok (.aload_n 0, 1) := by decide +kernel
theorem dX5_findLonger_17 : decode cX5_findLonger 17 = .ok (.getfield 39, 3) := by decide +kernel
theorem dX5_findLonger_20 : decode cX5_findLonger 20 = .ok (.iload 4, 2) := by decide +kernel
theorem dX5_findLonger_22 : decode cX5_findLonger 22 = .ok (.iaload, 1) := by decide +kernel
theorem dX5_findLonger_23 : decode cX5_findLonger 23 = .ok (.invokestatic 132, 3) := by decide +kernel
theorem dX5_findLonger_26 : decode cX5_findLonger 26 = .ok (.iload_n 3, 1) := by decide +kernel
theorem dX5_findLonger_27 : decode cX5_findLonger 27 = .ok (.if_icmp .lt 24, 3) := by decide +kernel
theorem dX5_findLonger_30 : decode cX5_findLonger 30 = .ok (.aload_n 0, 1) := by decide +kernel
theorem dX5_findLonger_31 : decode cX5_findLonger 31 = .ok (.getfield 28, 3) := by decide +kernel
theorem dX5_findLonger_34 : decode cX5_findLonger 34 = .ok (.iload_n 1, 1) := by decide +kernel
theorem dX5_findLonger_35 : decode cX5_findLonger 35 = .ok (.iconst 0, 1) := by decide +kernel
theorem dX5_findLonger_36 : decode cX5_findLonger 36 = .ok (.iload 4, 2) := by decide +kernel
theorem dX5_findLonger_38 : decode cX5_findLonger 38 = .ok (.invokestatic 215, 3) := by decide +kernel
theorem dX5_findLonger_41 : decode cX5_findLonger 41 = .ok (.aload_n 0, 1) := by decide +kernel
theorem dX5_findLonger_42 : decode cX5_findLonger 42 = .ok (.getfield 39, 3) := by decide +kernel
theorem dX5_findLonger_45 : decode cX5_findLonger 45 = .ok (.iload 4, 2) := by decide +kernel
theorem dX5_findLonger_47 : decode cX5_findLonger 47 = .ok (.iaload, 1) := by decide +kernel
theorem dX5_findLonger_48 : decode cX5_findLonger 48 = .ok (.invokevirtual 218, 3) := by decide +kernel
theorem dX5_findLonger_51 : decode cX5_findLonger 51 = .ok (.iinc 4 1, 3) := by decide +kernel
theorem dX5_findLonger_54 : decode cX5_findLonger 54 = .ok (.goto (-45), 3) := by decide +kernel
theorem dX5_findLonger_57 : decode cX5_findLonger 57 = .ok (.return_, 1) := by decide +kernel
theorem dX5_longerSays_0 : decode cX5_longerSays 0 = .ok (.iload_n 1, 1) := by decide +kernel
theorem dX5_longerSays_1 : decode cX5_longerSays 1 = .ok (.invokestatic 123, 3) := by decide +kernel
theorem dX5_longerSays_4 : decode cX5_longerSays 4 = .ok (.istore_n 3, 1) := by decide +kernel
theorem dX5_longerSays_5 : decode cX5_longerSays 5 = .ok (.iconst 0, 1) := by decide +kernel
theorem dX5_longerSays_6 : decode cX5_longerSays 6 = .ok (.istore 4, 2) := by decide +kernel
theorem dX5_longerSays_8 : decode cX5_longerSays 8 = .ok (.iload_n 3, 1) := by decide +kernel
theorem dX5_longerSays_9 : decode cX5_longerSays 9 = .ok (.iconst 4, 1) := by decide +kernel
theorem dX5_longerSays_10 : decode cX5_longerSays 10 = .ok (.if_icmp .ge 49, 3) := by decide +kernel
theorem dX5_longerSays_13 : decode cX5_longerSays 13 = .ok (.iload 4, 2) := by decide +kernel
theorem dX5_longerSays_15 : decode cX5_longerSays 15 = .ok (.iload_n 3, 1) := by decide +kernel
theorem dX5_longerSays_16 : decode cX5_longerSays 16 = .ok (.if_icmp .gt 43, 3) := by decide +kernel
theorem dX5_longerSays_19 : decode cX5_longerSays 19 = .ok (.iconst 0, 1) := by decide +kernel
theorem dX5_longerSays_20 : decode cX5_longerSays 20 = .ok (.istore 5, 2) := by decide +kernel
theorem dX5_longerSays_22 : decode cX5_longerSays 22 = .ok (.iload 5, 2) := by decide +kernel
theorem dX5_longerSays_24 : decode cX5_longerSays 24 = .ok (.bipush 16, 2) := by decide +kernel
theorem dX5_longerSays_26 : decode cX5_longerSays 26 = .ok (.if_icmp .ge 27, 3) := by decide +kernel
theorem dX5_longerSays_29 : decode cX5_longerSays 29 = .ok (.aload_n 0, 1) := by decide +kernel
theorem dX5_longerSays_30 : decode cX5_longerSays 30 = .ok (.iload_n 1, 1) := by decide +kernel
theorem dX5_longerSays_31 : decode cX5_longerSays 31 = .ok (.iload 4, 2) := by decide +kernel
theorem dX5_longerSays_33 : decode cX5_longerSays 33 = .ok (.iload 5, 2) := by decide +kernel
theorem dX5_longerSays_35 : decode cX5_longerSays 35 = .ok (.invokestatic 215, 3) := by decide +kernel
theorem dX5_longerSays_38 : decode cX5_longerSays 38 = .ok (.invokevirtual 85, 3) := by decide +kernel
theorem dX5_longerSays_41 : decode cX5_longerSays 41 = .ok (.iload_n 2, 1) := by decide +kernel
theorem dX5_longerSays_42 : decode cX5_longerSays 42 = .ok (.if_icmp .ne 5, 3) := by decide +kernel
theorem dX5_longerSays_45 : decode cX5_longerSays 45 = .ok (.iconst 1, 1) := by decide +kernel
theorem dX5_longerSays_46 : decode cX5_longerSays 46 = .ok (.ireturn, 1) := by decide +kernel
theorem dX5_longerSays_47 : decode cX5_longerSays 47 = .ok (.iinc 5 1, 3) := by decide +kernel
theorem dX5_longerSays_50 : decode cX5_longerSays 50 = .ok (.goto (-28), 3) := by decide +kernel
theorem dX5_longerSays_53 : decode cX5_longerSays 53 = .ok (.iinc 4 1, 3) := by decide +kernel
theorem dX5_longerSays_56 : decode cX5_longerSays 56 = .ok (.goto (-48), 3) := by decide +kernel
theorem dX5_longerSays_59 : decode cX5_longerSays 59 = .ok (.iconst 0, 1) := by decide +kernel
theorem dX5_longerSays_60 : decode cX5_longerSays 60 = .ok (.ireturn, 1) := by decide +kernel
theorem dX5_narrowerSays_0 : decode cX5_narrowerSays 0 = .ok (.iload_n 1, 1) := by decide +kernel
theorem dX5_narrowerSays_1 : decode cX5_narrowerSays 1 = .ok (.invokestatic 123, 3) := by decide +kernel
theorem dX5_narrowerSays_4 : decode cX5_narrowerSays 4 = .ok (.istore_n 3, 1) := by decide +kernel
theorem dX5_narrowerSays_5 : decode cX5_narrowerSays 5 = .ok (.iconst 0, 1) := by decide +kernel
theorem dX5_narrowerSays_6 : decode cX5_narrowerSays 6 = .ok (.istore 4, 2) := by decide +kernel
theorem dX5_narrowerSays_8 : decode cX5_narrowerSays 8 = .ok (.iload 4, 2) := by decide +kernel
theorem dX5_narrowerSays_10 : decode cX5_narrowerSays 10 = .ok (.iload_n 3, 1) := by decide +kernel
theorem dX5_narrowerSays_11 : decode cX5_narrowerSays 11 = .ok (.if_icmp .ge 65, 3) := by decide +kernel
theorem dX5_narrowerSays_14 : decode cX5_narrowerSays 14 = .ok (.iload_n 1, 1) := by decide +kernel
theorem dX5_narrowerSays_15 : decode cX5_narrowerSays 15 = .ok (.iload 4, 2) := by decide +kernel
theorem dX5_narrowerSays_17 : decode cX5_narrowerSays 17 = .ok (.invokestatic 137, 3) := by decide +kernel
theorem dX5_narrowerSays_20 : decode cX5_narrowerSays 20 = .ok (.istore 5, 2) := by decide +kernel
theorem dX5_narrowerSays_22 : decode cX5_narrowerSays 22 = .ok (.iconst 0, 1) := by decide +kernel
theorem dX5_narrowerSays_23 : decode cX5_narrowerSays 23 = .ok (.istore 6, 2) := by decide +kernel
theorem dX5_narrowerSays_25 : decode cX5_narrowerSays 25 = .ok (.iload 6, 2) := by decide +kernel
theorem dX5_narrowerSays_27 : decode cX5_narrowerSays 27 = .ok (.bipush 16, 2) := by decide +kernel
theorem dX5_narrowerSays_29 : decode cX5_narrowerSays 29 = .ok (.if_icmp .ge 41, 3) := by decide +kernel
theorem dX5_narrowerSays_32 : decode cX5_narrowerSays 32 = .ok (.aload_n 0, 1) := by decide +kernel
theorem dX5_narrowerSays_33 : decode cX5_narrowerSays 33 = .ok (.getfield 10, 3) := by decide +kernel
theorem dX5_narrowerSays_36 : decode cX5_narrowerSays 36 = .ok (.iload 6, 2) := by decide +kernel
theorem dX5_narrowerSays_38 : decode cX5_narrowerSays 38 = .ok (.iload 5, 2) := by decide +kernel
theorem dX5_narrowerSays_40 : decode cX5_narrowerSays 40 = .ok (.invokevirtual 221, 3) := by decide +kernel
theorem dX5_narrowerSays_43 : decode cX5_narrowerSays 43 = .ok (.ifCond .eq 21, 3) := by decide +kernel
theorem dX5_narrowerSays_46 : decode cX5_narrowerSays 46 = .ok (.aload_n 0, 1) := by decide +kernel
theorem dX5_narrowerSays_47 : decode cX5_narrowerSays 47 = .ok (.iload_n 1, 1) := by decide +kernel
theorem dX5_narrowerSays_48 : decode cX5_narrowerSays 48 = .ok (.iload 4, 2) := by decide +kernel
theorem dX5_narrowerSays_50 : decode cX5_narrowerSays 50 = .ok (.iload 6, 2) := by decide +kernel
theorem dX5_narrowerSays_52 : decode cX5_narrowerSays 52 = .ok (.invokestatic 224, 3) := by decide +kernel
theorem dX5_narrowerSays_55 : decode cX5_narrowerSays 55 = .ok (.invokevirtual 85, 3) := by decide +kernel
theorem dX5_narrowerSays_58 : decode cX5_narrowerSays 58 = .ok (.iload_n 2, 1) := by decide +kernel
theorem dX5_narrowerSays_59 : decode cX5_narrowerSays 59 = .ok (.if_icmp .ne 5, 3) := by decide +kernel
theorem dX5_narrowerSays_62 : decode cX5_narrowerSays 62 = .ok (.iconst 1, 1) := by decide +kernel
theorem dX5_narrowerSays_63 : decode cX5_narrowerSays 63 = .ok (.ireturn, 1) := by decide +kernel
theorem dX5_narrowerSays_64 : decode cX5_narrowerSays 64 = .ok (.iinc 6 1, 3) := by decide +kernel
theorem dX5_narrowerSays_67 : decode cX5_narrowerSays 67 = .ok (.goto (-42), 3) := by decide +kernel
theorem dX5_narrowerSays_70 : decode cX5_narrowerSays 70 = .ok (.iinc 4 1, 3) := by decide +kernel
theorem dX5_narrowerSays_73 : decode cX5_narrowerSays 73 = .ok (.goto (-65), 3) := by decide +kernel
theorem dX5_narrowerSays_76 : decode cX5_narrowerSays 76 = .ok (.iconst 0, 1) := by decide +kernel
theorem dX5_narrowerSays_77 : decode cX5_narrowerSays 77 = .ok (.ireturn, 1) := by decide +kernel
theorem dX5_howFarApart_0 : decode cX5_howFarApart 0 = .ok (.iload_n 0, 1) := by decide +kernel
theorem dX5_howFarApart_1 : decode cX5_howFarApart 1 = .ok (.iload_n 1, 1) := by decide +kernel
theorem dX5_howFarApart_2 : decode cX5_howFarApart 2 = .ok (.iand, 1) := by decide +kernel
theorem dX5_howFarApart_3 : decode cX5_howFarApart 3 = .ok (.invokestatic 132, 3) := by decide +kernel
theorem dX5_howFarApart_6 : decode cX5_howFarApart 6 = .ok (.istore_n 3, 1) := by decide +kernel
theorem dX5_howFarApart_7 : decode cX5_howFarApart 7 = .ok (.iload_n 0, 1) := by decide +kernel
theorem dX5_howFarApart_8 : decode cX5_howFarApart 8 = .ok (.iload_n 2, 1) := by decide +kernel
theorem dX5_howFarApart_9 : decode cX5_howFarApart 9 = .ok (.iand, 1) := by decide +kernel
theorem dX5_howFarApart_10 : decode cX5_howFarApart 10 = .ok (.invokestatic 132, 3) := by decide +kernel
theorem dX5_howFarApart_13 : decode cX5_howFarApart 13 = .ok (.istore 4, 2) := by decide +kernel
theorem dX5_howFarApart_15 : decode cX5_howFarApart 15 = .ok (.iload_n 3, 1) := by decide +kernel
theorem dX5_howFarApart_16 : decode cX5_howFarApart 16 = .ok (.iload_n 2, 1) := by decide +kernel
theorem dX5_howFarApart_17 : decode cX5_howFarApart 17 = .ok (.invokestatic 132, 3) := by decide +kernel
theorem dX5_howFarApart_20 : decode cX5_howFarApart 20 = .ok (.imul, 1) := by decide +kernel
theorem dX5_howFarApart_21 : decode cX5_howFarApart 21 = .ok (.iload 4, 2) := by decide +kernel
theorem dX5_howFarApart_23 : decode cX5_howFarApart 23 = .ok (.iload_n 1, 1) := by decide +kernel
theorem dX5_howFarApart_24 : decode cX5_howFarApart 24 = .ok (.invokestatic 132, 3) := by decide +kernel
theorem dX5_howFarApart_27 : decode cX5_howFarApart 27 = .ok (.imul, 1) := by decide +kernel
theorem dX5_howFarApart_28 : decode cX5_howFarApart 28 = .ok (.isub, 1) := by decide +kernel
theorem dX5_howFarApart_29 : decode cX5_howFarApart 29 = .ok (.invokestatic 227, 3) := by decide +kernel
theorem dX5_howFarApart_32 : decode cX5_howFarApart 32 = .ok (.ireturn, 1) := by decide +kernel
theorem dX5_chanceAhead_0 : decode cX5_chanceAhead 0 = .ok (.iload_n 0, 1) := by decide +kernel
theorem dX5_chanceAhead_1 : decode cX5_chanceAhead 1 = .ok (.iload_n 0, 1) := by decide +kernel
theorem dX5_chanceAhead_2 : decode cX5_chanceAhead 2 = .ok (.iload_n 1, 1) := by decide +kernel
theorem dX5_chanceAhead_3 : decode cX5_chanceAhead 3 = .ok (.iadd, 1) := by decide +kernel
theorem dX5_chanceAhead_4 : decode cX5_chanceAhead 4 = .ok (.invokestatic 230, 3) := by decide +kernel
theorem dX5_chanceAhead_7 : decode cX5_chanceAhead 7 = .ok (.lstore_n 2, 1) := by decide +kernel
theorem dX5_chanceAhead_8 : decode cX5_chanceAhead 8 = .ok (.lload_n 2, 1) := by decide +kernel
theorem dX5_chanceAhead_9 : decode cX5_chanceAhead 9 = .ok (.lconst 1, 1) := by decide +kernel
theorem dX5_chanceAhead_10 : decode cX5_chanceAhead 10 = .ok (.lcmp, 1) := by decide +kernel
theorem dX5_chanceAhead_11 : decode cX5_chanceAhead 11 = .ok (.ifCond .gt 7, 3) := by decide +kernel
theorem dX5_chanceAhead_14 : decode cX5_chanceAhead 14 = .ok (.lconst 0, 1) := by decide +kernel
theorem dX5_chanceAhead_15 : decode cX5_chanceAhead 15 = .ok (.goto 12, 3) := by decide +kernel
theorem dX5_chanceAhead_18 : decode cX5_chanceAhead 18 = .ok (.ldc2_w 233, 3) := by decide +kernel
theorem dX5_chanceAhead_21 : decode cX5_chanceAhead 21 = .ok (.ldc2_w 233, 3) := by decide +kernel
theorem dX5_chanceAhead_24 : decode cX5_chanceAhead 24 = .ok (.lload_n 2, 1) := by decide +kernel
theorem dX5_chanceAhead_25 : decode cX5_chanceAhead 25 = .ok (.ldiv, 1) := by decide +kernel
theorem dX5_chanceAhead_26 : decode cX5_chanceAhead 26 = .ok (.lsub, 1) := by decide +kernel
theorem dX5_chanceAhead_27 : decode cX5_chanceAhead 27 = .ok (.lreturn, 1) := by decide +kernel
theorem dX5_waysToChoose_0 : decode cX5_waysToChoose 0 = .ok (.lconst 1, 1) := by decide +kernel
theorem dX5_waysToChoose_1 : decode cX5_waysToChoose 1 = .ok (.lstore_n 2, 1) := by decide +kernel
theorem dX5_waysToChoose_2 : decode cX5_waysToChoose 2 = .ok (.iconst 1, 1) := by decide +kernel
theorem dX5_waysToChoose_3 : decode cX5_waysToChoose 3 = .ok (.istore 4, 2) := by decide +kernel
theorem dX5_waysToChoose_5 : decode cX5_waysToChoose 5 = .ok (.iload 4, 2) := by decide +kernel
theorem dX5_waysToChoose_7 : decode cX5_waysToChoose 7 = .ok (.iload_n 0, 1) := by decide +kernel
theorem dX5_waysToChoose_8 : decode cX5_waysToChoose 8 = .ok (.if_icmp .gt 23, 3) := by decide +kernel
theorem dX5_waysToChoose_11 : decode cX5_waysToChoose 11 = .ok (.lload_n 2, 1) := by decide +kernel
theorem dX5_waysToChoose_12 : decode cX5_waysToChoose 12 = .ok (.iload_n 1, 1) := by decide +kernel
theorem dX5_waysToChoose_13 : decode cX5_waysToChoose 13 = .ok (.iload_n 0, 1) := by decide +kernel
theorem dX5_waysToChoose_14 : decode cX5_waysToChoose 14 = .ok (.isub, 1) := by decide +kernel
theorem dX5_waysToChoose_15 : decode cX5_waysToChoose 15 = .ok (.iload 4, 2) := by decide +kernel
theorem dX5_waysToChoose_17 : decode cX5_waysToChoose 17 = .ok (.iadd, 1) := by decide +kernel
theorem dX5_waysToChoose_18 : decode cX5_waysToChoose 18 = .ok (.i2l, 1) := by decide +kernel
theorem dX5_waysToChoose_19 : decode cX5_waysToChoose 19 = .ok (.lmul, 1) := by decide +kernel
theorem dX5_waysToChoose_20 : decode cX5_waysToChoose 20 = .ok (.iload 4, 2) := by decide +kernel
theorem dX5_waysToChoose_22 : decode cX5_waysToChoose 22 = .ok (.i2l, 1) := by decide +kernel
theorem dX5_waysToChoose_23 : decode cX5_waysToChoose 23 = .ok (.ldiv, 1) := by decide +kernel
theorem dX5_waysToChoose_24 : decode cX5_waysToChoose 24 = .ok (.lstore_n 2, 1) := by decide +kernel
theorem dX5_waysToChoose_25 : decode cX5_waysToChoose 25 = .ok (.iinc 4 1, 3) := by decide +kernel
theorem dX5_waysToChoose_28 : decode cX5_waysToChoose 28 = .ok (.goto (-23), 3) := by decide +kernel
theorem dX5_waysToChoose_31 : decode cX5_waysToChoose 31 = .ok (.lload_n 2, 1) := by decide +kernel
theorem dX5_waysToChoose_32 : decode cX5_waysToChoose 32 = .ok (.lreturn, 1) := by decide +kernel
theorem dX6_init_0 : decode cX6_init 0 = .ok (.aload_n 0, 1) := by decide +kernel
theorem dX6_init_1 : decode cX6_init 1 = .ok (.invokespecial 1, 3) := by decide +kernel
theorem dX6_init_4 : decode cX6_init 4 = .ok (.aload_n 0, 1) := by decide +kernel
theorem dX6_init_5 : decode cX6_init 5 = .ok (.bipush 100, 2) := by decide +kernel
theorem dX6_init_7 : decode cX6_init 7 = .ok (.putfield 7, 3) := by decide +kernel
theorem dX6_init_10 : decode cX6_init 10 = .ok (.aload_n 0, 1) := by decide +kernel
theorem dX6_init_11 : decode cX6_init 11 = .ok (.sipush 1000, 3) := by decide +kernel
theorem dX6_init_14 : decode cX6_init 14 = .ok (.putfield 13, 3) := by decide +kernel
theorem dX6_init_17 : decode cX6_init 17 = .ok (.aload_n 0, 1) := by decide +kernel
theorem dX6_init_18 : decode cX6_init 18 = .ok (.bipush 16, 2) := by decide +kernel
theorem dX6_init_20 : decode cX6_init 20 = .ok (.newarray .int, 2) := by decide +kernel
theorem dX6_init_22 : decode cX6_init 22 = .ok (.putfield 16, 3) := by decide +kernel
theorem dX6_init_25 : decode cX6_init 25 = .ok (.aload_n 0, 1) := by decide +kernel
theorem dX6_init_26 : decode cX6_init 26 = .ok (.bipush 24, 2) := by decide +kernel
theorem dX6_init_28 : decode cX6_init 28 = .ok (.newarray .int, 2) := by decide +kernel
theorem dX6_init_30 : decode cX6_init 30 = .ok (.putfield 20, 3) := by decide +kernel
theorem dX6_init_33 : decode cX6_init 33 = .ok (.aload_n 0, 1) := by decide +kernel
theorem dX6_init_34 : decode cX6_init 34 = .ok (.bipush 24, 2) := by decide +kernel
theorem dX6_init_36 : decode cX6_init 36 = .ok (.newarray .boolean, 2) := by decide +kernel
theorem dX6_init_38 : decode cX6_init 38 = .ok (.putfield 23, 3) := by decide +kernel
theorem dX6_init_41 : decode cX6_init 41 = .ok (.aload_n 0, 1) := by decide +kernel
theorem dX6_init_42 : decode cX6_init 42 = .ok (.bipush 24, 2) := by decide +kernel
theorem dX6_init_44 : decode cX6_init 44 = .ok (.newarray .int, 2) := by decide +kernel
theorem dX6_init_46 : decode cX6_init 46 = .ok (.putfield 27, 3) := by decide +kernel
theorem dX6_init_49 : decode cX6_init 49 = .ok (.aload_n 0, 1) := by decide +kernel
theorem dX6_init_50 : decode cX6_init 50 = .ok (.sipush 720, 3) := by decide +kernel
theorem dX6_init_53 : decode cX6_init 53 = .ok (.newarray .int, 2) := by decide +kernel
theorem dX6_init_55 : decode cX6_init 55 = .ok (.putfield 30, 3) := by decide +kernel
theorem dX6_init_58 : decode cX6_init 58 = .ok (.aload_n 0, 1) := by decide +kernel
theorem dX6_init_59 : decode cX6_init 59 = .ok (.sipush 720, 3) := by decide +kernel
theorem dX6_init_62 : decode cX6_init 62 = .ok (.newarray .int, 2) := by decide +kernel
theorem dX6_init_64 : decode cX6_init 64 = .ok (.putfield 33, 3) := by decide +kernel
theorem dX6_init_67 : decode cX6_init 67 = .ok (.aload_n 0, 1) := by decide +kernel
theorem dX6_init_68 : decode cX6_init 68 = .ok (.sipush 8000, 3) := by decide +kernel
theorem dX6_init_71 : decode cX6_init 71 = .ok (.newarray .int, 2) := by decide +kernel
theorem dX6_init_73 : decode cX6_init 73 = .ok (.putfield 36, 3) := by decide +kernel
theorem dX6_init_76 : decode cX6_init 76 = .ok (.aload_n 0, 1) := by decide +kernel
theorem dX6_init_77 : decode cX6_init 77 = .ok (.sipush 2000, 3) := by decide +kernel
theorem dX6_init_80 : decode cX6_init 80 = .ok (.newarray .int, 2) := by decide +kernel
theorem dX6_init_82 : decode cX6_init 82 = .ok (.putfield 39, 3) := by decide +kernel
theorem dX6_init_85 : decode cX6_init 85 = .ok (.aload_n 0, 1) := by decide +kernel
theorem dX6_init_86 : decode cX6_init 86 = .ok (.sipush 2000, 3) := by decide +kernel
theorem dX6_init_89 : decode cX6_init 89 = .ok (.newarray .int, 2) := by decide +kernel
theorem dX6_init_91 : decode cX6_init 91 = .ok (.putfield 42, 3) := by decide +kernel
theorem dX6_init_94 : decode cX6_init 94 = .ok (.aload_n 0, 1) := by decide +kernel
theorem dX6_init_95 : decode cX6_init 95 = .ok (.iconst 4, 1) := by decide +kernel
theorem dX6_init_96 : decode cX6_init 96 = .ok (.newarray .int, 2) := by decide +kernel
theorem dX6_init_98 : decode cX6_init 98 = .ok (.putfield 45, 3) := by decide +kernel
theorem dX6_init_101 : decode cX6_init 101 = .ok (.aload_n 0, 1) := by decide +kernel
theorem dX6_init_102 : decode cX6_init 102 = .ok (.sipush 384, 3) := by decide +kernel
theorem dX6_init_105 : decode cX6_init 105 = .ok (.newarray .int, 2) := by decide +kernel
theorem dX6_init_107 : decode cX6_init 107 = .ok (.putfield 48, 3) := by decide +kernel
theorem dX6_init_110 : decode cX6_init 110 = .ok (.aload_n 0, 1) := by decide +kernel
theorem dX6_init_111 : decode cX6_init 111 = .ok (.sipush 720, 3) := by decide +kernel
theorem dX6_init_114 : decode cX6_init 114 = .ok (.newarray .int, 2) := by decide +kernel
theorem dX6_init_116 : decode cX6_init 116 = .ok (.putfield 51, 3) := by decide +kernel
theorem dX6_init_119 : decode cX6_init 119 = .ok (.aload_n 0, 1) := by decide +kernel
theorem dX6_init_120 : decode cX6_init 120 = .ok (.sipush 720, 3) := by decide +kernel
theorem dX6_init_123 : decode cX6_init 123 = .ok (.newarray .int, 2) := by decide +kernel
theorem dX6_init_125 : decode cX6_init 125 = .ok (.putfield 54, 3) := by decide +kernel
theorem dX6_init_128 : decode cX6_init 128 = .ok (.aload_n 0, 1) := by decide +kernel
theorem dX6_init_129 : decode cX6_init 129 = .ok (.iconst 4, 1) := by decide +kernel
theorem dX6_init_130 : decode cX6_init 130 = .ok (.newarray .int, 2) := by decide +kernel
theorem dX6_init_132 : decode cX6_init 132 = .ok (.putfield 57, 3) := by decide +kernel
theorem dX6_init_135 : decode cX6_init 135 = .ok (.iconst 0, 1) := by decide +kernel
theorem dX6_init_136 : decode cX6_init 136 = .ok (.istore_n 1, 1) := by decide +kernel
theorem dX6_init_137 : decode cX6_init 137 = .ok (.iload_n 1, 1) := by decide +kernel
theorem dX6_init_138 : decode cX6_init 138 = .ok (.bipush 16, 2) := by decide +kernel
theorem dX6_init_140 : decode cX6_init 140 = .ok (.if_icmp .ge 16, 3) := by decide +kernel
theorem dX6_init_143 : decode cX6_init 143 = .ok (.aload_n 0, 1) := by decide +kernel
theorem dX6_init_144 : decode cX6_init 144 = .ok (.getfield 16, 3) := by decide +kernel
theorem dX6_init_147 : decode cX6_init 147 = .ok (.iload_n 1, 1) := by decide +kernel
theorem dX6_init_148 : decode cX6_init 148 = .ok (.iconst (-1), 1) := by decide +kernel
theorem dX6_init_149 : decode cX6_init 149 = .ok (.iastore, 1) := by decide +kernel
theorem dX6_init_150 : decode cX6_init 150 = .ok (.iinc 1 1, 3) := by decide +kernel
theorem dX6_init_153 : decode cX6_init 153 = .ok (.goto (-16), 3) := by decide +kernel
theorem dX6_init_156 : decode cX6_init 156 = .ok (.return_, 1) := by decide +kernel
theorem dX6_lies_0 : decode cX6_lies 0 = .ok (.iload_n 0, 1) := by decide +kernel
theorem dX6_lies_1 : decode cX6_lies 1 = .ok (.iload_n 1, 1) := by decide +kernel
theorem dX6_lies_2 : decode cX6_lies 2 = .ok (.if_icmp .lt 12, 3) := by decide +kernel
theorem dX6_lies_5 : decode cX6_lies 5 = .ok (.iload_n 0, 1) := by decide +kernel
theorem dX6_lies_6 : decode cX6_lies 6 = .ok (.iload_n 2, 1) := by decide +kernel
theorem dX6_lies_7 : decode cX6_lies 7 = .ok (.if_icmp .gt 7, 3) := by decide +kernel
theorem dX6_lies_10 : decode cX6_lies 10 = .ok (.iconst 1, 1) := by decide +kernel
theorem dX6_lies_11 : decode cX6_lies 11 = .ok (.goto 4, 3) := by decide +kernel
theorem dX6_lies_14 : decode cX6_lies 14 = .ok (.iconst 0, 1) := by decide +kernel
theorem dX6_lies_15 : decode cX6_lies 15 = .ok (.ireturn, 1) := by decide +kernel
theorem dX6_isKind_0 : decode cX6_isKind 0 = .ok (.iload_n 0, 1) := by decide +kernel
theorem dX6_isKind_1 : decode cX6_isKind 1 = .ok (.iconst 0, 1) := by decide +kernel
theorem dX6_isKind_2 : decode cX6_isKind 2 = .ok (.bipush 15, 2) := by decide +kernel
theorem dX6_isKind_4 : decode cX6_isKind 4 = .ok (.invokestatic 60, 3) := by decide +kernel
theorem dX6_isKind_7 : decode cX6_isKind 7 = .ok (.ireturn, 1) := by decide +kernel
theorem dX6_isRow_0 : decode cX6_isRow 0 = .ok (.iload_n 1, 1) := by decide +kernel
theorem dX6_isRow_1 : decode cX6_isRow 1 = .ok (.iconst 0, 1) := by decide +kernel
theorem dX6_isRow_2 : decode cX6_isRow 2 = .ok (.aload_n 0, 1) := by decide +kernel
theorem dX6_isRow_3 : decode cX6_isRow 3 = .ok (.getfield 64, 3) := by decide +kernel
theorem dX6_isRow_6 : decode cX6_isRow 6 = .ok (.iconst 1, 1) := by decide +kernel
theorem dX6_isRow_7 : decode cX6_isRow 7 = .ok (.isub, 1) := by decide +kernel
theorem dX6_isRow_8 : decode cX6_isRow 8 = .ok (.invokestatic 60, 3) := by decide +kernel
theorem dX6_isRow_11 : decode cX6_isRow 11 = .ok (.ireturn, 1) := by decide +kernel
theorem dX6_isOf_0 : decode cX6_isOf 0 = .ok (.iload_n 1, 1) := by decide +kernel
theorem dX6_isOf_1 : decode cX6_isOf 1 = .ok (.istore_n 3, 1) := by decide +kernel
theorem dX6_isOf_2 : decode cX6_isOf 2 = .ok (.iload_n 3, 1) := by decide +kernel
theorem dX6_isOf_3 : decode cX6_isOf 3 = .ok (.iconst (-1), 1) := by decide +kernel
theorem dX6_isOf_4 : decode cX6_isOf 4 = .ok (.if_icmp .eq 18, 3) := by decide +kernel
theorem dX6_isOf_7 : decode cX6_isOf 7 = .ok (.iload_n 3, 1) := by decide +kernel
theorem dX6_isOf_8 : decode cX6_isOf 8 = .ok (.iload_n 2, 1) := by decide +kernel
theorem dX6_isOf_9 : decode cX6_isOf 9 = .ok (.if_icmp .eq 13, 3) := by decide +kernel
theorem dX6_isOf_12 : decode cX6_isOf 12 = .ok (.aload_n 0, 1) := by decide +kernel
theorem dX6_isOf_13 : decode cX6_isOf 13 = .ok (.getfield 16, 3) := by decide +kernel
theorem dX6_isOf_16 : decode cX6_isOf 16 = .ok (.iload_n 3, 1) := by decide +kernel
theorem dX6_isOf_17 : decode cX6_isOf 17 = .ok (.iaload, 1) := by decide +kernel
theorem dX6_isOf_18 : decode cX6_isOf 18 = .ok (.istore_n 3, 1) := by decide +kernel
theorem dX6_isOf_19 : decode cX6_isOf 19 = .ok (.goto (-17), 3) := by decide +kernel
theorem dX6_isOf_22 : decode cX6_isOf 22 = .ok (.iload_n 3, 1) := by decide +kernel
theorem dX6_isOf_23 : decode cX6_isOf 23 = .ok (.iload_n 2, 1) := by decide +kernel
theorem dX6_isOf_24 : decode cX6_isOf 24 = .ok (.if_icmp .ne 7, 3) := by decide +kernel
theorem dX6_isOf_27 : decode cX6_isOf 27 = .ok (.iconst 1, 1) := by decide +kernel
theorem dX6_isOf_28 : decode cX6_isOf 28 = .ok (.goto 4, 3) := by decide +kernel
theorem dX6_isOf_31 : decode cX6_isOf 31 = .ok (.iconst 0, 1) := by decide +kernel
theorem dX6_isOf_32 : decode cX6_isOf 32 = .ok (.ireturn, 1) := by decide +kernel
theorem dX6_under_0 : decode cX6_under 0 = .ok (.iload_n 1, 1) := by decide +kernel
theorem dX6_under_1 : decode cX6_under 1 = .ok (.invokestatic 67, 3) := by decide +kernel
theorem dX6_under_4 : decode cX6_under 4 = .ok (.ifCond .eq 24, 3) := by decide +kernel
theorem dX6_under_7 : decode cX6_under 7 = .ok (.iload_n 2, 1) := by decide +kernel
theorem dX6_under_8 : decode cX6_under 8 = .ok (.iconst (-1), 1) := by decide +kernel
theorem dX6_under_9 : decode cX6_under 9 = .ok (.if_icmp .eq 21, 3) := by decide +kernel
theorem dX6_under_12 : decode cX6_under 12 = .ok (.iload_n 2, 1) := by decide +kernel
theorem dX6_under_13 : decode cX6_under 13 = .ok (.invokestatic 67, 3) := by decide +kernel
theorem dX6_under_16 : decode cX6_under 16 = .ok (.ifCond .eq 12, 3) := by decide +kernel
theorem dX6_under_19 : decode cX6_under 19 = .ok (.aload_n 0, 1) := by decide +kernel
theorem dX6_under_20 : decode cX6_under 20 = .ok (.iload_n 2, 1) := by decide +kernel
theorem dX6_under_21 : decode cX6_under 21 = .ok (.iload_n 1, 1) := by decide +kernel
theorem dX6_under_22 : decode cX6_under 22 = .ok (.invokevirtual 71, 3) := by decide +kernel
theorem dX6_under_25 : decode cX6_under 25 = .ok (.ifCond .eq 5, 3) := by decide +kernel
theorem dX6_under_28 : decode cX6_under 28 = .ok (.iconst 0, 1) := by decide +kernel
theorem dX6_under_29 : decode cX6_under 29 = .ok (.ireturn, 1) := by decide +kernel
theorem dX6_under_30 : decode cX6_under 30 = .ok (.aload_n 0, 1) := by decide +kernel
theorem dX6_under_31 : decode cX6_under 31 = .ok (.getfield 16, 3) := by decide +kernel
theorem dX6_under_34 : decode cX6_under 34 = .ok (.iload_n 1, 1) := by decide +kernel
theorem dX6_under_35 : decode cX6_under 35 = .ok (.iload_n 2, 1) := by decide +kernel
theorem dX6_under_36 : decode cX6_under 36 = .ok (.iastore, 1) := by decide +kernel
theorem dX6_under_37 : decode cX6_under 37 = .ok (.iconst 1, 1) := by decide +kernel
theorem dX6_under_38 : decode cX6_under 38 = .ok (.ireturn, 1) := by decide +kernel
theorem dX6_isUnder_0 : decode cX6_isUnder 0 = .ok (.iload_n 1, 1) := by decide +kernel
theorem dX6_isUnder_1 : decode cX6_isUnder 1 = .ok (.invokestatic 67, 3) := by decide +kernel
theorem dX6_isUnder_4 : decode cX6_isUnder 4 = .ok (.ifCond .eq 10, 3) := by decide +kernel
theorem dX6_isUnder_7 : decode cX6_isUnder 7 = .ok (.iload_n 2, 1) := by decide +kernel
theorem dX6_isUnder_8 : decode cX6_isUnder 8 = .ok (.invokestatic 67, 3) := by decide +kernel
theorem dX6_isUnder_11 : decode cX6_isUnder 11 = .ok (.ifCond .ne 7, 3) := by decide +kernel
theorem dX6_isUnder_14 : decode cX6_isUnder 14 = .ok (.iconst (-1), 1) := by decide +kernel
theorem dX6_isUnder_15 : decode cX6_isUnder 15 = .ok (.goto 22, 3) := by decide +kernel
theorem dX6_isUnder_18 : decode cX6_isUnder 18 = .ok (.iload_n 1, 1) := by decide +kernel
theorem dX6_isUnder_19 : decode cX6_isUnder 19 = .ok (.iload_n 2, 1) := by decide +kernel
theorem dX6_isUnder_20 : decode cX6_isUnder 20 = .ok (.if_icmp .eq 16, 3) := by decide +kernel
theorem dX6_isUnder_23 : decode cX6_isUnder 23 = .ok (.aload_n 0, 1) := by decide +kernel
theorem dX6_isUnder_24 : decode cX6_isUnder 24 = .ok (.iload_n 1, 1) := by decide +kernel
theorem dX6_isUnder_25 : decode cX6_isUnder 25 = .ok (.iload_n 2, 1) := by decide +kernel
theorem dX6_isUnder_26 : decode cX6_isUnder 26 = .ok (.invokevirtual 71, 3) := by decide +kernel
theorem dX6_isUnder_29 : decode cX6_isUnder 29 = .ok (.ifCond .eq 7, 3) := by decide +kernel
theorem dX6_isUnder_32 : decode cX6_isUnder 32 = .ok (.iconst 1, 1) := by decide +kernel
theorem dX6_isUnder_33 : decode cX6_isUnder 33 = .ok (.goto 4, 3) := by decide +kernel
theorem dX6_isUnder_36 : decode cX6_isUnder 36 = .ok (.iconst 0, 1) := by decide +kernel
theorem dX6_isUnder_37 : decode cX6_isUnder 37 = .ok (.ireturn, 1) := by decide +kernel
theorem dX6_row_0 : decode cX6_row 0 = .ok (.iload_n 1, 1) := by decide +kernel
theorem dX6_row_1 : decode cX6_row 1 = .ok (.iconst 0, 1) := by decide +kernel
theorem dX6_row_2 : decode cX6_row 2 = .ok (.iconst 1, 1) := by decide +kernel
theorem dX6_row_3 : decode cX6_row 3 = .ok (.invokestatic 60, 3) := by decide +kernel
theorem dX6_row_6 : decode cX6_row 6 = .ok (.ifCond .eq 12, 3) := by decide +kernel
theorem dX6_row_9 : decode cX6_row 9 = .ok (.aload_n 0, 1) := by decide +kernel
theorem dX6_row_10 : decode cX6_row 10 = .ok (.getfield 64, 3) := by decide +kernel
theorem dX6_row_13 : decode cX6_row 13 = .ok (.bipush 24, 2) := by decide +kernel
theorem dX6_row_15 : decode cX6_row 15 = .ok (.if_icmp .ne 5, 3) := by decide +kernel
theorem dX6_row_18 : decode cX6_row 18 = .ok (.iconst (-1), 1) := by decide +kernel
theorem dX6_row_19 : decode cX6_row 19 = .ok (.ireturn, 1) := by decide +kernel
theorem dX6_row_20 : decode cX6_row 20 = .ok (.aload_n 0, 1) := by decide +kernel
theorem dX6_row_21 : decode cX6_row 21 = .ok (.getfield 20, 3) := by decide +kernel
theorem dX6_row_24 : decode cX6_row 24 = .ok (.aload_n 0, 1) := by decide +kernel
theorem dX6_row_25 : decode cX6_row 25 = .ok (.getfield 64, 3) := by decide +kernel
theorem dX6_row_28 : decode cX6_row 28 = .ok (.iload_n 1, 1) := by decide +kernel
theorem dX6_row_29 : decode cX6_row 29 = .ok (.iastore, 1) := by decide +kernel
theorem dX6_row_30 : decode cX6_row 30 = .ok (.aload_n 0, 1) := by decide +kernel
theorem dX6_row_31 : decode cX6_row 31 = .ok (.dup, 1) := by decide +kernel
theorem dX6_row_32 : decode cX6_row 32 = .ok (.getfield 64, 3) := by decide +kernel
theorem dX6_row_35 : decode cX6_row 35 = .ok (.iconst 1, 1) := by decide +kernel
theorem dX6_row_36 : decode cX6_row 36 = .ok (.iadd, 1) := by decide +kernel
theorem dX6_row_37 : decode cX6_row 37 = .ok (.putfield 64, 3) := by decide +kernel
theorem dX6_row_40 : decode cX6_row 40 = .ok (.aload_n 0, 1) := by decide +kernel
theorem dX6_row_41 : decode cX6_row 41 = .ok (.getfield 64, 3) := by decide +kernel
theorem dX6_row_44 : decode cX6_row 44 = .ok (.iconst 1, 1) := by decide +kernel
theorem dX6_row_45 : decode cX6_row 45 = .ok (.isub, 1) := by decide +kernel
theorem dX6_row_46 : decode cX6_row 46 = .ok (.ireturn, 1) := by decide +kernel
theorem dX6_put_0 : decode cX6_put 0 = .ok (.aload_n 0, 1) := by decide +kernel
theorem dX6_put_1 : decode cX6_put 1 = .ok (.iload_n 1, 1) := by decide +kernel
theorem dX6_put_2 : decode cX6_put 2 = .ok (.invokevirtual 75, 3) := by decide +kernel
theorem dX6_put_5 : decode cX6_put 5 = .ok (.ifCond .eq 32, 3) := by decide +kernel
theorem dX6_put_8 : decode cX6_put 8 = .ok (.iload_n 2, 1) := by decide +kernel
theorem dX6_put_9 : decode cX6_put 9 = .ok (.iconst 0, 1) := by decide +kernel
theorem dX6_put_10 : decode cX6_put 10 = .ok (.sipush 9999, 3) := by decide +kernel
theorem dX6_put_13 : decode cX6_put 13 = .ok (.invokestatic 60, 3) := by decide +kernel
theorem dX6_put_16 : decode cX6_put 16 = .ok (.ifCond .eq 21, 3) := by decide +kernel
theorem dX6_put_19 : decode cX6_put 19 = .ok (.iload_n 3, 1) := by decide +kernel
theorem dX6_put_20 : decode cX6_put 20 = .ok (.invokestatic 67, 3) := by decide +kernel
theorem dX6_put_23 : decode cX6_put 23 = .ok (.ifCond .eq 14, 3) := by decide +kernel
theorem dX6_put_26 : decode cX6_put 26 = .ok (.aload_n 0, 1) := by decide +kernel
theorem dX6_put_27 : decode cX6_put 27 = .ok (.getfield 27, 3) := by decide +kernel
theorem dX6_put_30 : decode cX6_put 30 = .ok (.iload_n 1, 1) := by decide +kernel
theorem dX6_put_31 : decode cX6_put 31 = .ok (.iaload, 1) := by decide +kernel
theorem dX6_put_32 : decode cX6_put 32 = .ok (.bipush 30, 2) := by decide +kernel
theorem dX6_put_34 : decode cX6_put 34 = .ok (.if_icmp .ne 5, 3) := by decide +kernel
theorem dX6_put_37 : decode cX6_put 37 = .ok (.iconst (-1), 1) := by decide +kernel
theorem dX6_put_38 : decode cX6_put 38 = .ok (.ireturn, 1) := by decide +kernel
theorem dX6_put_39 : decode cX6_put 39 = .ok (.bipush 30, 2) := by decide +kernel
theorem dX6_put_41 : decode cX6_put 41 = .ok (.iload_n 1, 1) := by decide +kernel
theorem dX6_put_42 : decode cX6_put 42 = .ok (.imul, 1) := by decide +kernel
theorem dX6_put_43 : decode cX6_put 43 = .ok (.aload_n 0, 1) := by decide +kernel
theorem dX6_put_44 : decode cX6_put 44 = .ok (.getfield 27, 3) := by decide +kernel
theorem dX6_put_47 : decode cX6_put 47 = .ok (.iload_n 1, 1) := by decide +kernel
theorem dX6_put_48 : decode cX6_put 48 = .ok (.iaload, 1) := by decide +kernel
theorem dX6_put_49 : decode cX6_put 49 = .ok (.iadd, 1) := by decide +kernel
theorem dX6_put_50 : decode cX6_put 50 = .ok (.istore 4, 2) := by decide +kernel
theorem dX6_put_52 : decode cX6_put 52 = .ok (.aload_n 0, 1) := by decide +kernel
theorem dX6_put_53 : decode cX6_put 53 = .ok (.getfield 27, 3) := by decide +kernel
theorem dX6_put_56 : decode cX6_put 56 = .ok (.iload_n 1, 1) := by decide +kernel
theorem dX6_put_57 : decode cX6_put 57 = .ok (.iaload, 1) := by decide +kernel
theorem dX6_put_58 : decode cX6_put 58 = .ok (.ifCond .le 18, 3) := by decide +kernel
theorem dX6_put_61 : decode cX6_put 61 = .ok (.iload_n 2, 1) := by decide +kernel
theorem dX6_put_62 : decode cX6_put 62 = .ok (.aload_n 0, 1) := by decide +kernel
theorem dX6_put_63 : decode cX6_put 63 = .ok (.getfield 30, 3) := by decide +kernel
theorem dX6_put_66 : decode cX6_put 66 = .ok (.iload 4, 2) := by decide +kernel
theorem dX6_put_68 : decode cX6_put 68 = .ok (.iconst 1, 1) := by decide +kernel
theorem dX6_put_69 : decode cX6_put 69 = .ok (.isub, 1) := by decide +kernel
theorem dX6_put_70 : decode cX6_put 70 = .ok (.iaload, 1) := by decide +kernel
theorem dX6_put_71 : decode cX6_put 71 = .ok (.if_icmp .ge 5, 3) := by decide +kernel
theorem dX6_put_74 : decode cX6_put 74 = .ok (.iconst (-1), 1) := by decide +kernel
theorem dX6_put_75 : decode cX6_put 75 = .ok (.ireturn, 1) := by decide +kernel
theorem dX6_put_76 : decode cX6_put 76 = .ok (.aload_n 0, 1) := by decide +kernel
theorem dX6_put_77 : decode cX6_put 77 = .ok (.getfield 30, 3) := by decide +kernel
theorem dX6_put_80 : decode cX6_put 80 = .ok (.iload 4, 2) := by decide +kernel
theorem dX6_put_82 : decode cX6_put 82 = .ok (.iload_n 2, 1) := by decide +kernel
theorem dX6_put_83 : decode cX6_put 83 = .ok (.iastore, 1) := by decide +kernel
theorem dX6_put_84 : decode cX6_put 84 = .ok (.aload_n 0, 1) := by decide +kernel
theorem dX6_put_85 : decode cX6_put 85 = .ok (.getfield 33, 3) := by decide +kernel
theorem dX6_put_88 : decode cX6_put 88 = .ok (.iload 4, 2) := by decide +kernel
theorem dX6_put_90 : decode cX6_put 90 = .ok (.iload_n 3, 1) := by decide +kernel
theorem dX6_put_91 : decode cX6_put 91 = .ok (.iastore, 1) := by decide +kernel
theorem dX6_put_92 : decode cX6_put 92 = .ok (.aload_n 0, 1) := by decide +kernel
theorem dX6_put_93 : decode cX6_put 93 = .ok (.getfield 27, 3) := by decide +kernel
theorem dX6_put_96 : decode cX6_put 96 = .ok (.iload_n 1, 1) := by decide +kernel
theorem dX6_put_97 : decode cX6_put 97 = .ok (.dup2, 1) := by decide +kernel
theorem dX6_put_98 : decode cX6_put 98 = .ok (.iaload, 1) := by decide +kernel
theorem dX6_put_99 : decode cX6_put 99 = .ok (.iconst 1, 1) := by decide +kernel
theorem dX6_put_100 : decode cX6_put 100 = .ok (.iadd, 1) := by decide +kernel
theorem dX6_put_101 : decode cX6_put 101 = .ok (.iastore, 1) := by decide +kernel
theorem dX6_put_102 : decode cX6_put 102 = .ok (.aload_n 0, 1) := by decide +kernel
theorem dX6_put_103 : decode cX6_put 103 = .ok (.dup, 1) := by decide +kernel
theorem dX6_put_104 : decode cX6_put 104 = .ok (.getfield 78, 3) := by decide +kernel
theorem dX6_put_107 : decode cX6_put 107 = .ok (.iconst 1, 1) := by decide +kernel
theorem dX6_put_108 : decode cX6_put 108 = .ok (.iadd, 1) := by decide +kernel
theorem dX6_put_109 : decode cX6_put 109 = .ok (.putfield 78, 3) := by decide +kernel
theorem dX6_put_112 : decode cX6_put 112 = .ok (.aload_n 0, 1) := by decide +kernel
theorem dX6_put_113 : decode cX6_put 113 = .ok (.getfield 27, 3) := by decide +kernel
theorem dX6_put_116 : decode cX6_put 116 = .ok (.iload_n 1, 1) := by decide +kernel
theorem dX6_put_117 : decode cX6_put 117 = .ok (.iaload, 1) := by decide +kernel
theorem dX6_put_118 : decode cX6_put 118 = .ok (.iconst 1, 1) := by decide +kernel
theorem dX6_put_119 : decode cX6_put 119 = .ok (.isub, 1) := by decide +kernel
theorem dX6_put_120 : decode cX6_put 120 = .ok (.ireturn, 1) := by decide +kernel
theorem dX6_take_0 : decode cX6_take 0 = .ok (.aload_n 0, 1) := by decide +kernel
theorem dX6_take_1 : decode cX6_take 1 = .ok (.iload_n 1, 1) := by decide +kernel
theorem dX6_take_2 : decode cX6_take 2 = .ok (.invokevirtual 75, 3) := by decide +kernel
theorem dX6_take_5 : decode cX6_take 5 = .ok (.ifCond .eq 13, 3) := by decide +kernel
theorem dX6_take_8 : decode cX6_take 8 = .ok (.aload_n 0, 1) := by decide +kernel
theorem dX6_take_9 : decode cX6_take 9 = .ok (.getfield 23, 3) := by decide +kernel
theorem dX6_take_12 : decode cX6_take 12 = .ok (.iload_n 1, 1) := by decide +kernel
theorem dX6_take_13 : decode cX6_take 13 = .ok (.baload, 1) := by decide +kernel
theorem dX6_take_14 : decode cX6_take 14 = .ok (.iload_n 2, 1) := by decide +kernel
theorem dX6_take_15 : decode cX6_take 15 = .ok (.if_icmp .eq 5, 3) := by decide +kernel
theorem dX6_take_18 : decode cX6_take 18 = .ok (.iconst 0, 1) := by decide +kernel
theorem dX6_take_19 : decode cX6_take 19 = .ok (.ireturn, 1) := by decide +kernel
theorem dX6_take_20 : decode cX6_take 20 = .ok (.aload_n 0, 1) := by decide +kernel
theorem dX6_take_21 : decode cX6_take 21 = .ok (.getfield 23, 3) := by decide +kernel
theorem dX6_take_24 : decode cX6_take 24 = .ok (.iload_n 1, 1) := by decide +kernel
theorem dX6_take_25 : decode cX6_take 25 = .ok (.iload_n 2, 1) := by decide +kernel
theorem dX6_take_26 : decode cX6_take 26 = .ok (.ifCond .ne 7, 3) := by decide +kernel
theorem dX6_take_29 : decode cX6_take 29 = .ok (.iconst 1, 1) := by decide +kernel
theorem dX6_take_30 : decode cX6_take 30 = .ok (.goto 4, 3) := by decide +kernel
theorem dX6_take_33 : decode cX6_take 33 = .ok (.iconst 0, 1) := by decide +kernel
theorem dX6_take_34 : decode cX6_take 34 = .ok (.bastore, 1) := by decide +kernel
theorem dX6_take_35 : decode cX6_take 35 = .ok (.iconst 1, 1) := by decide +kernel
theorem dX6_take_36 : decode cX6_take 36 = .ok (.ireturn, 1) := by decide +kernel
theorem dX6_gap_0 : decode cX6_gap 0 = .ok (.iload_n 1, 1) := by decide +kernel
theorem dX6_gap_1 : decode cX6_gap 1 = .ok (.iconst 0, 1) := by decide +kernel
theorem dX6_gap_2 : decode cX6_gap 2 = .ok (.sipush 9999, 3) := by decide +kernel
theorem dX6_gap_5 : decode cX6_gap 5 = .ok (.invokestatic 60, 3) := by decide +kernel
theorem dX6_gap_8 : decode cX6_gap 8 = .ok (.ifCond .ne 5, 3) := by decide +kernel
theorem dX6_gap_11 : decode cX6_gap 11 = .ok (.iconst 0, 1) := by decide +kernel
theorem dX6_gap_12 : decode cX6_gap 12 = .ok (.ireturn, 1) := by decide +kernel
theorem dX6_gap_13 : decode cX6_gap 13 = .ok (.aload_n 0, 1) := by decide +kernel
theorem dX6_gap_14 : decode cX6_gap 14 = .ok (.iload_n 1, 1) := by decide +kernel
theorem dX6_gap_15 : decode cX6_gap 15 = .ok (.putfield 7, 3) := by decide +kernel
theorem dX6_gap_18 : decode cX6_gap 18 = .ok (.iconst 1, 1) := by decide +kernel
theorem dX6_gap_19 : decode cX6_gap 19 = .ok (.ireturn, 1) := by decide +kernel
theorem dX6_span_0 : decode cX6_span 0 = .ok (.iload_n 1, 1) := by decide +kernel
theorem dX6_span_1 : decode cX6_span 1 = .ok (.iconst 0, 1) := by decide +kernel
theorem dX6_span_2 : decode cX6_span 2 = .ok (.sipush 9999, 3) := by decide +kernel
theorem dX6_span_5 : decode cX6_span 5 = .ok (.invokestatic 60, 3) := by decide +kernel
theorem dX6_span_8 : decode cX6_span 8 = .ok (.ifCond .ne 5, 3) := by decide +kernel
theorem dX6_span_11 : decode cX6_span 11 = .ok (.iconst 0, 1) := by decide +kernel
theorem dX6_span_12 : decode cX6_span 12 = .ok (.ireturn, 1) := by decide +kernel
theorem dX6_span_13 : decode cX6_span 13 = .ok (.aload_n 0, 1) := by decide +kernel
theorem dX6_span_14 : decode cX6_span 14 = .ok (.iload_n 1, 1) := by decide +kernel
theorem dX6_span_15 : decode cX6_span 15 = .ok (.putfield 13, 3) := by decide +kernel
theorem dX6_span_18 : decode cX6_span 18 = .ok (.iconst 1, 1) := by decide +kernel
theorem dX6_span_19 : decode cX6_span 19 = .ok (.ireturn, 1) := by decide +kernel
theorem dX6_takes_0 : decode cX6_takes 0 = .ok (.aload_n 0, 1) := by decide +kernel
theorem dX6_takes_1 : decode cX6_takes 1 = .ok (.getfield 45, 3) := by decide +kernel
theorem dX6_takes_4 : decode cX6_takes 4 = .ok (.iconst 0, 1) := by decide +kernel
theorem dX6_takes_5 : decode cX6_takes 5 = .ok (.iload_n 1, 1) := by decide +kernel
theorem dX6_takes_6 : decode cX6_takes 6 = .ok (.iastore, 1) := by decide +kernel
theorem dX6_takes_7 : decode cX6_takes 7 = .ok (.aload_n 0, 1) := by decide +kernel
theorem dX6_takes_8 : decode cX6_takes 8 = .ok (.getfield 45, 3) := by decide +kernel
theorem dX6_takes_11 : decode cX6_takes 11 = .ok (.iconst 1, 1) := by decide +kernel
theorem dX6_takes_12 : decode cX6_takes 12 = .ok (.iload_n 2, 1) := by decide +kernel
theorem dX6_takes_13 : decode cX6_takes 13 = .ok (.iastore, 1) := by decide +kernel
theorem dX6_takes_14 : decode cX6_takes 14 = .ok (.aload_n 0, 1) := by decide +kernel
theorem dX6_takes_15 : decode cX6_takes 15 = .ok (.getfield 45, 3) := by decide +kernel
theorem dX6_takes_18 : decode cX6_takes 18 = .ok (.iconst 2, 1) := by decide +kernel
theorem dX6_takes_19 : decode cX6_takes 19 = .ok (.iload_n 3, 1) := by decide +kernel
theorem dX6_takes_20 : decode cX6_takes 20 = .ok (.iastore, 1) := by decide +kernel
theorem dX6_takes_21 : decode cX6_takes 21 = .ok (.aload_n 0, 1) := by decide +kernel
theorem dX6_takes_22 : decode cX6_takes 22 = .ok (.getfield 45, 3) := by decide +kernel
theorem dX6_takes_25 : decode cX6_takes 25 = .ok (.iconst 3, 1) := by decide +kernel
theorem dX6_takes_26 : decode cX6_takes 26 = .ok (.iload 4, 2) := by decide +kernel
theorem dX6_takes_28 : decode cX6_takes 28 = .ok (.iastore, 1) := by decide +kernel
theorem dX6_takes_29 : decode cX6_takes 29 = .ok (.aload_n 0, 1) := by decide +kernel
theorem dX6_takes_30 : decode cX6_takes 30 = .ok (.iconst 0, 1) := by decide +kernel
theorem dX6_takes_31 : decode cX6_takes 31 = .ok (.putfield 81, 3) := by decide +kernel
theorem dX6_takes_34 : decode cX6_takes 34 = .ok (.aload_n 0, 1) := by decide +kernel
theorem dX6_takes_35 : decode cX6_takes 35 = .ok (.getfield 81, 3) := by decide +kernel
theorem dX6_takes_38 : decode cX6_takes 38 = .ok (.iconst 4, 1) := by decide +kernel
theorem dX6_takes_39 : decode cX6_takes 39 = .ok (.if_icmp .ge 46, 3) := by decide +kernel
theorem dX6_takes_42 : decode cX6_takes 42 = .ok (.aload_n 0, 1) := by decide +kernel
theorem dX6_takes_43 : decode cX6_takes 43 = .ok (.getfield 45, 3) := by decide +kernel
theorem dX6_takes_46 : decode cX6_takes 46 = .ok (.aload_n 0, 1) := by decide +kernel
theorem dX6_takes_47 : decode cX6_takes 47 = .ok (.getfield 81, 3) := by decide +kernel
theorem dX6_takes_50 : decode cX6_takes 50 = .ok (.iaload, 1) := by decide +kernel
theorem dX6_takes_51 : decode cX6_takes 51 = .ok (.iconst (-1), 1) := by decide +kernel
theorem dX6_takes_52 : decode cX6_takes 52 = .ok (.if_icmp .eq 33, 3) := by decide +kernel
theorem dX6_takes_55 : decode cX6_takes 55 = .ok (.aload_n 0, 1) := by decide +kernel
theorem dX6_takes_56 : decode cX6_takes 56 = .ok (.getfield 45, 3) := by decide +kernel
theorem dX6_takes_59 : decode cX6_takes 59 = .ok (.aload_n 0, 1) := by decide +kernel
theorem dX6_takes_60 : decode cX6_takes 60 = .ok (.getfield 81, 3) := by decide +kernel
theorem dX6_takes_63 : decode cX6_takes 63 = .ok (.iaload, 1) := by decide +kernel
theorem dX6_takes_64 : decode cX6_takes 64 = .ok (.invokestatic 67, 3) := by decide +kernel
theorem dX6_takes_67 : decode cX6_takes 67 = .ok (.ifCond .ne 5, 3) := by decide +kernel
theorem dX6_takes_70 : decode cX6_takes 70 = .ok (.iconst 0, 1) := by decide +kernel
theorem dX6_takes_71 : decode cX6_takes 71 = .ok (.ireturn, 1) := by decide +kernel
theorem dX6_takes_72 : decode cX6_takes 72 = .ok (.aload_n 0, 1) := by decide +kernel
theorem dX6_takes_73 : decode cX6_takes 73 = .ok (.dup, 1) := by decide +kernel
theorem dX6_takes_74 : decode cX6_takes 74 = .ok (.getfield 81, 3) := by decide +kernel
theorem dX6_takes_77 : decode cX6_takes 77 = .ok (.iconst 1, 1) := by decide +kernel
theorem dX6_takes_78 : decode cX6_takes 78 = .ok (.iadd, 1) := by decide +kernel
theorem dX6_takes_79 : decode cX6_takes 79 = .ok (.putfield 81, 3) := by decide +kernel
theorem dX6_takes_82 : decode cX6_takes 82 = .ok (.goto (-48), 3) := by decide +kernel
theorem dX6_takes_85 : decode cX6_takes 85 = .ok (.aload_n 0, 1) := by decide +kernel
theorem dX6_takes_86 : decode cX6_takes 86 = .ok (.getfield 81, 3) := by decide +kernel
theorem dX6_takes_89 : decode cX6_takes 89 = .ok (.istore 5, 2) := by decide +kernel
theorem dX6_takes_91 : decode cX6_takes 91 = .ok (.iload 5, 2) := by decide +kernel
theorem dX6_takes_93 : decode cX6_takes 93 = .ok (.iconst 4, 1) := by decide +kernel
theorem dX6_takes_94 : decode cX6_takes 94 = .ok (.if_icmp .ge 22, 3) := by decide +kernel
theorem dX6_takes_97 : decode cX6_takes 97 = .ok (.aload_n 0, 1) := by decide +kernel
theorem dX6_takes_98 : decode cX6_takes 98 = .ok (.getfield 45, 3) := by decide +kernel
theorem dX6_takes_101 : decode cX6_takes 101 = .ok (.iload 5, 2) := by decide +kernel
theorem dX6_takes_103 : decode cX6_takes 103 = .ok (.iaload, 1) := by decide +kernel
theorem dX6_takes_104 : decode cX6_takes 104 = .ok (.iconst (-1), 1) := by decide +kernel
theorem dX6_takes_105 : decode cX6_takes 105 = .ok (.if_icmp .eq 5, 3) := by decide +kernel
theorem dX6_takes_108 : decode cX6_takes 108 = .ok (.iconst 0, 1) := by decide +kernel
theorem dX6_takes_109 : decode cX6_takes 109 = .ok (.ireturn, 1) := by decide +kernel
theorem dX6_takes_110 : decode cX6_takes 110 = .ok (.iinc 5 1, 3) := by decide +kernel
theorem dX6_takes_113 : decode cX6_takes 113 = .ok (.goto (-22), 3) := by decide +kernel
theorem dX6_takes_116 : decode cX6_takes 116 = .ok (.aload_n 0, 1) := by decide +kernel
theorem dX6_takes_117 : decode cX6_takes 117 = .ok (.getfield 81, 3) := by decide +kernel
theorem dX6_takes_120 : decode cX6_takes 120 = .ok (.ifCond .le 7, 3) := by decide +kernel
theorem dX6_takes_123 : decode cX6_takes 123 = .ok (.iconst 1, 1) := by decide +kernel
theorem dX6_takes_124 : decode cX6_takes 124 = .ok (.goto 4, 3) := by decide +kernel
theorem dX6_takes_127 : decode cX6_takes 127 = .ok (.iconst 0, 1) := by decide +kernel
theorem dX6_takes_128 : decode cX6_takes 128 = .ok (.ireturn, 1) := by decide +kernel
theorem dX6_isAt_0 : decode cX6_isAt 0 = .ok (.aload_n 0, 1) := by decide +kernel
theorem dX6_isAt_1 : decode cX6_isAt 1 = .ok (.aload_n 0, 1) := by decide +kernel
theorem dX6_isAt_2 : decode cX6_isAt 2 = .ok (.getfield 33, 3) := by decide +kernel
theorem dX6_isAt_5 : decode cX6_isAt 5 = .ok (.bipush 30, 2) := by decide +kernel
theorem dX6_isAt_7 : decode cX6_isAt 7 = .ok (.iload_n 1, 1) := by decide +kernel
theorem dX6_isAt_8 : decode cX6_isAt 8 = .ok (.imul, 1) := by decide +kernel
theorem dX6_isAt_9 : decode cX6_isAt 9 = .ok (.iload_n 2, 1) := by decide +kernel
theorem dX6_isAt_10 : decode cX6_isAt 10 = .ok (.iadd, 1) := by decide +kernel
theorem dX6_isAt_11 : decode cX6_isAt 11 = .ok (.iaload, 1) := by decide +kernel
theorem dX6_isAt_12 : decode cX6_isAt 12 = .ok (.aload_n 0, 1) := by decide +kernel
theorem dX6_isAt_13 : decode cX6_isAt 13 = .ok (.getfield 45, 3) := by decide +kernel
theorem dX6_isAt_16 : decode cX6_isAt 16 = .ok (.iload_n 3, 1) := by decide +kernel
theorem dX6_isAt_17 : decode cX6_isAt 17 = .ok (.iaload, 1) := by decide +kernel
theorem dX6_isAt_18 : decode cX6_isAt 18 = .ok (.invokevirtual 71, 3) := by decide +kernel
theorem dX6_isAt_21 : decode cX6_isAt 21 = .ok (.ireturn, 1) := by decide +kernel
theorem dX6_leads_0 : decode cX6_leads 0 = .ok (.aload_n 0, 1) := by decide +kernel
theorem dX6_leads_1 : decode cX6_leads 1 = .ok (.getfield 30, 3) := by decide +kernel
theorem dX6_leads_4 : decode cX6_leads 4 = .ok (.bipush 30, 2) := by decide +kernel
theorem dX6_leads_6 : decode cX6_leads 6 = .ok (.iload_n 1, 1) := by decide +kernel
theorem dX6_leads_7 : decode cX6_leads 7 = .ok (.imul, 1) := by decide +kernel
theorem dX6_leads_8 : decode cX6_leads 8 = .ok (.iload_n 3, 1) := by decide +kernel
theorem dX6_leads_9 : decode cX6_leads 9 = .ok (.iadd, 1) := by decide +kernel
theorem dX6_leads_10 : decode cX6_leads 10 = .ok (.iaload, 1) := by decide +kernel
theorem dX6_leads_11 : decode cX6_leads 11 = .ok (.aload_n 0, 1) := by decide +kernel
theorem dX6_leads_12 : decode cX6_leads 12 = .ok (.getfield 30, 3) := by decide +kernel
theorem dX6_leads_15 : decode cX6_leads 15 = .ok (.bipush 30, 2) := by decide +kernel
theorem dX6_leads_17 : decode cX6_leads 17 = .ok (.iload_n 1, 1) := by decide +kernel
theorem dX6_leads_18 : decode cX6_leads 18 = .ok (.imul, 1) := by decide +kernel
theorem dX6_leads_19 : decode cX6_leads 19 = .ok (.iload_n 2, 1) := by decide +kernel
theorem dX6_leads_20 : decode cX6_leads 20 = .ok (.iadd, 1) := by decide +kernel
theorem dX6_leads_21 : decode cX6_leads 21 = .ok (.iaload, 1) := by decide +kernel
theorem dX6_leads_22 : decode cX6_leads 22 = .ok (.isub, 1) := by decide +kernel
theorem dX6_leads_23 : decode cX6_leads 23 = .ok (.aload_n 0, 1) := by decide +kernel
theorem dX6_leads_24 : decode cX6_leads 24 = .ok (.getfield 7, 3) := by decide +kernel
theorem dX6_leads_27 : decode cX6_leads 27 = .ok (.if_icmp .gt 7, 3) := by decide +kernel
theorem dX6_leads_30 : decode cX6_leads 30 = .ok (.iconst 1, 1) := by decide +kernel
theorem dX6_leads_31 : decode cX6_leads 31 = .ok (.goto 4, 3) := by decide +kernel
theorem dX6_leads_34 : decode cX6_leads 34 = .ok (.iconst 0, 1) := by decide +kernel
theorem dX6_leads_35 : decode cX6_leads 35 = .ok (.ireturn, 1) := by decide +kernel
theorem dX6_spans_0 : decode cX6_spans 0 = .ok (.aload_n 0, 1) := by decide +kernel
theorem dX6_spans_1 : decode cX6_spans 1 = .ok (.getfield 30, 3) := by decide +kernel
theorem dX6_spans_4 : decode cX6_spans 4 = .ok (.bipush 30, 2) := by decide +kernel
theorem dX6_spans_6 : decode cX6_spans 6 = .ok (.iload_n 1, 1) := by decide +kernel
theorem dX6_spans_7 : decode cX6_spans 7 = .ok (.imul, 1) := by decide +kernel
theorem dX6_spans_8 : decode cX6_spans 8 = .ok (.iload_n 3, 1) := by decide +kernel
theorem dX6_spans_9 : decode cX6_spans 9 = .ok (.iadd, 1) := by decide +kernel
theorem dX6_spans_10 : decode cX6_spans 10 = .ok (.iaload, 1) := by decide +kernel
theorem dX6_spans_11 : decode cX6_spans 11 = .ok (.aload_n 0, 1) := by decide +kernel
theorem dX6_spans_12 : decode cX6_spans 12 = .ok (.getfield 30, 3) := by decide +kernel
theorem dX6_spans_15 : decode cX6_spans 15 = .ok (.bipush 30, 2) := by decide +kernel
theorem dX6_spans_17 : decode cX6_spans 17 = .ok (.iload_n 1, 1) := by decide +kernel
theorem dX6_spans_18 : decode cX6_spans 18 = .ok (.imul, 1) := by decide +kernel
theorem dX6_spans_19 : decode cX6_spans 19 = .ok (.iload_n 2, 1) := by decide +kernel
theorem dX6_spans_20 : decode cX6_spans 20 = .ok (.iadd, 1) := by decide +kernel
theorem dX6_spans_21 : decode cX6_spans 21 = .ok (.iaload, 1) := by decide +kernel
theorem dX6_spans_22 : decode cX6_spans 22 = .ok (.isub, 1) := by decide +kernel
theorem dX6_spans_23 : decode cX6_spans 23 = .ok (.aload_n 0, 1) := by decide +kernel
theorem dX6_spans_24 : decode cX6_spans 24 = .ok (.getfield 13, 3) := by decide +kernel
theorem dX6_spans_27 : decode cX6_spans 27 = .ok (.if_icmp .gt 7, 3) := by decide +kernel
theorem dX6_spans_30 : decode cX6_spans 30 = .ok (.iconst 1, 1) := by decide +kernel
theorem dX6_spans_31 : decode cX6_spans 31 = .ok (.goto 4, 3) := by decide +kernel
theorem dX6_spans_34 : decode cX6_spans 34 = .ok (.iconst 0, 1) := by decide +kernel
theorem dX6_spans_35 : decode cX6_spans 35 = .ok (.ireturn, 1) := by decide +kernel
theorem dX6_maps_0 : decode cX6_maps 0 = .ok (.iconst 0, 1) := by decide +kernel
theorem dX6_maps_1 : decode cX6_maps 1 = .ok (.istore_n 2, 1) := by decide +kernel
theorem dX6_maps_2 : decode cX6_maps 2 = .ok (.iload_n 2, 1) := by decide +kernel
theorem dX6_maps_3 : decode cX6_maps 3 = .ok (.bipush 16, 2) := by decide +kernel
theorem dX6_maps_5 : decode cX6_maps 5 = .ok (.if_icmp .ge 21, 3) := by decide +kernel
theorem dX6_maps_8 : decode cX6_maps 8 = .ok (.aload_n 0, 1) := by decide +kernel
theorem dX6_maps_9 : decode cX6_maps 9 = .ok (.getfield 48, 3) := by decide +kernel
theorem dX6_maps_12 : decode cX6_maps 12 = .ok (.bipush 16, 2) := by decide +kernel
theorem dX6_maps_14 : decode cX6_maps 14 = .ok (.iload_n 1, 1) := by decide +kernel
theorem dX6_maps_15 : decode cX6_maps 15 = .ok (.imul, 1) := by decide +kernel
theorem dX6_maps_16 : decode cX6_maps 16 = .ok (.iload_n 2, 1) := by decide +kernel
theorem dX6_maps_17 : decode cX6_maps 17 = .ok (.iadd, 1) := by decide +kernel
theorem dX6_maps_18 : decode cX6_maps 18 = .ok (.iconst 0, 1) := by decide +kernel
theorem dX6_maps_19 : decode cX6_maps 19 = .ok (.iastore, 1) := by decide +kernel
theorem dX6_maps_20 : decode cX6_maps 20 = .ok (.iinc 2 1, 3) := by decide +kernel
theorem dX6_maps_23 : decode cX6_maps 23 = .ok (.goto (-21), 3) := by decide +kernel
theorem dX6_maps_26 : decode cX6_maps 26 = .ok (.iconst 0, 1) := by decide +kernel
theorem dX6_maps_27 : decode cX6_maps 27 = .ok (.istore_n 2, 1) := by decide +kernel
theorem dX6_maps_28 : decode cX6_maps 28 = .ok (.iload_n 2, 1) := by decide +kernel
theorem dX6_maps_29 : decode cX6_maps 29 = .ok (.aload_n 0, 1) := by decide +kernel
theorem dX6_maps_30 : decode cX6_maps 30 = .ok (.getfield 27, 3) := by decide +kernel
theorem dX6_maps_33 : decode cX6_maps 33 = .ok (.iload_n 1, 1) := by decide +kernel
theorem dX6_maps_34 : decode cX6_maps 34 = .ok (.iaload, 1) := by decide +kernel
theorem dX6_maps_35 : decode cX6_maps 35 = .ok (.if_icmp .ge 157, 3) := by decide +kernel
theorem dX6_maps_38 : decode cX6_maps 38 = .ok (.iconst 0, 1) := by decide +kernel
theorem dX6_maps_39 : decode cX6_maps 39 = .ok (.istore_n 3, 1) := by decide +kernel
theorem dX6_maps_40 : decode cX6_maps 40 = .ok (.iload_n 3, 1) := by decide +kernel
theorem dX6_maps_41 : decode cX6_maps 41 = .ok (.bipush 16, 2) := by decide +kernel
theorem dX6_maps_43 : decode cX6_maps 43 = .ok (.if_icmp .ge 45, 3) := by decide +kernel
theorem dX6_maps_46 : decode cX6_maps 46 = .ok (.aload_n 0, 1) := by decide +kernel
theorem dX6_maps_47 : decode cX6_maps 47 = .ok (.aload_n 0, 1) := by decide +kernel
theorem dX6_maps_48 : decode cX6_maps 48 = .ok (.getfield 33, 3) := by decide +kernel
theorem dX6_maps_51 : decode cX6_maps 51 = .ok (.bipush 30, 2) := by decide +kernel
theorem dX6_maps_53 : decode cX6_maps 53 = .ok (.iload_n 1, 1) := by decide +kernel
theorem dX6_maps_54 : decode cX6_maps 54 = .ok (.imul, 1) := by decide +kernel
theorem dX6_maps_55 : decode cX6_maps 55 = .ok (.iload_n 2, 1) := by decide +kernel
theorem dX6_maps_56 : decode cX6_maps 56 = .ok (.iadd, 1) := by decide +kernel
theorem dX6_maps_57 : decode cX6_maps 57 = .ok (.iaload, 1) := by decide +kernel
theorem dX6_maps_58 : decode cX6_maps 58 = .ok (.iload_n 3, 1) := by decide +kernel
theorem dX6_maps_59 : decode cX6_maps 59 = .ok (.invokevirtual 71, 3) := by decide +kernel
theorem dX6_maps_62 : decode cX6_maps 62 = .ok (.ifCond .eq 20, 3) := by decide +kernel
theorem dX6_maps_65 : decode cX6_maps 65 = .ok (.aload_n 0, 1) := by decide +kernel
theorem dX6_maps_66 : decode cX6_maps 66 = .ok (.getfield 48, 3) := by decide +kernel
theorem dX6_maps_69 : decode cX6_maps 69 = .ok (.bipush 16, 2) := by decide +kernel
theorem dX6_maps_71 : decode cX6_maps 71 = .ok (.iload_n 1, 1) := by decide +kernel
theorem dX6_maps_72 : decode cX6_maps 72 = .ok (.imul, 1) := by decide +kernel
theorem dX6_maps_73 : decode cX6_maps 73 = .ok (.iload_n 3, 1) := by decide +kernel
theorem dX6_maps_74 : decode cX6_maps 74 = .ok (.iadd, 1) := by decide +kernel
theorem dX6_maps_75 : decode cX6_maps 75 = .ok (.dup2, 1) := by decide +kernel
theorem dX6_maps_76 : decode cX6_maps 76 = .ok (.iaload, 1) := by decide +kernel
theorem dX6_maps_77 : decode cX6_maps 77 = .ok (.iconst 1, 1) := by decide +kernel
theorem dX6_maps_78 : decode cX6_maps 78 = .ok (.iload_n 2, 1) := by decide +kernel
theorem dX6_maps_79 : decode cX6_maps 79 = .ok (.ishl, 1) := by decide +kernel
theorem dX6_maps_80 : decode cX6_maps 80 = .ok (.ior, 1) := by decide +kernel
theorem dX6_maps_81 : decode cX6_maps 81 = .ok (.iastore, 1) := by decide +kernel
theorem dX6_maps_82 : decode cX6_maps 82 = .ok (.iinc 3 1, 3) := by decide +kernel
theorem dX6_maps_85 : decode cX6_maps 85 = .ok (.goto (-45), 3) := by decide +kernel
theorem dX6_maps_88 : decode cX6_maps 88 = .ok (.iconst 0, 1) := by decide +kernel
theorem dX6_maps_89 : decode cX6_maps 89 = .ok (.istore_n 3, 1) := by decide +kernel
theorem dX6_maps_90 : decode cX6_maps 90 = .ok (.iconst 0, 1) := by decide +kernel
theorem dX6_maps_91 : decode cX6_maps 91 = .ok (.istore 4, 2) := by decide +kernel
theorem dX6_maps_93 : decode cX6_maps 93 = .ok (.iload_n 2, 1) := by decide +kernel
theorem dX6_maps_94 : decode cX6_maps 94 = .ok (.iconst 1, 1) := by decide +kernel
theorem dX6_maps_95 : decode cX6_maps 95 = .ok (.iadd, 1) := by decide +kernel
theorem dX6_maps_96 : decode cX6_maps 96 = .ok (.istore 5, 2) := by decide +kernel
theorem dX6_maps_98 : decode cX6_maps 98 = .ok (.iload 5, 2) := by decide +kernel
theorem dX6_maps_100 : decode cX6_maps 100 = .ok (.aload_n 0, 1) := by decide +kernel
theorem dX6_maps_101 : decode cX6_maps 101 = .ok (.getfield 27, 3) := by decide +kernel
theorem dX6_maps_104 : decode cX6_maps 104 = .ok (.iload_n 1, 1) := by decide +kernel
theorem dX6_maps_105 : decode cX6_maps 105 = .ok (.iaload, 1) := by decide +kernel
theorem dX6_maps_106 : decode cX6_maps 106 = .ok (.if_icmp .ge 55, 3) := by decide +kernel
theorem dX6_maps_109 : decode cX6_maps 109 = .ok (.iload_n 3, 1) := by decide +kernel
theorem dX6_maps_110 : decode cX6_maps 110 = .ok (.aload_n 0, 1) := by decide +kernel
theorem dX6_maps_111 : decode cX6_maps 111 = .ok (.iload_n 1, 1) := by decide +kernel
theorem dX6_maps_112 : decode cX6_maps 112 = .ok (.iload_n 2, 1) := by decide +kernel
theorem dX6_maps_113 : decode cX6_maps 113 = .ok (.iload 5, 2) := by decide +kernel
theorem dX6_maps_115 : decode cX6_maps 115 = .ok (.invokevirtual 84, 3) := by decide +kernel
theorem dX6_maps_118 : decode cX6_maps 118 = .ok (.ifCond .eq 10, 3) := by decide +kernel
theorem dX6_maps_121 : decode cX6_maps 121 = .ok (.iconst 1, 1) := by decide +kernel
theorem dX6_maps_122 : decode cX6_maps 122 = .ok (.iload 5, 2) := by decide +kernel
theorem dX6_maps_124 : decode cX6_maps 124 = .ok (.ishl, 1) := by decide +kernel
theorem dX6_maps_125 : decode cX6_maps 125 = .ok (.goto 4, 3) := by decide +kernel
theorem dX6_maps_128 : decode cX6_maps 128 = .ok (.iconst 0, 1) := by decide +kernel
theorem dX6_maps_129 : decode cX6_maps 129 = .ok (.ior, 1) := by decide +kernel
theorem dX6_maps_130 : decode cX6_maps 130 = .ok (.istore_n 3, 1) := by decide +kernel
theorem dX6_maps_131 : decode cX6_maps 131 = .ok (.iload 4, 2) := by decide +kernel
theorem dX6_maps_133 : decode cX6_maps 133 = .ok (.aload_n 0, 1) := by decide +kernel
theorem dX6_maps_134 : decode cX6_maps 134 = .ok (.iload_n 1, 1) := by decide +kernel
theorem dX6_maps_135 : decode cX6_maps 135 = .ok (.iload_n 2, 1) := by decide +kernel
theorem dX6_maps_136 : decode cX6_maps 136 = .ok (.iload 5, 2) := by decide +kernel
theorem dX6_maps_138 : decode cX6_maps 138 = .ok (.invokevirtual 87, 3) := by decide +kernel
theorem dX6_maps_141 : decode cX6_maps 141 = .ok (.ifCond .eq 10, 3) := by decide +kernel
theorem dX6_maps_144 : decode cX6_maps 144 = .ok (.iconst 1, 1) := by decide +kernel
theorem dX6_maps_145 : decode cX6_maps 145 = .ok (.iload 5, 2) := by decide +kernel
theorem dX6_maps_147 : decode cX6_maps 147 = .ok (.ishl, 1) := by decide +kernel
theorem dX6_maps_148 : decode cX6_maps 148 = .ok (.goto 4, 3) := by decide +kernel
theorem dX6_maps_151 : decode cX6_maps 151 = .ok (.iconst 0, 1) := by decide +kernel
theorem dX6_maps_152 : decode cX6_maps 152 = .ok (.ior, 1) := by decide +kernel
theorem dX6_maps_153 : decode cX6_maps 153 = .ok (.istore 4, 2) := by decide +kernel
theorem dX6_maps_155 : decode cX6_maps 155 = .ok (.iinc 5 1, 3) := by decide +kernel
theorem dX6_maps_158 : decode cX6_maps 158 = .ok (.goto (-60), 3) := by decide +kernel
theorem dX6_maps_161 : decode cX6_maps 161 = .ok (.aload_n 0, 1) := by decide +kernel
theorem dX6_maps_162 : decode cX6_maps 162 = .ok (.getfield 51, 3) := by decide +kernel
theorem dX6_maps_165 : decode cX6_maps 165 = .ok (.bipush 30, 2) := by decide +kernel
theorem dX6_maps_167 : decode cX6_maps 167 = .ok (.iload_n 1, 1) := by decide +kernel
theorem dX6_maps_168 : decode cX6_maps 168 = .ok (.imul, 1) := by decide +kernel
theorem dX6_maps_169 : decode cX6_maps 169 = .ok (.iload_n 2, 1) := by decide +kernel
theorem dX6_maps_170 : decode cX6_maps 170 = .ok (.iadd, 1) := by decide +kernel
theorem dX6_maps_171 : decode cX6_maps 171 = .ok (.iload_n 3, 1) := by decide +kernel
theorem dX6_maps_172 : decode cX6_maps 172 = .ok (.iastore, 1) := by decide +kernel
theorem dX6_maps_173 : decode cX6_maps 173 = .ok (.aload_n 0, 1) := by decide +kernel
theorem dX6_maps_174 : decode cX6_maps 174 = .ok (.getfield 54, 3) := by decide +kernel
theorem dX6_maps_177 : decode cX6_maps 177 = .ok (.bipush 30, 2) := by decide +kernel
theorem dX6_maps_179 : decode cX6_maps 179 = .ok (.iload_n 1, 1) := by decide +kernel
theorem dX6_maps_180 : decode cX6_maps 180 = .ok (.imul, 1) := by decide +kernel
theorem dX6_maps_181 : decode cX6_maps 181 = .ok (.iload_n 2, 1) := by decide +kernel
theorem dX6_maps_182 : decode cX6_maps 182 = .ok (.iadd, 1) := by decide +kernel
theorem dX6_maps_183 : decode cX6_maps 183 = .ok (.iload 4, 2) := by decide +kernel
theorem dX6_maps_185 : decode cX6_maps 185 = .ok (.iastore, 1) := by decide +kernel
theorem dX6_maps_186 : decode cX6_maps 186 = .ok (.iinc 2 1, 3) := by decide +kernel
theorem dX6_maps_189 : decode cX6_maps 189 = .ok (.goto (-161), 3) := by decide +kernel
theorem dX6_maps_192 : decode cX6_maps 192 = .ok (.return_, 1) := by decide +kernel
theorem dX6_mapsAll_0 : decode cX6_mapsAll 0 = .ok (.iconst 0, 1) := by decide +kernel
theorem dX6_mapsAll_1 : decode cX6_mapsAll 1 = .ok (.istore_n 1, 1) := by decide +kernel
theorem dX6_mapsAll_2 : decode cX6_mapsAll 2 = .ok (.iload_n 1, 1) := by decide +kernel
theorem dX6_mapsAll_3 : decode cX6_mapsAll 3 = .ok (.aload_n 0, 1) := by decide +kernel
theorem dX6_mapsAll_4 : decode cX6_mapsAll 4 = .ok (.getfield 64, 3) := by decide +kernel
theorem dX6_mapsAll_7 : decode cX6_mapsAll 7 = .ok (.if_icmp .ge 23, 3) := by decide +kernel
theorem dX6_mapsAll_10 : decode cX6_mapsAll 10 = .ok (.aload_n 0, 1) := by decide +kernel
theorem dX6_mapsAll_11 : decode cX6_mapsAll 11 = .ok (.getfield 23, 3) := by decide +kernel
theorem dX6_mapsAll_14 : decode cX6_mapsAll 14 = .ok (.iload_n 1, 1) := by decide +kernel
theorem dX6_mapsAll_15 : decode cX6_mapsAll 15 = .ok (.baload, 1) := by decide +kernel
theorem dX6_mapsAll_16 : decode cX6_mapsAll 16 = .ok (.ifCond .ne 8, 3) := by decide +kernel
theorem dX6_mapsAll_19 : decode cX6_mapsAll 19 = .ok (.aload_n 0, 1) := by decide +kernel
theorem dX6_mapsAll_20 : decode cX6_mapsAll 20 = .ok (.iload_n 1, 1) := by decide +kernel
theorem dX6_mapsAll_21 : decode cX6_mapsAll 21 = .ok (.invokevirtual 90, 3) := by decide +kernel
theorem dX6_mapsAll_24 : decode cX6_mapsAll 24 = .ok (.iinc 1 1, 3) := by decide +kernel
theorem dX6_mapsAll_27 : decode cX6_mapsAll 27 = .ok (.goto (-25), 3) := by decide +kernel
theorem dX6_mapsAll_30 : decode cX6_mapsAll 30 = .ok (.return_, 1) := by decide +kernel
theorem dX6_ends_0 : decode cX6_ends 0 = .ok (.iconst 1, 1) := by decide +kernel
theorem dX6_ends_1 : decode cX6_ends 1 = .ok (.iload_n 2, 1) := by decide +kernel
theorem dX6_ends_2 : decode cX6_ends 2 = .ok (.ishl, 1) := by decide +kernel
theorem dX6_ends_3 : decode cX6_ends 3 = .ok (.aload_n 0, 1) := by decide +kernel
theorem dX6_ends_4 : decode cX6_ends 4 = .ok (.getfield 48, 3) := by decide +kernel
theorem dX6_ends_7 : decode cX6_ends 7 = .ok (.bipush 16, 2) := by decide +kernel
theorem dX6_ends_9 : decode cX6_ends 9 = .ok (.iload_n 1, 1) := by decide +kernel
theorem dX6_ends_10 : decode cX6_ends 10 = .ok (.imul, 1) := by decide +kernel
theorem dX6_ends_11 : decode cX6_ends 11 = .ok (.aload_n 0, 1) := by decide +kernel
theorem dX6_ends_12 : decode cX6_ends 12 = .ok (.getfield 45, 3) := by decide +kernel
theorem dX6_ends_15 : decode cX6_ends 15 = .ok (.iconst 0, 1) := by decide +kernel
theorem dX6_ends_16 : decode cX6_ends 16 = .ok (.iaload, 1) := by decide +kernel
theorem dX6_ends_17 : decode cX6_ends 17 = .ok (.iadd, 1) := by decide +kernel
theorem dX6_ends_18 : decode cX6_ends 18 = .ok (.iaload, 1) := by decide +kernel
theorem dX6_ends_19 : decode cX6_ends 19 = .ok (.iand, 1) := by decide +kernel
theorem dX6_ends_20 : decode cX6_ends 20 = .ok (.istore 4, 2) := by decide +kernel
theorem dX6_ends_22 : decode cX6_ends 22 = .ok (.iconst 1, 1) := by decide +kernel
theorem dX6_ends_23 : decode cX6_ends 23 = .ok (.istore 5, 2) := by decide +kernel
theorem dX6_ends_25 : decode cX6_ends 25 = .ok (.iload 5, 2) := by decide +kernel
theorem dX6_ends_27 : decode cX6_ends 27 = .ok (.iload_n 3, 1) := by decide +kernel
theorem dX6_ends_28 : decode cX6_ends 28 = .ok (.if_icmp .ge 99, 3) := by decide +kernel
theorem dX6_ends_31 : decode cX6_ends 31 = .ok (.iload 4, 2) := by decide +kernel
theorem dX6_ends_33 : decode cX6_ends 33 = .ok (.ifCond .eq 94, 3) := by decide +kernel
theorem dX6_ends_36 : decode cX6_ends 36 = .ok (.iconst 0, 1) := by decide +kernel
theorem dX6_ends_37 : decode cX6_ends 37 = .ok (.istore 6, 2) := by decide +kernel
theorem dX6_ends_39 : decode cX6_ends 39 = .ok (.iconst 0, 1) := by decide +kernel
theorem dX6_ends_40 : decode cX6_ends 40 = .ok (.istore 7, 2) := by decide +kernel
theorem dX6_ends_42 : decode cX6_ends 42 = .ok (.iload 7, 2) := by decide +kernel
theorem dX6_ends_44 : decode cX6_ends 44 = .ok (.aload_n 0, 1) := by decide +kernel
theorem dX6_ends_45 : decode cX6_ends 45 = .ok (.getfield 27, 3) := by decide +kernel
theorem dX6_ends_48 : decode cX6_ends 48 = .ok (.iload_n 1, 1) := by decide +kernel
theorem dX6_ends_49 : decode cX6_ends 49 = .ok (.iaload, 1) := by decide +kernel
theorem dX6_ends_50 : decode cX6_ends 50 = .ok (.if_icmp .ge 37, 3) := by decide +kernel
theorem dX6_ends_53 : decode cX6_ends 53 = .ok (.iload 4, 2) := by decide +kernel
theorem dX6_ends_55 : decode cX6_ends 55 = .ok (.iload 7, 2) := by decide +kernel
theorem dX6_ends_57 : decode cX6_ends 57 = .ok (.ishr, 1) := by decide +kernel
theorem dX6_ends_58 : decode cX6_ends 58 = .ok (.iconst 1, 1) := by decide +kernel
theorem dX6_ends_59 : decode cX6_ends 59 = .ok (.iand, 1) := by decide +kernel
theorem dX6_ends_60 : decode cX6_ends 60 = .ok (.iconst 1, 1) := by decide +kernel
theorem dX6_ends_61 : decode cX6_ends 61 = .ok (.if_icmp .ne 20, 3) := by decide +kernel
theorem dX6_ends_64 : decode cX6_ends 64 = .ok (.iload 6, 2) := by decide +kernel
theorem dX6_ends_66 : decode cX6_ends 66 = .ok (.aload_n 0, 1) := by decide +kernel
theorem dX6_ends_67 : decode cX6_ends 67 = .ok (.getfield 51, 3) := by decide +kernel
theorem dX6_ends_70 : decode cX6_ends 70 = .ok (.bipush 30, 2) := by decide +kernel
theorem dX6_ends_72 : decode cX6_ends 72 = .ok (.iload_n 1, 1) := by decide +kernel
theorem dX6_ends_73 : decode cX6_ends 73 = .ok (.imul, 1) := by decide +kernel
theorem dX6_ends_74 : decode cX6_ends 74 = .ok (.iload 7, 2) := by decide +kernel
theorem dX6_ends_76 : decode cX6_ends 76 = .ok (.iadd, 1) := by decide +kernel
theorem dX6_ends_77 : decode cX6_ends 77 = .ok (.iaload, 1) := by decide +kernel
theorem dX6_ends_78 : decode cX6_ends 78 = .ok (.ior, 1) := by decide +kernel
theorem dX6_ends_79 : decode cX6_ends 79 = .ok (.istore 6, 2) := by decide +kernel
theorem dX6_ends_81 : decode cX6_ends 81 = .ok (.iinc 7 1, 3) := by decide +kernel
theorem dX6_ends_84 : decode cX6_ends 84 = .ok (.goto (-42), 3) := by decide +kernel
theorem dX6_ends_87 : decode cX6_ends 87 = .ok (.iload 6, 2) := by decide +kernel
theorem dX6_ends_89 : decode cX6_ends 89 = .ok (.aload_n 0, 1) := by decide +kernel
theorem dX6_ends_90 : decode cX6_ends 90 = .ok (.getfield 54, 3) := by decide +kernel
theorem dX6_ends_93 : decode cX6_ends 93 = .ok (.bipush 30, 2) := by decide +kernel
theorem dX6_ends_95 : decode cX6_ends 95 = .ok (.iload_n 1, 1) := by decide +kernel
theorem dX6_ends_96 : decode cX6_ends 96 = .ok (.imul, 1) := by decide +kernel
theorem dX6_ends_97 : decode cX6_ends 97 = .ok (.iload_n 2, 1) := by decide +kernel
theorem dX6_ends_98 : decode cX6_ends 98 = .ok (.iadd, 1) := by decide +kernel
theorem dX6_ends_99 : decode cX6_ends 99 = .ok (.iaload, 1) := by decide +kernel
theorem dX6_ends_100 : decode cX6_ends 100 = .ok (.iand, 1) := by decide +kernel
theorem dX6_ends_101 : decode cX6_ends 101 = .ok (.aload_n 0, 1) := by decide +kernel
theorem dX6_ends_102 : decode cX6_ends 102 = .ok (.getfield 48, 3) := by decide +kernel
theorem dX6_ends_105 : decode cX6_ends 105 = .ok (.bipush 16, 2) := by decide +kernel
theorem dX6_ends_107 : decode cX6_ends 107 = .ok (.iload_n 1, 1) := by decide +kernel
theorem dX6_ends_108 : decode cX6_ends 108 = .ok (.imul, 1) := by decide +kernel
theorem dX6_ends_109 : decode cX6_ends 109 = .ok (.aload_n 0, 1) := by decide +kernel
theorem dX6_ends_110 : decode cX6_ends 110 = .ok (.getfield 45, 3) := by decide +kernel
theorem dX6_ends_113 : decode cX6_ends 113 = .ok (.iload 5, 2) := by decide +kernel
theorem dX6_ends_115 : decode cX6_ends 115 = .ok (.iaload, 1) := by decide +kernel
theorem dX6_ends_116 : decode cX6_ends 116 = .ok (.iadd, 1) := by decide +kernel
theorem dX6_ends_117 : decode cX6_ends 117 = .ok (.iaload, 1) := by decide +kernel
theorem dX6_ends_118 : decode cX6_ends 118 = .ok (.iand, 1) := by decide +kernel
theorem dX6_ends_119 : decode cX6_ends 119 = .ok (.istore 4, 2) := by decide +kernel
theorem dX6_ends_121 : decode cX6_ends 121 = .ok (.iinc 5 1, 3) := by decide +kernel
theorem dX6_ends_124 : decode cX6_ends 124 = .ok (.goto (-99), 3) := by decide +kernel
theorem dX6_ends_127 : decode cX6_ends 127 = .ok (.iload 4, 2) := by decide +kernel
theorem dX6_ends_129 : decode cX6_ends 129 = .ok (.ireturn, 1) := by decide +kernel
theorem dX6_has_0 : decode cX6_has 0 = .ok (.iconst 0, 1) := by decide +kernel
theorem dX6_has_1 : decode cX6_has 1 = .ok (.istore_n 3, 1) := by decide +kernel
theorem dX6_has_2 : decode cX6_has 2 = .ok (.iload_n 3, 1) := by decide +kernel
theorem dX6_has_3 : decode cX6_has 3 = .ok (.aload_n 0, 1) := by decide +kernel
theorem dX6_has_4 : decode cX6_has 4 = .ok (.getfield 27, 3) := by decide +kernel
theorem dX6_has_7 : decode cX6_has 7 = .ok (.iload_n 1, 1) := by decide +kernel
theorem dX6_has_8 : decode cX6_has 8 = .ok (.iaload, 1) := by decide +kernel
theorem dX6_has_9 : decode cX6_has 9 = .ok (.if_icmp .ge 21, 3) := by decide +kernel
theorem dX6_has_12 : decode cX6_has 12 = .ok (.aload_n 0, 1) := by decide +kernel
theorem dX6_has_13 : decode cX6_has 13 = .ok (.iload_n 1, 1) := by decide +kernel
theorem dX6_has_14 : decode cX6_has 14 = .ok (.iload_n 3, 1) := by decide +kernel
theorem dX6_has_15 : decode cX6_has 15 = .ok (.iload_n 2, 1) := by decide +kernel
theorem dX6_has_16 : decode cX6_has 16 = .ok (.invokevirtual 94, 3) := by decide +kernel
theorem dX6_has_19 : decode cX6_has 19 = .ok (.ifCond .eq 5, 3) := by decide +kernel
theorem dX6_has_22 : decode cX6_has 22 = .ok (.iconst 1, 1) := by decide +kernel
theorem dX6_has_23 : decode cX6_has 23 = .ok (.ireturn, 1) := by decide +kernel
theorem dX6_has_24 : decode cX6_has 24 = .ok (.iinc 3 1, 3) := by decide +kernel
theorem dX6_has_27 : decode cX6_has 27 = .ok (.goto (-25), 3) := by decide +kernel
theorem dX6_has_30 : decode cX6_has 30 = .ok (.iconst 0, 1) := by decide +kernel
theorem dX6_has_31 : decode cX6_has 31 = .ok (.ireturn, 1) := by decide +kernel
theorem dX6_countOf_0 : decode cX6_countOf 0 = .ok (.iconst 0, 1) := by decide +kernel
theorem dX6_countOf_1 : decode cX6_countOf 1 = .ok (.istore_n 2, 1) := by decide +kernel
theorem dX6_countOf_2 : decode cX6_countOf 2 = .ok (.iconst 0, 1) := by decide +kernel
theorem dX6_countOf_3 : decode cX6_countOf 3 = .ok (.istore_n 3, 1) := by decide +kernel
theorem dX6_countOf_4 : decode cX6_countOf 4 = .ok (.iload_n 3, 1) := by decide +kernel
theorem dX6_countOf_5 : decode cX6_countOf 5 = .ok (.aload_n 0, 1) := by decide +kernel
theorem dX6_countOf_6 : decode cX6_countOf 6 = .ok (.getfield 64, 3) := by decide +kernel
theorem dX6_countOf_9 : decode cX6_countOf 9 = .ok (.if_icmp .ge 35, 3) := by decide +kernel
theorem dX6_countOf_12 : decode cX6_countOf 12 = .ok (.iload_n 2, 1) := by decide +kernel
theorem dX6_countOf_13 : decode cX6_countOf 13 = .ok (.aload_n 0, 1) := by decide +kernel
theorem dX6_countOf_14 : decode cX6_countOf 14 = .ok (.getfield 23, 3) := by decide +kernel
theorem dX6_countOf_17 : decode cX6_countOf 17 = .ok (.iload_n 3, 1) := by decide +kernel
theorem dX6_countOf_18 : decode cX6_countOf 18 = .ok (.baload, 1) := by decide +kernel
theorem dX6_countOf_19 : decode cX6_countOf 19 = .ok (.ifCond .ne 16, 3) := by decide +kernel
theorem dX6_countOf_22 : decode cX6_countOf 22 = .ok (.aload_n 0, 1) := by decide +kernel
theorem dX6_countOf_23 : decode cX6_countOf 23 = .ok (.iload_n 3, 1) := by decide +kernel
theorem dX6_countOf_24 : decode cX6_countOf 24 = .ok (.iload_n 1, 1) := by decide +kernel
theorem dX6_countOf_25 : decode cX6_countOf 25 = .ok (.invokevirtual 98, 3) := by decide +kernel
theorem dX6_countOf_28 : decode cX6_countOf 28 = .ok (.ifCond .eq 7, 3) := by decide +kernel
theorem dX6_countOf_31 : decode cX6_countOf 31 = .ok (.iconst 1, 1) := by decide +kernel
theorem dX6_countOf_32 : decode cX6_countOf 32 = .ok (.goto 4, 3) := by decide +kernel
theorem dX6_countOf_35 : decode cX6_countOf 35 = .ok (.iconst 0, 1) := by decide +kernel
theorem dX6_countOf_36 : decode cX6_countOf 36 = .ok (.iadd, 1) := by decide +kernel
theorem dX6_countOf_37 : decode cX6_countOf 37 = .ok (.istore_n 2, 1) := by decide +kernel
theorem dX6_countOf_38 : decode cX6_countOf 38 = .ok (.iinc 3 1, 3) := by decide +kernel
theorem dX6_countOf_41 : decode cX6_countOf 41 = .ok (.goto (-37), 3) := by decide +kernel
theorem dX6_countOf_44 : decode cX6_countOf 44 = .ok (.iload_n 2, 1) := by decide +kernel
theorem dX6_countOf_45 : decode cX6_countOf 45 = .ok (.ireturn, 1) := by decide +kernel
theorem dX6_count_0 : decode cX6_count 0 = .ok (.aload_n 0, 1) := by decide +kernel
theorem dX6_count_1 : decode cX6_count 1 = .ok (.iload_n 1, 1) := by decide +kernel
theorem dX6_count_2 : decode cX6_count 2 = .ok (.iload_n 2, 1) := by decide +kernel
theorem dX6_count_3 : decode cX6_count 3 = .ok (.iload_n 3, 1) := by decide +kernel
theorem dX6_count_4 : decode cX6_count 4 = .ok (.iload 4, 2) := by decide +kernel
theorem dX6_count_6 : decode cX6_count 6 = .ok (.invokevirtual 101, 3) := by decide +kernel
theorem dX6_count_9 : decode cX6_count 9 = .ok (.ifCond .ne 5, 3) := by decide +kernel
theorem dX6_count_12 : decode cX6_count 12 = .ok (.iconst (-1), 1) := by decide +kernel
theorem dX6_count_13 : decode cX6_count 13 = .ok (.ireturn, 1) := by decide +kernel
theorem dX6_count_14 : decode cX6_count 14 = .ok (.aload_n 0, 1) := by decide +kernel
theorem dX6_count_15 : decode cX6_count 15 = .ok (.invokevirtual 105, 3) := by decide +kernel
theorem dX6_count_18 : decode cX6_count 18 = .ok (.aload_n 0, 1) := by decide +kernel
theorem dX6_count_19 : decode cX6_count 19 = .ok (.aload_n 0, 1) := by decide +kernel
theorem dX6_count_20 : decode cX6_count 20 = .ok (.getfield 81, 3) := by decide +kernel
theorem dX6_count_23 : decode cX6_count 23 = .ok (.invokevirtual 108, 3) := by decide +kernel
theorem dX6_count_26 : decode cX6_count 26 = .ok (.ireturn, 1) := by decide +kernel
theorem dX6_next_0 : decode cX6_next 0 = .ok (.iload_n 2, 1) := by decide +kernel
theorem dX6_next_1 : decode cX6_next 1 = .ok (.ifCond .eq 7, 3) := by decide +kernel
theorem dX6_next_4 : decode cX6_next 4 = .ok (.iconst 0, 1) := by decide +kernel
theorem dX6_next_5 : decode cX6_next 5 = .ok (.goto 9, 3) := by decide +kernel
theorem dX6_next_8 : decode cX6_next 8 = .ok (.aload_n 0, 1) := by decide +kernel
theorem dX6_next_9 : decode cX6_next 9 = .ok (.getfield 81, 3) := by decide +kernel
end
section
theorem dX6_next_12 : decode cX6_next 12 = .ok (.iconst 1, 1) := by decide +kernel
theorem dX6_next_13 : decode cX6_next 13 = .ok (.isub, 1) := by decide +kernel
theorem dX6_next_14 : decode cX6_next 14 = .ok (.istore_n 3, 1) := by decide +kernel
theorem dX6_next_15 : decode cX6_next 15 = .ok (.aload_n 0, 1) := by decide +kernel
theorem dX6_next_16 : decode cX6_next 16 = .ok (.getfield 57, 3) := by decide +kernel
theorem dX6_next_19 : decode cX6_next 19 = .ok (.iconst 0, 1) := by decide +kernel
theorem dX6_next_20 : decode cX6_next 20 = .ok (.iload_n 2, 1) := by decide +kernel
theorem dX6_next_21 : decode cX6_next 21 = .ok (.ifCond .eq 7, 3) := by decide +kernel
theorem dX6_next_24 : decode cX6_next 24 = .ok (.iconst (-1), 1) := by decide +kernel
theorem dX6_next_25 : decode cX6_next 25 = .ok (.goto 9, 3) := by decide +kernel
theorem dX6_next_28 : decode cX6_next 28 = .ok (.aload_n 0, 1) := by decide +kernel
theorem dX6_next_29 : decode cX6_next 29 = .ok (.getfield 57, 3) := by decide +kernel
theorem dX6_next_32 : decode cX6_next 32 = .ok (.iconst 0, 1) := by decide +kernel
theorem dX6_next_33 : decode cX6_next 33 = .ok (.iaload, 1) := by decide +kernel
theorem dX6_next_34 : decode cX6_next 34 = .ok (.iastore, 1) := by decide +kernel
theorem dX6_next_35 : decode cX6_next 35 = .ok (.iload_n 3, 1) := by decide +kernel
theorem dX6_next_36 : decode cX6_next 36 = .ok (.ifCond .lt 130, 3) := by decide +kernel
theorem dX6_next_39 : decode cX6_next 39 = .ok (.aload_n 0, 1) := by decide +kernel
theorem dX6_next_40 : decode cX6_next 40 = .ok (.getfield 57, 3) := by decide +kernel
theorem dX6_next_43 : decode cX6_next 43 = .ok (.iload_n 3, 1) := by decide +kernel
theorem dX6_next_44 : decode cX6_next 44 = .ok (.dup2, 1) := by decide +kernel
theorem dX6_next_45 : decode cX6_next 45 = .ok (.iaload, 1) := by decide +kernel
theorem dX6_next_46 : decode cX6_next 46 = .ok (.iconst 1, 1) := by decide +kernel
theorem dX6_next_47 : decode cX6_next 47 = .ok (.iadd, 1) := by decide +kernel
theorem dX6_next_48 : decode cX6_next 48 = .ok (.iastore, 1) := by decide +kernel
theorem dX6_next_49 : decode cX6_next 49 = .ok (.aload_n 0, 1) := by decide +kernel
theorem dX6_next_50 : decode cX6_next 50 = .ok (.getfield 57, 3) := by decide +kernel
theorem dX6_next_53 : decode cX6_next 53 = .ok (.iload_n 3, 1) := by decide +kernel
theorem dX6_next_54 : decode cX6_next 54 = .ok (.iaload, 1) := by decide +kernel
theorem dX6_next_55 : decode cX6_next 55 = .ok (.aload_n 0, 1) := by decide +kernel
theorem dX6_next_56 : decode cX6_next 56 = .ok (.getfield 27, 3) := by decide +kernel
theorem dX6_next_59 : decode cX6_next 59 = .ok (.iload_n 1, 1) := by decide +kernel
theorem dX6_next_60 : decode cX6_next 60 = .ok (.iaload, 1) := by decide +kernel
theorem dX6_next_61 : decode cX6_next 61 = .ok (.if_icmp .lt 9, 3) := by decide +kernel
theorem dX6_next_64 : decode cX6_next 64 = .ok (.iinc 3 (-1), 3) := by decide +kernel
theorem dX6_next_67 : decode cX6_next 67 = .ok (.goto (-32), 3) := by decide +kernel
theorem dX6_next_70 : decode cX6_next 70 = .ok (.aload_n 0, 1) := by decide +kernel
theorem dX6_next_71 : decode cX6_next 71 = .ok (.iload_n 1, 1) := by decide +kernel
theorem dX6_next_72 : decode cX6_next 72 = .ok (.aload_n 0, 1) := by decide +kernel
theorem dX6_next_73 : decode cX6_next 73 = .ok (.getfield 57, 3) := by decide +kernel
theorem dX6_next_76 : decode cX6_next 76 = .ok (.iload_n 3, 1) := by decide +kernel
theorem dX6_next_77 : decode cX6_next 77 = .ok (.iaload, 1) := by decide +kernel
theorem dX6_next_78 : decode cX6_next 78 = .ok (.iload_n 3, 1) := by decide +kernel
theorem dX6_next_79 : decode cX6_next 79 = .ok (.invokevirtual 112, 3) := by decide +kernel
theorem dX6_next_82 : decode cX6_next 82 = .ok (.ifCond .eq (-47), 3) := by decide +kernel
theorem dX6_next_85 : decode cX6_next 85 = .ok (.iload_n 3, 1) := by decide +kernel
theorem dX6_next_86 : decode cX6_next 86 = .ok (.ifCond .le 48, 3) := by decide +kernel
theorem dX6_next_89 : decode cX6_next 89 = .ok (.aload_n 0, 1) := by decide +kernel
theorem dX6_next_90 : decode cX6_next 90 = .ok (.iload_n 1, 1) := by decide +kernel
theorem dX6_next_91 : decode cX6_next 91 = .ok (.aload_n 0, 1) := by decide +kernel
theorem dX6_next_92 : decode cX6_next 92 = .ok (.getfield 57, 3) := by decide +kernel
theorem dX6_next_95 : decode cX6_next 95 = .ok (.iload_n 3, 1) := by decide +kernel
theorem dX6_next_96 : decode cX6_next 96 = .ok (.iconst 1, 1) := by decide +kernel
theorem dX6_next_97 : decode cX6_next 97 = .ok (.isub, 1) := by decide +kernel
theorem dX6_next_98 : decode cX6_next 98 = .ok (.iaload, 1) := by decide +kernel
theorem dX6_next_99 : decode cX6_next 99 = .ok (.aload_n 0, 1) := by decide +kernel
theorem dX6_next_100 : decode cX6_next 100 = .ok (.getfield 57, 3) := by decide +kernel
theorem dX6_next_103 : decode cX6_next 103 = .ok (.iload_n 3, 1) := by decide +kernel
theorem dX6_next_104 : decode cX6_next 104 = .ok (.iaload, 1) := by decide +kernel
theorem dX6_next_105 : decode cX6_next 105 = .ok (.invokevirtual 84, 3) := by decide +kernel
theorem dX6_next_108 : decode cX6_next 108 = .ok (.ifCond .eq (-73), 3) := by decide +kernel
theorem dX6_next_111 : decode cX6_next 111 = .ok (.aload_n 0, 1) := by decide +kernel
theorem dX6_next_112 : decode cX6_next 112 = .ok (.iload_n 1, 1) := by decide +kernel
theorem dX6_next_113 : decode cX6_next 113 = .ok (.aload_n 0, 1) := by decide +kernel
theorem dX6_next_114 : decode cX6_next 114 = .ok (.getfield 57, 3) := by decide +kernel
theorem dX6_next_117 : decode cX6_next 117 = .ok (.iconst 0, 1) := by decide +kernel
theorem dX6_next_118 : decode cX6_next 118 = .ok (.iaload, 1) := by decide +kernel
theorem dX6_next_119 : decode cX6_next 119 = .ok (.aload_n 0, 1) := by decide +kernel
theorem dX6_next_120 : decode cX6_next 120 = .ok (.getfield 57, 3) := by decide +kernel
theorem dX6_next_123 : decode cX6_next 123 = .ok (.iload_n 3, 1) := by decide +kernel
theorem dX6_next_124 : decode cX6_next 124 = .ok (.iaload, 1) := by decide +kernel
theorem dX6_next_125 : decode cX6_next 125 = .ok (.invokevirtual 87, 3) := by decide +kernel
theorem dX6_next_128 : decode cX6_next 128 = .ok (.ifCond .ne 6, 3) := by decide +kernel
theorem dX6_next_131 : decode cX6_next 131 = .ok (.goto (-96), 3) := by decide +kernel
theorem dX6_next_134 : decode cX6_next 134 = .ok (.iload_n 3, 1) := by decide +kernel
theorem dX6_next_135 : decode cX6_next 135 = .ok (.aload_n 0, 1) := by decide +kernel
theorem dX6_next_136 : decode cX6_next 136 = .ok (.getfield 81, 3) := by decide +kernel
theorem dX6_next_139 : decode cX6_next 139 = .ok (.iconst 1, 1) := by decide +kernel
theorem dX6_next_140 : decode cX6_next 140 = .ok (.isub, 1) := by decide +kernel
theorem dX6_next_141 : decode cX6_next 141 = .ok (.if_icmp .ne 5, 3) := by decide +kernel
theorem dX6_next_144 : decode cX6_next 144 = .ok (.iconst 1, 1) := by decide +kernel
theorem dX6_next_145 : decode cX6_next 145 = .ok (.ireturn, 1) := by decide +kernel
theorem dX6_next_146 : decode cX6_next 146 = .ok (.aload_n 0, 1) := by decide +kernel
theorem dX6_next_147 : decode cX6_next 147 = .ok (.getfield 57, 3) := by decide +kernel
theorem dX6_next_150 : decode cX6_next 150 = .ok (.iload_n 3, 1) := by decide +kernel
theorem dX6_next_151 : decode cX6_next 151 = .ok (.iconst 1, 1) := by decide +kernel
theorem dX6_next_152 : decode cX6_next 152 = .ok (.iadd, 1) := by decide +kernel
theorem dX6_next_153 : decode cX6_next 153 = .ok (.aload_n 0, 1) := by decide +kernel
theorem dX6_next_154 : decode cX6_next 154 = .ok (.getfield 57, 3) := by decide +kernel
theorem dX6_next_157 : decode cX6_next 157 = .ok (.iload_n 3, 1) := by decide +kernel
theorem dX6_next_158 : decode cX6_next 158 = .ok (.iaload, 1) := by decide +kernel
theorem dX6_next_159 : decode cX6_next 159 = .ok (.iastore, 1) := by decide +kernel
theorem dX6_next_160 : decode cX6_next 160 = .ok (.iinc 3 1, 3) := by decide +kernel
theorem dX6_next_163 : decode cX6_next 163 = .ok (.goto (-128), 3) := by decide +kernel
theorem dX6_next_166 : decode cX6_next 166 = .ok (.iconst 0, 1) := by decide +kernel
theorem dX6_next_167 : decode cX6_next 167 = .ok (.ireturn, 1) := by decide +kernel
theorem dX6_matches_0 : decode cX6_matches 0 = .ok (.aload_n 0, 1) := by decide +kernel
theorem dX6_matches_1 : decode cX6_matches 1 = .ok (.iload_n 1, 1) := by decide +kernel
theorem dX6_matches_2 : decode cX6_matches 2 = .ok (.invokevirtual 75, 3) := by decide +kernel
theorem dX6_matches_5 : decode cX6_matches 5 = .ok (.ifCond .eq 16, 3) := by decide +kernel
theorem dX6_matches_8 : decode cX6_matches 8 = .ok (.aload_n 0, 1) := by decide +kernel
theorem dX6_matches_9 : decode cX6_matches 9 = .ok (.iload_n 2, 1) := by decide +kernel
theorem dX6_matches_10 : decode cX6_matches 10 = .ok (.iload_n 3, 1) := by decide +kernel
theorem dX6_matches_11 : decode cX6_matches 11 = .ok (.iload 4, 2) := by decide +kernel
theorem dX6_matches_13 : decode cX6_matches 13 = .ok (.iload 5, 2) := by decide +kernel
theorem dX6_matches_15 : decode cX6_matches 15 = .ok (.invokevirtual 101, 3) := by decide +kernel
theorem dX6_matches_18 : decode cX6_matches 18 = .ok (.ifCond .ne 7, 3) := by decide +kernel
theorem dX6_matches_21 : decode cX6_matches 21 = .ok (.ldc2_w 115, 3) := by decide +kernel
theorem dX6_matches_24 : decode cX6_matches 24 = .ok (.lreturn, 1) := by decide +kernel
theorem dX6_matches_25 : decode cX6_matches 25 = .ok (.lconst 0, 1) := by decide +kernel
theorem dX6_matches_26 : decode cX6_matches 26 = .ok (.lstore 6, 2) := by decide +kernel
theorem dX6_matches_28 : decode cX6_matches 28 = .ok (.aload_n 0, 1) := by decide +kernel
theorem dX6_matches_29 : decode cX6_matches 29 = .ok (.iload_n 1, 1) := by decide +kernel
theorem dX6_matches_30 : decode cX6_matches 30 = .ok (.iconst 1, 1) := by decide +kernel
theorem dX6_matches_31 : decode cX6_matches 31 = .ok (.invokevirtual 117, 3) := by decide +kernel
theorem dX6_matches_34 : decode cX6_matches 34 = .ok (.istore 8, 2) := by decide +kernel
theorem dX6_matches_36 : decode cX6_matches 36 = .ok (.iload 8, 2) := by decide +kernel
theorem dX6_matches_38 : decode cX6_matches 38 = .ok (.ifCond .eq 20, 3) := by decide +kernel
theorem dX6_matches_41 : decode cX6_matches 41 = .ok (.lload 6, 2) := by decide +kernel
theorem dX6_matches_43 : decode cX6_matches 43 = .ok (.lconst 1, 1) := by decide +kernel
theorem dX6_matches_44 : decode cX6_matches 44 = .ok (.ladd, 1) := by decide +kernel
theorem dX6_matches_45 : decode cX6_matches 45 = .ok (.lstore 6, 2) := by decide +kernel
theorem dX6_matches_47 : decode cX6_matches 47 = .ok (.aload_n 0, 1) := by decide +kernel
theorem dX6_matches_48 : decode cX6_matches 48 = .ok (.iload_n 1, 1) := by decide +kernel
theorem dX6_matches_49 : decode cX6_matches 49 = .ok (.iconst 0, 1) := by decide +kernel
theorem dX6_matches_50 : decode cX6_matches 50 = .ok (.invokevirtual 117, 3) := by decide +kernel
theorem dX6_matches_53 : decode cX6_matches 53 = .ok (.istore 8, 2) := by decide +kernel
theorem dX6_matches_55 : decode cX6_matches 55 = .ok (.goto (-19), 3) := by decide +kernel
theorem dX6_matches_58 : decode cX6_matches 58 = .ok (.lload 6, 2) := by decide +kernel
theorem dX6_matches_60 : decode cX6_matches 60 = .ok (.lreturn, 1) := by decide +kernel
theorem dX6_match_0 : decode cX6_match 0 = .ok (.aload_n 0, 1) := by decide +kernel
theorem dX6_match_1 : decode cX6_match 1 = .ok (.iload_n 1, 1) := by decide +kernel
theorem dX6_match_2 : decode cX6_match 2 = .ok (.invokevirtual 75, 3) := by decide +kernel
theorem dX6_match_5 : decode cX6_match 5 = .ok (.ifCond .eq 40, 3) := by decide +kernel
theorem dX6_match_8 : decode cX6_match 8 = .ok (.aload_n 0, 1) := by decide +kernel
theorem dX6_match_9 : decode cX6_match 9 = .ok (.iload_n 2, 1) := by decide +kernel
theorem dX6_match_10 : decode cX6_match 10 = .ok (.iload_n 3, 1) := by decide +kernel
theorem dX6_match_11 : decode cX6_match 11 = .ok (.iload 4, 2) := by decide +kernel
theorem dX6_match_13 : decode cX6_match 13 = .ok (.iload 5, 2) := by decide +kernel
theorem dX6_match_15 : decode cX6_match 15 = .ok (.invokevirtual 101, 3) := by decide +kernel
theorem dX6_match_18 : decode cX6_match 18 = .ok (.ifCond .eq 27, 3) := by decide +kernel
theorem dX6_match_21 : decode cX6_match 21 = .ok (.iload 6, 2) := by decide +kernel
theorem dX6_match_23 : decode cX6_match 23 = .ok (.iconst 0, 1) := by decide +kernel
theorem dX6_match_24 : decode cX6_match 24 = .ok (.aload_n 0, 1) := by decide +kernel
theorem dX6_match_25 : decode cX6_match 25 = .ok (.getfield 81, 3) := by decide +kernel
theorem dX6_match_28 : decode cX6_match 28 = .ok (.iconst 1, 1) := by decide +kernel
theorem dX6_match_29 : decode cX6_match 29 = .ok (.isub, 1) := by decide +kernel
theorem dX6_match_30 : decode cX6_match 30 = .ok (.invokestatic 60, 3) := by decide +kernel
theorem dX6_match_33 : decode cX6_match 33 = .ok (.ifCond .eq 12, 3) := by decide +kernel
theorem dX6_match_36 : decode cX6_match 36 = .ok (.aload_n 0, 1) := by decide +kernel
theorem dX6_match_37 : decode cX6_match 37 = .ok (.iload_n 1, 1) := by decide +kernel
theorem dX6_match_38 : decode cX6_match 38 = .ok (.iconst 1, 1) := by decide +kernel
theorem dX6_match_39 : decode cX6_match 39 = .ok (.invokevirtual 117, 3) := by decide +kernel
theorem dX6_match_42 : decode cX6_match 42 = .ok (.ifCond .ne 5, 3) := by decide +kernel
theorem dX6_match_45 : decode cX6_match 45 = .ok (.iconst (-1), 1) := by decide +kernel
theorem dX6_match_46 : decode cX6_match 46 = .ok (.ireturn, 1) := by decide +kernel
theorem dX6_match_47 : decode cX6_match 47 = .ok (.aload_n 0, 1) := by decide +kernel
theorem dX6_match_48 : decode cX6_match 48 = .ok (.getfield 57, 3) := by decide +kernel
theorem dX6_match_51 : decode cX6_match 51 = .ok (.iload 6, 2) := by decide +kernel
theorem dX6_match_53 : decode cX6_match 53 = .ok (.iaload, 1) := by decide +kernel
theorem dX6_match_54 : decode cX6_match 54 = .ok (.ireturn, 1) := by decide +kernel
theorem dX6_isThere_0 : decode cX6_isThere 0 = .ok (.iconst 0, 1) := by decide +kernel
theorem dX6_isThere_1 : decode cX6_isThere 1 = .ok (.istore_n 2, 1) := by decide +kernel
theorem dX6_isThere_2 : decode cX6_isThere 2 = .ok (.iload_n 2, 1) := by decide +kernel
theorem dX6_isThere_3 : decode cX6_isThere 3 = .ok (.aload_n 0, 1) := by decide +kernel
theorem dX6_isThere_4 : decode cX6_isThere 4 = .ok (.getfield 64, 3) := by decide +kernel
theorem dX6_isThere_7 : decode cX6_isThere 7 = .ok (.if_icmp .ge 34, 3) := by decide +kernel
theorem dX6_isThere_10 : decode cX6_isThere 10 = .ok (.aload_n 0, 1) := by decide +kernel
theorem dX6_isThere_11 : decode cX6_isThere 11 = .ok (.getfield 23, 3) := by decide +kernel
theorem dX6_isThere_14 : decode cX6_isThere 14 = .ok (.iload_n 2, 1) := by decide +kernel
theorem dX6_isThere_15 : decode cX6_isThere 15 = .ok (.baload, 1) := by decide +kernel
theorem dX6_isThere_16 : decode cX6_isThere 16 = .ok (.ifCond .ne 19, 3) := by decide +kernel
theorem dX6_isThere_19 : decode cX6_isThere 19 = .ok (.aload_n 0, 1) := by decide +kernel
theorem dX6_isThere_20 : decode cX6_isThere 20 = .ok (.getfield 48, 3) := by decide +kernel
theorem dX6_isThere_23 : decode cX6_isThere 23 = .ok (.bipush 16, 2) := by decide +kernel
theorem dX6_isThere_25 : decode cX6_isThere 25 = .ok (.iload_n 2, 1) := by decide +kernel
theorem dX6_isThere_26 : decode cX6_isThere 26 = .ok (.imul, 1) := by decide +kernel
theorem dX6_isThere_27 : decode cX6_isThere 27 = .ok (.iload_n 1, 1) := by decide +kernel
theorem dX6_isThere_28 : decode cX6_isThere 28 = .ok (.iadd, 1) := by decide +kernel
theorem dX6_isThere_29 : decode cX6_isThere 29 = .ok (.iaload, 1) := by decide +kernel
theorem dX6_isThere_30 : decode cX6_isThere 30 = .ok (.ifCond .eq 5, 3) := by decide +kernel
theorem dX6_isThere_33 : decode cX6_isThere 33 = .ok (.iconst 1, 1) := by decide +kernel
theorem dX6_isThere_34 : decode cX6_isThere 34 = .ok (.ireturn, 1) := by decide +kernel
theorem dX6_isThere_35 : decode cX6_isThere 35 = .ok (.iinc 2 1, 3) := by decide +kernel
theorem dX6_isThere_38 : decode cX6_isThere 38 = .ok (.goto (-36), 3) := by decide +kernel
theorem dX6_isThere_41 : decode cX6_isThere 41 = .ok (.iconst 0, 1) := by decide +kernel
theorem dX6_isThere_42 : decode cX6_isThere 42 = .ok (.ireturn, 1) := by decide +kernel
theorem dX6_keeps_0 : decode cX6_keeps 0 = .ok (.iconst 0, 1) := by decide +kernel
theorem dX6_keeps_1 : decode cX6_keeps 1 = .ok (.istore_n 3, 1) := by decide +kernel
theorem dX6_keeps_2 : decode cX6_keeps 2 = .ok (.iload_n 3, 1) := by decide +kernel
theorem dX6_keeps_3 : decode cX6_keeps 3 = .ok (.iconst 4, 1) := by decide +kernel
theorem dX6_keeps_4 : decode cX6_keeps 4 = .ok (.if_icmp .ge 37, 3) := by decide +kernel
theorem dX6_keeps_7 : decode cX6_keeps 7 = .ok (.aload_n 0, 1) := by decide +kernel
theorem dX6_keeps_8 : decode cX6_keeps 8 = .ok (.getfield 36, 3) := by decide +kernel
theorem dX6_keeps_11 : decode cX6_keeps 11 = .ok (.iconst 4, 1) := by decide +kernel
theorem dX6_keeps_12 : decode cX6_keeps 12 = .ok (.aload_n 0, 1) := by decide +kernel
theorem dX6_keeps_13 : decode cX6_keeps 13 = .ok (.getfield 121, 3) := by decide +kernel
theorem dX6_keeps_16 : decode cX6_keeps 16 = .ok (.imul, 1) := by decide +kernel
theorem dX6_keeps_17 : decode cX6_keeps 17 = .ok (.iload_n 3, 1) := by decide +kernel
theorem dX6_keeps_18 : decode cX6_keeps 18 = .ok (.iadd, 1) := by decide +kernel
theorem dX6_keeps_19 : decode cX6_keeps 19 = .ok (.iload_n 3, 1) := by decide +kernel
theorem dX6_keeps_20 : decode cX6_keeps 20 = .ok (.iload_n 1, 1) := by decide +kernel
theorem dX6_keeps_21 : decode cX6_keeps 21 = .ok (.if_icmp .ge 12, 3) := by decide +kernel
theorem dX6_keeps_24 : decode cX6_keeps 24 = .ok (.aload_n 0, 1) := by decide +kernel
theorem dX6_keeps_25 : decode cX6_keeps 25 = .ok (.getfield 45, 3) := by decide +kernel
theorem dX6_keeps_28 : decode cX6_keeps 28 = .ok (.iload_n 3, 1) := by decide +kernel
theorem dX6_keeps_29 : decode cX6_keeps 29 = .ok (.iaload, 1) := by decide +kernel
theorem dX6_keeps_30 : decode cX6_keeps 30 = .ok (.goto 4, 3) := by decide +kernel
theorem dX6_keeps_33 : decode cX6_keeps 33 = .ok (.iconst (-1), 1) := by decide +kernel
theorem dX6_keeps_34 : decode cX6_keeps 34 = .ok (.iastore, 1) := by decide +kernel
theorem dX6_keeps_35 : decode cX6_keeps 35 = .ok (.iinc 3 1, 3) := by decide +kernel
theorem dX6_keeps_38 : decode cX6_keeps 38 = .ok (.goto (-36), 3) := by decide +kernel
theorem dX6_keeps_41 : decode cX6_keeps 41 = .ok (.aload_n 0, 1) := by decide +kernel
theorem dX6_keeps_42 : decode cX6_keeps 42 = .ok (.getfield 39, 3) := by decide +kernel
theorem dX6_keeps_45 : decode cX6_keeps 45 = .ok (.aload_n 0, 1) := by decide +kernel
theorem dX6_keeps_46 : decode cX6_keeps 46 = .ok (.getfield 121, 3) := by decide +kernel
theorem dX6_keeps_49 : decode cX6_keeps 49 = .ok (.iload_n 2, 1) := by decide +kernel
theorem dX6_keeps_50 : decode cX6_keeps 50 = .ok (.iastore, 1) := by decide +kernel
theorem dX6_keeps_51 : decode cX6_keeps 51 = .ok (.aload_n 0, 1) := by decide +kernel
theorem dX6_keeps_52 : decode cX6_keeps 52 = .ok (.getfield 42, 3) := by decide +kernel
theorem dX6_keeps_55 : decode cX6_keeps 55 = .ok (.aload_n 0, 1) := by decide +kernel
theorem dX6_keeps_56 : decode cX6_keeps 56 = .ok (.getfield 121, 3) := by decide +kernel
theorem dX6_keeps_59 : decode cX6_keeps 59 = .ok (.iload_n 1, 1) := by decide +kernel
theorem dX6_keeps_60 : decode cX6_keeps 60 = .ok (.iastore, 1) := by decide +kernel
theorem dX6_keeps_61 : decode cX6_keeps 61 = .ok (.aload_n 0, 1) := by decide +kernel
theorem dX6_keeps_62 : decode cX6_keeps 62 = .ok (.dup, 1) := by decide +kernel
theorem dX6_keeps_63 : decode cX6_keeps 63 = .ok (.getfield 121, 3) := by decide +kernel
theorem dX6_keeps_66 : decode cX6_keeps 66 = .ok (.iconst 1, 1) := by decide +kernel
theorem dX6_keeps_67 : decode cX6_keeps 67 = .ok (.iadd, 1) := by decide +kernel
theorem dX6_keeps_68 : decode cX6_keeps 68 = .ok (.putfield 121, 3) := by decide +kernel
theorem dX6_keeps_71 : decode cX6_keeps 71 = .ok (.return_, 1) := by decide +kernel
theorem dX6_find_0 : decode cX6_find 0 = .ok (.iload_n 1, 1) := by decide +kernel
theorem dX6_find_1 : decode cX6_find 1 = .ok (.iconst 1, 1) := by decide +kernel
theorem dX6_find_2 : decode cX6_find 2 = .ok (.bipush 24, 2) := by decide +kernel
theorem dX6_find_4 : decode cX6_find 4 = .ok (.invokestatic 60, 3) := by decide +kernel
theorem dX6_find_7 : decode cX6_find 7 = .ok (.ifCond .eq 12, 3) := by decide +kernel
theorem dX6_find_10 : decode cX6_find 10 = .ok (.iload_n 2, 1) := by decide +kernel
theorem dX6_find_11 : decode cX6_find 11 = .ok (.iconst 1, 1) := by decide +kernel
theorem dX6_find_12 : decode cX6_find 12 = .ok (.iconst 4, 1) := by decide +kernel
theorem dX6_find_13 : decode cX6_find 13 = .ok (.invokestatic 60, 3) := by decide +kernel
theorem dX6_find_16 : decode cX6_find 16 = .ok (.ifCond .ne 5, 3) := by decide +kernel
theorem dX6_find_19 : decode cX6_find 19 = .ok (.iconst (-1), 1) := by decide +kernel
theorem dX6_find_20 : decode cX6_find 20 = .ok (.ireturn, 1) := by decide +kernel
theorem dX6_find_21 : decode cX6_find 21 = .ok (.aload_n 0, 1) := by decide +kernel
theorem dX6_find_22 : decode cX6_find 22 = .ok (.invokevirtual 105, 3) := by decide +kernel
theorem dX6_find_25 : decode cX6_find 25 = .ok (.aload_n 0, 1) := by decide +kernel
theorem dX6_find_26 : decode cX6_find 26 = .ok (.iconst 0, 1) := by decide +kernel
theorem dX6_find_27 : decode cX6_find 27 = .ok (.putfield 121, 3) := by decide +kernel
theorem dX6_find_30 : decode cX6_find 30 = .ok (.iconst 0, 1) := by decide +kernel
theorem dX6_find_31 : decode cX6_find 31 = .ok (.istore_n 3, 1) := by decide +kernel
theorem dX6_find_32 : decode cX6_find 32 = .ok (.iconst 1, 1) := by decide +kernel
theorem dX6_find_33 : decode cX6_find 33 = .ok (.istore 4, 2) := by decide +kernel
theorem dX6_find_35 : decode cX6_find 35 = .ok (.iconst 1, 1) := by decide +kernel
theorem dX6_find_36 : decode cX6_find 36 = .ok (.istore 5, 2) := by decide +kernel
theorem dX6_find_38 : decode cX6_find 38 = .ok (.iload 5, 2) := by decide +kernel
theorem dX6_find_40 : decode cX6_find 40 = .ok (.iload_n 2, 1) := by decide +kernel
theorem dX6_find_41 : decode cX6_find 41 = .ok (.if_icmp .gt 158, 3) := by decide +kernel
theorem dX6_find_44 : decode cX6_find 44 = .ok (.aload_n 0, 1) := by decide +kernel
theorem dX6_find_45 : decode cX6_find 45 = .ok (.getfield 121, 3) := by decide +kernel
theorem dX6_find_48 : decode cX6_find 48 = .ok (.istore 6, 2) := by decide +kernel
theorem dX6_find_50 : decode cX6_find 50 = .ok (.iload_n 3, 1) := by decide +kernel
theorem dX6_find_51 : decode cX6_find 51 = .ok (.istore 7, 2) := by decide +kernel
theorem dX6_find_53 : decode cX6_find 53 = .ok (.iload 7, 2) := by decide +kernel
theorem dX6_find_55 : decode cX6_find 55 = .ok (.iload 4, 2) := by decide +kernel
theorem dX6_find_57 : decode cX6_find 57 = .ok (.if_icmp .ge 127, 3) := by decide +kernel
theorem dX6_find_60 : decode cX6_find 60 = .ok (.aload_n 0, 1) := by decide +kernel
theorem dX6_find_61 : decode cX6_find 61 = .ok (.getfield 121, 3) := by decide +kernel
theorem dX6_find_64 : decode cX6_find 64 = .ok (.sipush 2000, 3) := by decide +kernel
theorem dX6_find_67 : decode cX6_find 67 = .ok (.if_icmp .ge 117, 3) := by decide +kernel
theorem dX6_find_70 : decode cX6_find 70 = .ok (.iconst 0, 1) := by decide +kernel
theorem dX6_find_71 : decode cX6_find 71 = .ok (.istore 8, 2) := by decide +kernel
theorem dX6_find_73 : decode cX6_find 73 = .ok (.iload 8, 2) := by decide +kernel
theorem dX6_find_75 : decode cX6_find 75 = .ok (.iload 5, 2) := by decide +kernel
theorem dX6_find_77 : decode cX6_find 77 = .ok (.iconst 1, 1) := by decide +kernel
theorem dX6_find_78 : decode cX6_find 78 = .ok (.isub, 1) := by decide +kernel
theorem dX6_find_79 : decode cX6_find 79 = .ok (.if_icmp .ge 28, 3) := by decide +kernel
theorem dX6_find_82 : decode cX6_find 82 = .ok (.aload_n 0, 1) := by decide +kernel
theorem dX6_find_83 : decode cX6_find 83 = .ok (.getfield 45, 3) := by decide +kernel
theorem dX6_find_86 : decode cX6_find 86 = .ok (.iload 8, 2) := by decide +kernel
theorem dX6_find_88 : decode cX6_find 88 = .ok (.aload_n 0, 1) := by decide +kernel
theorem dX6_find_89 : decode cX6_find 89 = .ok (.getfield 36, 3) := by decide +kernel
theorem dX6_find_92 : decode cX6_find 92 = .ok (.iconst 4, 1) := by decide +kernel
theorem dX6_find_93 : decode cX6_find 93 = .ok (.iload 7, 2) := by decide +kernel
theorem dX6_find_95 : decode cX6_find 95 = .ok (.imul, 1) := by decide +kernel
theorem dX6_find_96 : decode cX6_find 96 = .ok (.iload 8, 2) := by decide +kernel
theorem dX6_find_98 : decode cX6_find 98 = .ok (.iadd, 1) := by decide +kernel
theorem dX6_find_99 : decode cX6_find 99 = .ok (.iaload, 1) := by decide +kernel
theorem dX6_find_100 : decode cX6_find 100 = .ok (.iastore, 1) := by decide +kernel
theorem dX6_find_101 : decode cX6_find 101 = .ok (.iinc 8 1, 3) := by decide +kernel
theorem dX6_find_104 : decode cX6_find 104 = .ok (.goto (-31), 3) := by decide +kernel
theorem dX6_find_107 : decode cX6_find 107 = .ok (.iconst 0, 1) := by decide +kernel
theorem dX6_find_108 : decode cX6_find 108 = .ok (.istore 8, 2) := by decide +kernel
theorem dX6_find_110 : decode cX6_find 110 = .ok (.iload 8, 2) := by decide +kernel
theorem dX6_find_112 : decode cX6_find 112 = .ok (.bipush 16, 2) := by decide +kernel
theorem dX6_find_114 : decode cX6_find 114 = .ok (.if_icmp .ge 64, 3) := by decide +kernel
theorem dX6_find_117 : decode cX6_find 117 = .ok (.aload_n 0, 1) := by decide +kernel
theorem dX6_find_118 : decode cX6_find 118 = .ok (.getfield 121, 3) := by decide +kernel
theorem dX6_find_121 : decode cX6_find 121 = .ok (.sipush 2000, 3) := by decide +kernel
theorem dX6_find_124 : decode cX6_find 124 = .ok (.if_icmp .ge 54, 3) := by decide +kernel
theorem dX6_find_127 : decode cX6_find 127 = .ok (.aload_n 0, 1) := by decide +kernel
theorem dX6_find_128 : decode cX6_find 128 = .ok (.iload 8, 2) := by decide +kernel
theorem dX6_find_130 : decode cX6_find 130 = .ok (.invokevirtual 124, 3) := by decide +kernel
theorem dX6_find_133 : decode cX6_find 133 = .ok (.ifCond .ne 6, 3) := by decide +kernel
theorem dX6_find_136 : decode cX6_find 136 = .ok (.goto 36, 3) := by decide +kernel
theorem dX6_find_139 : decode cX6_find 139 = .ok (.aload_n 0, 1) := by decide +kernel
theorem dX6_find_140 : decode cX6_find 140 = .ok (.getfield 45, 3) := by decide +kernel
theorem dX6_find_143 : decode cX6_find 143 = .ok (.iload 5, 2) := by decide +kernel
theorem dX6_find_145 : decode cX6_find 145 = .ok (.iconst 1, 1) := by decide +kernel
theorem dX6_find_146 : decode cX6_find 146 = .ok (.isub, 1) := by decide +kernel
theorem dX6_find_147 : decode cX6_find 147 = .ok (.iload 8, 2) := by decide +kernel
theorem dX6_find_149 : decode cX6_find 149 = .ok (.iastore, 1) := by decide +kernel
theorem dX6_find_150 : decode cX6_find 150 = .ok (.aload_n 0, 1) := by decide +kernel
theorem dX6_find_151 : decode cX6_find 151 = .ok (.iload 5, 2) := by decide +kernel
theorem dX6_find_153 : decode cX6_find 153 = .ok (.invokevirtual 108, 3) := by decide +kernel
theorem dX6_find_156 : decode cX6_find 156 = .ok (.istore 9, 2) := by decide +kernel
theorem dX6_find_158 : decode cX6_find 158 = .ok (.iload 9, 2) := by decide +kernel
theorem dX6_find_160 : decode cX6_find 160 = .ok (.iload_n 1, 1) := by decide +kernel
theorem dX6_find_161 : decode cX6_find 161 = .ok (.if_icmp .lt 11, 3) := by decide +kernel
theorem dX6_find_164 : decode cX6_find 164 = .ok (.aload_n 0, 1) := by decide +kernel
theorem dX6_find_165 : decode cX6_find 165 = .ok (.iload 5, 2) := by decide +kernel
theorem dX6_find_167 : decode cX6_find 167 = .ok (.iload 9, 2) := by decide +kernel
theorem dX6_find_169 : decode cX6_find 169 = .ok (.invokevirtual 127, 3) := by decide +kernel
theorem dX6_find_172 : decode cX6_find 172 = .ok (.iinc 8 1, 3) := by decide +kernel
theorem dX6_find_175 : decode cX6_find 175 = .ok (.goto (-65), 3) := by decide +kernel
theorem dX6_find_178 : decode cX6_find 178 = .ok (.iinc 7 1, 3) := by decide +kernel
theorem dX6_find_181 : decode cX6_find 181 = .ok (.goto (-128), 3) := by decide +kernel
theorem dX6_find_184 : decode cX6_find 184 = .ok (.iload 6, 2) := by decide +kernel
theorem dX6_find_186 : decode cX6_find 186 = .ok (.istore_n 3, 1) := by decide +kernel
theorem dX6_find_187 : decode cX6_find 187 = .ok (.aload_n 0, 1) := by decide +kernel
theorem dX6_find_188 : decode cX6_find 188 = .ok (.getfield 121, 3) := by decide +kernel
theorem dX6_find_191 : decode cX6_find 191 = .ok (.istore 4, 2) := by decide +kernel
theorem dX6_find_193 : decode cX6_find 193 = .ok (.iinc 5 1, 3) := by decide +kernel
theorem dX6_find_196 : decode cX6_find 196 = .ok (.goto (-158), 3) := by decide +kernel
theorem dX6_find_199 : decode cX6_find 199 = .ok (.aload_n 0, 1) := by decide +kernel
theorem dX6_find_200 : decode cX6_find 200 = .ok (.getfield 121, 3) := by decide +kernel
theorem dX6_find_203 : decode cX6_find 203 = .ok (.ireturn, 1) := by decide +kernel
theorem dX6_found_0 : decode cX6_found 0 = .ok (.iload_n 1, 1) := by decide +kernel
theorem dX6_found_1 : decode cX6_found 1 = .ok (.iconst 0, 1) := by decide +kernel
theorem dX6_found_2 : decode cX6_found 2 = .ok (.aload_n 0, 1) := by decide +kernel
theorem dX6_found_3 : decode cX6_found 3 = .ok (.getfield 121, 3) := by decide +kernel
theorem dX6_found_6 : decode cX6_found 6 = .ok (.iconst 1, 1) := by decide +kernel
theorem dX6_found_7 : decode cX6_found 7 = .ok (.isub, 1) := by decide +kernel
theorem dX6_found_8 : decode cX6_found 8 = .ok (.invokestatic 60, 3) := by decide +kernel
theorem dX6_found_11 : decode cX6_found 11 = .ok (.ifCond .ne 5, 3) := by decide +kernel
theorem dX6_found_14 : decode cX6_found 14 = .ok (.iconst (-1), 1) := by decide +kernel
theorem dX6_found_15 : decode cX6_found 15 = .ok (.ireturn, 1) := by decide +kernel
theorem dX6_found_16 : decode cX6_found 16 = .ok (.iload_n 2, 1) := by decide +kernel
theorem dX6_found_17 : decode cX6_found 17 = .ok (.iconst 0, 1) := by decide +kernel
theorem dX6_found_18 : decode cX6_found 18 = .ok (.iconst 3, 1) := by decide +kernel
theorem dX6_found_19 : decode cX6_found 19 = .ok (.invokestatic 60, 3) := by decide +kernel
theorem dX6_found_22 : decode cX6_found 22 = .ok (.ifCond .eq 16, 3) := by decide +kernel
theorem dX6_found_25 : decode cX6_found 25 = .ok (.aload_n 0, 1) := by decide +kernel
theorem dX6_found_26 : decode cX6_found 26 = .ok (.getfield 36, 3) := by decide +kernel
theorem dX6_found_29 : decode cX6_found 29 = .ok (.iconst 4, 1) := by decide +kernel
theorem dX6_found_30 : decode cX6_found 30 = .ok (.iload_n 1, 1) := by decide +kernel
theorem dX6_found_31 : decode cX6_found 31 = .ok (.imul, 1) := by decide +kernel
theorem dX6_found_32 : decode cX6_found 32 = .ok (.iload_n 2, 1) := by decide +kernel
theorem dX6_found_33 : decode cX6_found 33 = .ok (.iadd, 1) := by decide +kernel
theorem dX6_found_34 : decode cX6_found 34 = .ok (.iaload, 1) := by decide +kernel
theorem dX6_found_35 : decode cX6_found 35 = .ok (.goto 32, 3) := by decide +kernel
theorem dX6_found_38 : decode cX6_found 38 = .ok (.iload_n 2, 1) := by decide +kernel
theorem dX6_found_39 : decode cX6_found 39 = .ok (.iconst 4, 1) := by decide +kernel
theorem dX6_found_40 : decode cX6_found 40 = .ok (.if_icmp .ne 12, 3) := by decide +kernel
theorem dX6_found_43 : decode cX6_found 43 = .ok (.aload_n 0, 1) := by decide +kernel
theorem dX6_found_44 : decode cX6_found 44 = .ok (.getfield 39, 3) := by decide +kernel
theorem dX6_found_47 : decode cX6_found 47 = .ok (.iload_n 1, 1) := by decide +kernel
theorem dX6_found_48 : decode cX6_found 48 = .ok (.iaload, 1) := by decide +kernel
theorem dX6_found_49 : decode cX6_found 49 = .ok (.goto 18, 3) := by decide +kernel
theorem dX6_found_52 : decode cX6_found 52 = .ok (.iload_n 2, 1) := by decide +kernel
theorem dX6_found_53 : decode cX6_found 53 = .ok (.iconst 5, 1) := by decide +kernel
theorem dX6_found_54 : decode cX6_found 54 = .ok (.if_icmp .ne 12, 3) := by decide +kernel
theorem dX6_found_57 : decode cX6_found 57 = .ok (.aload_n 0, 1) := by decide +kernel
theorem dX6_found_58 : decode cX6_found 58 = .ok (.getfield 42, 3) := by decide +kernel
theorem dX6_found_61 : decode cX6_found 61 = .ok (.iload_n 1, 1) := by decide +kernel
theorem dX6_found_62 : decode cX6_found 62 = .ok (.iaload, 1) := by decide +kernel
theorem dX6_found_63 : decode cX6_found 63 = .ok (.goto 4, 3) := by decide +kernel
theorem dX6_found_66 : decode cX6_found 66 = .ok (.iconst (-1), 1) := by decide +kernel
theorem dX6_found_67 : decode cX6_found 67 = .ok (.ireturn, 1) := by decide +kernel
theorem dX6_takesFound_0 : decode cX6_takesFound 0 = .ok (.aload_n 0, 1) := by decide +kernel
theorem dX6_takesFound_1 : decode cX6_takesFound 1 = .ok (.aload_n 0, 1) := by decide +kernel
theorem dX6_takesFound_2 : decode cX6_takesFound 2 = .ok (.getfield 36, 3) := by decide +kernel
theorem dX6_takesFound_5 : decode cX6_takesFound 5 = .ok (.iconst 4, 1) := by decide +kernel
theorem dX6_takesFound_6 : decode cX6_takesFound 6 = .ok (.iload_n 1, 1) := by decide +kernel
theorem dX6_takesFound_7 : decode cX6_takesFound 7 = .ok (.imul, 1) := by decide +kernel
theorem dX6_takesFound_8 : decode cX6_takesFound 8 = .ok (.iaload, 1) := by decide +kernel
theorem dX6_takesFound_9 : decode cX6_takesFound 9 = .ok (.aload_n 0, 1) := by decide +kernel
theorem dX6_takesFound_10 : decode cX6_takesFound 10 = .ok (.getfield 36, 3) := by decide +kernel
theorem dX6_takesFound_13 : decode cX6_takesFound 13 = .ok (.iconst 4, 1) := by decide +kernel
theorem dX6_takesFound_14 : decode cX6_takesFound 14 = .ok (.iload_n 1, 1) := by decide +kernel
theorem dX6_takesFound_15 : decode cX6_takesFound 15 = .ok (.imul, 1) := by decide +kernel
theorem dX6_takesFound_16 : decode cX6_takesFound 16 = .ok (.iconst 1, 1) := by decide +kernel
theorem dX6_takesFound_17 : decode cX6_takesFound 17 = .ok (.iadd, 1) := by decide +kernel
theorem dX6_takesFound_18 : decode cX6_takesFound 18 = .ok (.iaload, 1) := by decide +kernel
theorem dX6_takesFound_19 : decode cX6_takesFound 19 = .ok (.aload_n 0, 1) := by decide +kernel
theorem dX6_takesFound_20 : decode cX6_takesFound 20 = .ok (.getfield 36, 3) := by decide +kernel
theorem dX6_takesFound_23 : decode cX6_takesFound 23 = .ok (.iconst 4, 1) := by decide +kernel
theorem dX6_takesFound_24 : decode cX6_takesFound 24 = .ok (.iload_n 1, 1) := by decide +kernel
theorem dX6_takesFound_25 : decode cX6_takesFound 25 = .ok (.imul, 1) := by decide +kernel
theorem dX6_takesFound_26 : decode cX6_takesFound 26 = .ok (.iconst 2, 1) := by decide +kernel
theorem dX6_takesFound_27 : decode cX6_takesFound 27 = .ok (.iadd, 1) := by decide +kernel
theorem dX6_takesFound_28 : decode cX6_takesFound 28 = .ok (.iaload, 1) := by decide +kernel
theorem dX6_takesFound_29 : decode cX6_takesFound 29 = .ok (.aload_n 0, 1) := by decide +kernel
theorem dX6_takesFound_30 : decode cX6_takesFound 30 = .ok (.getfield 36, 3) := by decide +kernel
theorem dX6_takesFound_33 : decode cX6_takesFound 33 = .ok (.iconst 4, 1) := by decide +kernel
theorem dX6_takesFound_34 : decode cX6_takesFound 34 = .ok (.iload_n 1, 1) := by decide +kernel
theorem dX6_takesFound_35 : decode cX6_takesFound 35 = .ok (.imul, 1) := by decide +kernel
theorem dX6_takesFound_36 : decode cX6_takesFound 36 = .ok (.iconst 3, 1) := by decide +kernel
theorem dX6_takesFound_37 : decode cX6_takesFound 37 = .ok (.iadd, 1) := by decide +kernel
theorem dX6_takesFound_38 : decode cX6_takesFound 38 = .ok (.iaload, 1) := by decide +kernel
theorem dX6_takesFound_39 : decode cX6_takesFound 39 = .ok (.invokevirtual 101, 3) := by decide +kernel
theorem dX6_takesFound_42 : decode cX6_takesFound 42 = .ok (.ireturn, 1) := by decide +kernel
theorem dX6_closed_0 : decode cX6_closed 0 = .ok (.iload_n 1, 1) := by decide +kernel
theorem dX6_closed_1 : decode cX6_closed 1 = .ok (.iconst 0, 1) := by decide +kernel
theorem dX6_closed_2 : decode cX6_closed 2 = .ok (.aload_n 0, 1) := by decide +kernel
theorem dX6_closed_3 : decode cX6_closed 3 = .ok (.getfield 121, 3) := by decide +kernel
theorem dX6_closed_6 : decode cX6_closed 6 = .ok (.iconst 1, 1) := by decide +kernel
theorem dX6_closed_7 : decode cX6_closed 7 = .ok (.isub, 1) := by decide +kernel
theorem dX6_closed_8 : decode cX6_closed 8 = .ok (.invokestatic 60, 3) := by decide +kernel
theorem dX6_closed_11 : decode cX6_closed 11 = .ok (.ifCond .ne 5, 3) := by decide +kernel
theorem dX6_closed_14 : decode cX6_closed 14 = .ok (.iconst (-1), 1) := by decide +kernel
theorem dX6_closed_15 : decode cX6_closed 15 = .ok (.ireturn, 1) := by decide +kernel
theorem dX6_closed_16 : decode cX6_closed 16 = .ok (.aload_n 0, 1) := by decide +kernel
theorem dX6_closed_17 : decode cX6_closed 17 = .ok (.invokevirtual 105, 3) := by decide +kernel
theorem dX6_closed_20 : decode cX6_closed 20 = .ok (.aload_n 0, 1) := by decide +kernel
theorem dX6_closed_21 : decode cX6_closed 21 = .ok (.iload_n 1, 1) := by decide +kernel
theorem dX6_closed_22 : decode cX6_closed 22 = .ok (.invokevirtual 131, 3) := by decide +kernel
theorem dX6_closed_25 : decode cX6_closed 25 = .ok (.istore_n 2, 1) := by decide +kernel
theorem dX6_closed_26 : decode cX6_closed 26 = .ok (.aload_n 0, 1) := by decide +kernel
theorem dX6_closed_27 : decode cX6_closed 27 = .ok (.getfield 81, 3) := by decide +kernel
theorem dX6_closed_30 : decode cX6_closed 30 = .ok (.istore_n 3, 1) := by decide +kernel
theorem dX6_closed_31 : decode cX6_closed 31 = .ok (.aload_n 0, 1) := by decide +kernel
theorem dX6_closed_32 : decode cX6_closed 32 = .ok (.iload_n 3, 1) := by decide +kernel
theorem dX6_closed_33 : decode cX6_closed 33 = .ok (.invokevirtual 108, 3) := by decide +kernel
theorem dX6_closed_36 : decode cX6_closed 36 = .ok (.istore 4, 2) := by decide +kernel
theorem dX6_closed_38 : decode cX6_closed 38 = .ok (.iconst 0, 1) := by decide +kernel
theorem dX6_closed_39 : decode cX6_closed 39 = .ok (.istore 5, 2) := by decide +kernel
theorem dX6_closed_41 : decode cX6_closed 41 = .ok (.iload 5, 2) := by decide +kernel
theorem dX6_closed_43 : decode cX6_closed 43 = .ok (.iload_n 3, 1) := by decide +kernel
theorem dX6_closed_44 : decode cX6_closed 44 = .ok (.if_icmp .gt 103, 3) := by decide +kernel
theorem dX6_closed_47 : decode cX6_closed 47 = .ok (.iload_n 3, 1) := by decide +kernel
theorem dX6_closed_48 : decode cX6_closed 48 = .ok (.iconst 4, 1) := by decide +kernel
theorem dX6_closed_49 : decode cX6_closed 49 = .ok (.if_icmp .ge 98, 3) := by decide +kernel
theorem dX6_closed_52 : decode cX6_closed 52 = .ok (.iconst 0, 1) := by decide +kernel
theorem dX6_closed_53 : decode cX6_closed 53 = .ok (.istore 6, 2) := by decide +kernel
theorem dX6_closed_55 : decode cX6_closed 55 = .ok (.iload 6, 2) := by decide +kernel
theorem dX6_closed_57 : decode cX6_closed 57 = .ok (.bipush 16, 2) := by decide +kernel
theorem dX6_closed_59 : decode cX6_closed 59 = .ok (.if_icmp .ge 82, 3) := by decide +kernel
theorem dX6_closed_62 : decode cX6_closed 62 = .ok (.iconst 0, 1) := by decide +kernel
theorem dX6_closed_63 : decode cX6_closed 63 = .ok (.istore 7, 2) := by decide +kernel
theorem dX6_closed_65 : decode cX6_closed 65 = .ok (.iload 7, 2) := by decide +kernel
theorem dX6_closed_67 : decode cX6_closed 67 = .ok (.iload_n 3, 1) := by decide +kernel
theorem dX6_closed_68 : decode cX6_closed 68 = .ok (.if_icmp .gt 53, 3) := by decide +kernel
theorem dX6_closed_71 : decode cX6_closed 71 = .ok (.aload_n 0, 1) := by decide +kernel
theorem dX6_closed_72 : decode cX6_closed 72 = .ok (.getfield 45, 3) := by decide +kernel
theorem dX6_closed_75 : decode cX6_closed 75 = .ok (.iload 7, 2) := by decide +kernel
theorem dX6_closed_77 : decode cX6_closed 77 = .ok (.iload 7, 2) := by decide +kernel
theorem dX6_closed_79 : decode cX6_closed 79 = .ok (.iload 5, 2) := by decide +kernel
theorem dX6_closed_81 : decode cX6_closed 81 = .ok (.if_icmp .ne 8, 3) := by decide +kernel
theorem dX6_closed_84 : decode cX6_closed 84 = .ok (.iload 6, 2) := by decide +kernel
theorem dX6_closed_86 : decode cX6_closed 86 = .ok (.goto 28, 3) := by decide +kernel
theorem dX6_closed_89 : decode cX6_closed 89 = .ok (.aload_n 0, 1) := by decide +kernel
theorem dX6_closed_90 : decode cX6_closed 90 = .ok (.getfield 36, 3) := by decide +kernel
theorem dX6_closed_93 : decode cX6_closed 93 = .ok (.iconst 4, 1) := by decide +kernel
theorem dX6_closed_94 : decode cX6_closed 94 = .ok (.iload_n 1, 1) := by decide +kernel
theorem dX6_closed_95 : decode cX6_closed 95 = .ok (.imul, 1) := by decide +kernel
theorem dX6_closed_96 : decode cX6_closed 96 = .ok (.iload 7, 2) := by decide +kernel
theorem dX6_closed_98 : decode cX6_closed 98 = .ok (.iload 5, 2) := by decide +kernel
theorem dX6_closed_100 : decode cX6_closed 100 = .ok (.if_icmp .ge 8, 3) := by decide +kernel
theorem dX6_closed_103 : decode cX6_closed 103 = .ok (.iload 7, 2) := by decide +kernel
theorem dX6_closed_105 : decode cX6_closed 105 = .ok (.goto 7, 3) := by decide +kernel
theorem dX6_closed_108 : decode cX6_closed 108 = .ok (.iload 7, 2) := by decide +kernel
theorem dX6_closed_110 : decode cX6_closed 110 = .ok (.iconst 1, 1) := by decide +kernel
theorem dX6_closed_111 : decode cX6_closed 111 = .ok (.isub, 1) := by decide +kernel
theorem dX6_closed_112 : decode cX6_closed 112 = .ok (.iadd, 1) := by decide +kernel
theorem dX6_closed_113 : decode cX6_closed 113 = .ok (.iaload, 1) := by decide +kernel
theorem dX6_closed_114 : decode cX6_closed 114 = .ok (.iastore, 1) := by decide +kernel
theorem dX6_closed_115 : decode cX6_closed 115 = .ok (.iinc 7 1, 3) := by decide +kernel
theorem dX6_closed_118 : decode cX6_closed 118 = .ok (.goto (-53), 3) := by decide +kernel
theorem dX6_closed_121 : decode cX6_closed 121 = .ok (.aload_n 0, 1) := by decide +kernel
theorem dX6_closed_122 : decode cX6_closed 122 = .ok (.iload_n 3, 1) := by decide +kernel
theorem dX6_closed_123 : decode cX6_closed 123 = .ok (.iconst 1, 1) := by decide +kernel
theorem dX6_closed_124 : decode cX6_closed 124 = .ok (.iadd, 1) := by decide +kernel
theorem dX6_closed_125 : decode cX6_closed 125 = .ok (.invokevirtual 108, 3) := by decide +kernel
theorem dX6_closed_128 : decode cX6_closed 128 = .ok (.iload 4, 2) := by decide +kernel
theorem dX6_closed_130 : decode cX6_closed 130 = .ok (.if_icmp .ne 5, 3) := by decide +kernel
theorem dX6_closed_133 : decode cX6_closed 133 = .ok (.iconst 0, 1) := by decide +kernel
theorem dX6_closed_134 : decode cX6_closed 134 = .ok (.ireturn, 1) := by decide +kernel
theorem dX6_closed_135 : decode cX6_closed 135 = .ok (.iinc 6 1, 3) := by decide +kernel
theorem dX6_closed_138 : decode cX6_closed 138 = .ok (.goto (-83), 3) := by decide +kernel
theorem dX6_closed_141 : decode cX6_closed 141 = .ok (.iinc 5 1, 3) := by decide +kernel
theorem dX6_closed_144 : decode cX6_closed 144 = .ok (.goto (-103), 3) := by decide +kernel
theorem dX6_closed_147 : decode cX6_closed 147 = .ok (.iconst 0, 1) := by decide +kernel
theorem dX6_closed_148 : decode cX6_closed 148 = .ok (.istore 5, 2) := by decide +kernel
theorem dX6_closed_150 : decode cX6_closed 150 = .ok (.iload 5, 2) := by decide +kernel
theorem dX6_closed_152 : decode cX6_closed 152 = .ok (.iload_n 3, 1) := by decide +kernel
theorem dX6_closed_153 : decode cX6_closed 153 = .ok (.if_icmp .ge 106, 3) := by decide +kernel
theorem dX6_closed_156 : decode cX6_closed 156 = .ok (.iconst 0, 1) := by decide +kernel
theorem dX6_closed_157 : decode cX6_closed 157 = .ok (.istore 6, 2) := by decide +kernel
theorem dX6_closed_159 : decode cX6_closed 159 = .ok (.iload 6, 2) := by decide +kernel
theorem dX6_closed_161 : decode cX6_closed 161 = .ok (.bipush 16, 2) := by decide +kernel
theorem dX6_closed_163 : decode cX6_closed 163 = .ok (.if_icmp .ge 90, 3) := by decide +kernel
theorem dX6_closed_166 : decode cX6_closed 166 = .ok (.aload_n 0, 1) := by decide +kernel
theorem dX6_closed_167 : decode cX6_closed 167 = .ok (.getfield 16, 3) := by decide +kernel
theorem dX6_closed_170 : decode cX6_closed 170 = .ok (.iload 6, 2) := by decide +kernel
theorem dX6_closed_172 : decode cX6_closed 172 = .ok (.iaload, 1) := by decide +kernel
theorem dX6_closed_173 : decode cX6_closed 173 = .ok (.aload_n 0, 1) := by decide +kernel
theorem dX6_closed_174 : decode cX6_closed 174 = .ok (.getfield 36, 3) := by decide +kernel
theorem dX6_closed_177 : decode cX6_closed 177 = .ok (.iconst 4, 1) := by decide +kernel
theorem dX6_closed_178 : decode cX6_closed 178 = .ok (.iload_n 1, 1) := by decide +kernel
theorem dX6_closed_179 : decode cX6_closed 179 = .ok (.imul, 1) := by decide +kernel
theorem dX6_closed_180 : decode cX6_closed 180 = .ok (.iload 5, 2) := by decide +kernel
theorem dX6_closed_182 : decode cX6_closed 182 = .ok (.iadd, 1) := by decide +kernel
theorem dX6_closed_183 : decode cX6_closed 183 = .ok (.iaload, 1) := by decide +kernel
theorem dX6_closed_184 : decode cX6_closed 184 = .ok (.if_icmp .eq 6, 3) := by decide +kernel
theorem dX6_closed_187 : decode cX6_closed 187 = .ok (.goto 60, 3) := by decide +kernel
theorem dX6_closed_190 : decode cX6_closed 190 = .ok (.iconst 0, 1) := by decide +kernel
theorem dX6_closed_191 : decode cX6_closed 191 = .ok (.istore 7, 2) := by decide +kernel
theorem dX6_closed_193 : decode cX6_closed 193 = .ok (.iload 7, 2) := by decide +kernel
theorem dX6_closed_195 : decode cX6_closed 195 = .ok (.iload_n 3, 1) := by decide +kernel
theorem dX6_closed_196 : decode cX6_closed 196 = .ok (.if_icmp .ge 39, 3) := by decide +kernel
theorem dX6_closed_199 : decode cX6_closed 199 = .ok (.aload_n 0, 1) := by decide +kernel
theorem dX6_closed_200 : decode cX6_closed 200 = .ok (.getfield 45, 3) := by decide +kernel
theorem dX6_closed_203 : decode cX6_closed 203 = .ok (.iload 7, 2) := by decide +kernel
theorem dX6_closed_205 : decode cX6_closed 205 = .ok (.iload 7, 2) := by decide +kernel
theorem dX6_closed_207 : decode cX6_closed 207 = .ok (.iload 5, 2) := by decide +kernel
theorem dX6_closed_209 : decode cX6_closed 209 = .ok (.if_icmp .ne 8, 3) := by decide +kernel
theorem dX6_closed_212 : decode cX6_closed 212 = .ok (.iload 6, 2) := by decide +kernel
theorem dX6_closed_214 : decode cX6_closed 214 = .ok (.goto 14, 3) := by decide +kernel
theorem dX6_closed_217 : decode cX6_closed 217 = .ok (.aload_n 0, 1) := by decide +kernel
theorem dX6_closed_218 : decode cX6_closed 218 = .ok (.getfield 36, 3) := by decide +kernel
theorem dX6_closed_221 : decode cX6_closed 221 = .ok (.iconst 4, 1) := by decide +kernel
theorem dX6_closed_222 : decode cX6_closed 222 = .ok (.iload_n 1, 1) := by decide +kernel
theorem dX6_closed_223 : decode cX6_closed 223 = .ok (.imul, 1) := by decide +kernel
theorem dX6_closed_224 : decode cX6_closed 224 = .ok (.iload 7, 2) := by decide +kernel
theorem dX6_closed_226 : decode cX6_closed 226 = .ok (.iadd, 1) := by decide +kernel
theorem dX6_closed_227 : decode cX6_closed 227 = .ok (.iaload, 1) := by decide +kernel
theorem dX6_closed_228 : decode cX6_closed 228 = .ok (.iastore, 1) := by decide +kernel
theorem dX6_closed_229 : decode cX6_closed 229 = .ok (.iinc 7 1, 3) := by decide +kernel
theorem dX6_closed_232 : decode cX6_closed 232 = .ok (.goto (-39), 3) := by decide +kernel
theorem dX6_closed_235 : decode cX6_closed 235 = .ok (.aload_n 0, 1) := by decide +kernel
theorem dX6_closed_236 : decode cX6_closed 236 = .ok (.iload_n 3, 1) := by decide +kernel
theorem dX6_closed_237 : decode cX6_closed 237 = .ok (.invokevirtual 108, 3) := by decide +kernel
theorem dX6_closed_240 : decode cX6_closed 240 = .ok (.iload 4, 2) := by decide +kernel
theorem dX6_closed_242 : decode cX6_closed 242 = .ok (.if_icmp .ne 5, 3) := by decide +kernel
theorem dX6_closed_245 : decode cX6_closed 245 = .ok (.iconst 0, 1) := by decide +kernel
theorem dX6_closed_246 : decode cX6_closed 246 = .ok (.ireturn, 1) := by decide +kernel
theorem dX6_closed_247 : decode cX6_closed 247 = .ok (.iinc 6 1, 3) := by decide +kernel
theorem dX6_closed_250 : decode cX6_closed 250 = .ok (.goto (-91), 3) := by decide +kernel
theorem dX6_closed_253 : decode cX6_closed 253 = .ok (.iinc 5 1, 3) := by decide +kernel
theorem dX6_closed_256 : decode cX6_closed 256 = .ok (.goto (-106), 3) := by decide +kernel
theorem dX6_closed_259 : decode cX6_closed 259 = .ok (.iconst 1, 1) := by decide +kernel
theorem dX6_closed_260 : decode cX6_closed 260 = .ok (.ireturn, 1) := by decide +kernel
theorem dX6_inHeap_0 : decode cX6_inHeap 0 = .ok (.iconst 0, 1) := by decide +kernel
theorem dX6_inHeap_1 : decode cX6_inHeap 1 = .ok (.istore_n 3, 1) := by decide +kernel
theorem dX6_inHeap_2 : decode cX6_inHeap 2 = .ok (.iconst 0, 1) := by decide +kernel
theorem dX6_inHeap_3 : decode cX6_inHeap 3 = .ok (.istore 4, 2) := by decide +kernel
theorem dX6_inHeap_5 : decode cX6_inHeap 5 = .ok (.iload 4, 2) := by decide +kernel
theorem dX6_inHeap_7 : decode cX6_inHeap 7 = .ok (.aload_n 0, 1) := by decide +kernel
theorem dX6_inHeap_8 : decode cX6_inHeap 8 = .ok (.getfield 64, 3) := by decide +kernel
theorem dX6_inHeap_11 : decode cX6_inHeap 11 = .ok (.if_icmp .ge 55, 3) := by decide +kernel
theorem dX6_inHeap_14 : decode cX6_inHeap 14 = .ok (.iload_n 3, 1) := by decide +kernel
theorem dX6_inHeap_15 : decode cX6_inHeap 15 = .ok (.aload_n 0, 1) := by decide +kernel
theorem dX6_inHeap_16 : decode cX6_inHeap 16 = .ok (.getfield 23, 3) := by decide +kernel
theorem dX6_inHeap_19 : decode cX6_inHeap 19 = .ok (.iload 4, 2) := by decide +kernel
theorem dX6_inHeap_21 : decode cX6_inHeap 21 = .ok (.baload, 1) := by decide +kernel
theorem dX6_inHeap_22 : decode cX6_inHeap 22 = .ok (.ifCond .ne 35, 3) := by decide +kernel
theorem dX6_inHeap_25 : decode cX6_inHeap 25 = .ok (.aload_n 0, 1) := by decide +kernel
theorem dX6_inHeap_26 : decode cX6_inHeap 26 = .ok (.getfield 20, 3) := by decide +kernel
theorem dX6_inHeap_29 : decode cX6_inHeap 29 = .ok (.iload 4, 2) := by decide +kernel
theorem dX6_inHeap_31 : decode cX6_inHeap 31 = .ok (.iaload, 1) := by decide +kernel
theorem dX6_inHeap_32 : decode cX6_inHeap 32 = .ok (.iload_n 1, 1) := by decide +kernel
theorem dX6_inHeap_33 : decode cX6_inHeap 33 = .ok (.if_icmp .ne 24, 3) := by decide +kernel
theorem dX6_inHeap_36 : decode cX6_inHeap 36 = .ok (.iload_n 2, 1) := by decide +kernel
theorem dX6_inHeap_37 : decode cX6_inHeap 37 = .ok (.ifCond .ne 16, 3) := by decide +kernel
theorem dX6_inHeap_40 : decode cX6_inHeap 40 = .ok (.aload_n 0, 1) := by decide +kernel
theorem dX6_inHeap_41 : decode cX6_inHeap 41 = .ok (.iload 4, 2) := by decide +kernel
theorem dX6_inHeap_43 : decode cX6_inHeap 43 = .ok (.aload_n 0, 1) := by decide +kernel
theorem dX6_inHeap_44 : decode cX6_inHeap 44 = .ok (.getfield 81, 3) := by decide +kernel
theorem dX6_inHeap_47 : decode cX6_inHeap 47 = .ok (.invokevirtual 98, 3) := by decide +kernel
theorem dX6_inHeap_50 : decode cX6_inHeap 50 = .ok (.ifCond .eq 7, 3) := by decide +kernel
theorem dX6_inHeap_53 : decode cX6_inHeap 53 = .ok (.iconst 1, 1) := by decide +kernel
theorem dX6_inHeap_54 : decode cX6_inHeap 54 = .ok (.goto 4, 3) := by decide +kernel
theorem dX6_inHeap_57 : decode cX6_inHeap 57 = .ok (.iconst 0, 1) := by decide +kernel
theorem dX6_inHeap_58 : decode cX6_inHeap 58 = .ok (.iadd, 1) := by decide +kernel
theorem dX6_inHeap_59 : decode cX6_inHeap 59 = .ok (.istore_n 3, 1) := by decide +kernel
theorem dX6_inHeap_60 : decode cX6_inHeap 60 = .ok (.iinc 4 1, 3) := by decide +kernel
theorem dX6_inHeap_63 : decode cX6_inHeap 63 = .ok (.goto (-58), 3) := by decide +kernel
theorem dX6_inHeap_66 : decode cX6_inHeap 66 = .ok (.iload_n 3, 1) := by decide +kernel
theorem dX6_inHeap_67 : decode cX6_inHeap 67 = .ok (.ireturn, 1) := by decide +kernel
theorem dX6_best_0 : decode cX6_best 0 = .ok (.aload_n 0, 1) := by decide +kernel
theorem dX6_best_1 : decode cX6_best 1 = .ok (.getfield 121, 3) := by decide +kernel
theorem dX6_best_4 : decode cX6_best 4 = .ok (.ifCond .ne 5, 3) := by decide +kernel
theorem dX6_best_7 : decode cX6_best 7 = .ok (.iconst (-1), 1) := by decide +kernel
theorem dX6_best_8 : decode cX6_best 8 = .ok (.ireturn, 1) := by decide +kernel
theorem dX6_best_9 : decode cX6_best 9 = .ok (.aload_n 0, 1) := by decide +kernel
theorem dX6_best_10 : decode cX6_best 10 = .ok (.invokevirtual 105, 3) := by decide +kernel
theorem dX6_best_13 : decode cX6_best 13 = .ok (.iconst (-1), 1) := by decide +kernel
theorem dX6_best_14 : decode cX6_best 14 = .ok (.istore_n 1, 1) := by decide +kernel
theorem dX6_best_15 : decode cX6_best 15 = .ok (.iconst 0, 1) := by decide +kernel
theorem dX6_best_16 : decode cX6_best 16 = .ok (.istore_n 2, 1) := by decide +kernel
theorem dX6_best_17 : decode cX6_best 17 = .ok (.iconst 0, 1) := by decide +kernel
theorem dX6_best_18 : decode cX6_best 18 = .ok (.istore_n 3, 1) := by decide +kernel
theorem dX6_best_19 : decode cX6_best 19 = .ok (.iload_n 3, 1) := by decide +kernel
theorem dX6_best_20 : decode cX6_best 20 = .ok (.aload_n 0, 1) := by decide +kernel
theorem dX6_best_21 : decode cX6_best 21 = .ok (.getfield 121, 3) := by decide +kernel
theorem dX6_best_24 : decode cX6_best 24 = .ok (.if_icmp .ge 79, 3) := by decide +kernel
theorem dX6_best_27 : decode cX6_best 27 = .ok (.aload_n 0, 1) := by decide +kernel
theorem dX6_best_28 : decode cX6_best 28 = .ok (.iload_n 3, 1) := by decide +kernel
theorem dX6_best_29 : decode cX6_best 29 = .ok (.invokevirtual 131, 3) := by decide +kernel
theorem dX6_best_32 : decode cX6_best 32 = .ok (.istore 4, 2) := by decide +kernel
theorem dX6_best_34 : decode cX6_best 34 = .ok (.aload_n 0, 1) := by decide +kernel
theorem dX6_best_35 : decode cX6_best 35 = .ok (.iconst 0, 1) := by decide +kernel
theorem dX6_best_36 : decode cX6_best 36 = .ok (.iconst 0, 1) := by decide +kernel
theorem dX6_best_37 : decode cX6_best 37 = .ok (.invokevirtual 134, 3) := by decide +kernel
theorem dX6_best_40 : decode cX6_best 40 = .ok (.aload_n 0, 1) := by decide +kernel
theorem dX6_best_41 : decode cX6_best 41 = .ok (.iconst 1, 1) := by decide +kernel
theorem dX6_best_42 : decode cX6_best 42 = .ok (.iconst 1, 1) := by decide +kernel
theorem dX6_best_43 : decode cX6_best 43 = .ok (.invokevirtual 134, 3) := by decide +kernel
theorem dX6_best_46 : decode cX6_best 46 = .ok (.imul, 1) := by decide +kernel
theorem dX6_best_47 : decode cX6_best 47 = .ok (.aload_n 0, 1) := by decide +kernel
theorem dX6_best_48 : decode cX6_best 48 = .ok (.iconst 1, 1) := by decide +kernel
theorem dX6_best_49 : decode cX6_best 49 = .ok (.iconst 0, 1) := by decide +kernel
theorem dX6_best_50 : decode cX6_best 50 = .ok (.invokevirtual 134, 3) := by decide +kernel
theorem dX6_best_53 : decode cX6_best 53 = .ok (.aload_n 0, 1) := by decide +kernel
theorem dX6_best_54 : decode cX6_best 54 = .ok (.iconst 0, 1) := by decide +kernel
theorem dX6_best_55 : decode cX6_best 55 = .ok (.iconst 1, 1) := by decide +kernel
theorem dX6_best_56 : decode cX6_best 56 = .ok (.invokevirtual 134, 3) := by decide +kernel
theorem dX6_best_59 : decode cX6_best 59 = .ok (.imul, 1) := by decide +kernel
theorem dX6_best_60 : decode cX6_best 60 = .ok (.isub, 1) := by decide +kernel
theorem dX6_best_61 : decode cX6_best 61 = .ok (.istore 5, 2) := by decide +kernel
theorem dX6_best_63 : decode cX6_best 63 = .ok (.iload 5, 2) := by decide +kernel
theorem dX6_best_65 : decode cX6_best 65 = .ok (.ifCond .ge 9, 3) := by decide +kernel
theorem dX6_best_68 : decode cX6_best 68 = .ok (.iload 5, 2) := by decide +kernel
theorem dX6_best_70 : decode cX6_best 70 = .ok (.ineg, 1) := by decide +kernel
theorem dX6_best_71 : decode cX6_best 71 = .ok (.goto 5, 3) := by decide +kernel
theorem dX6_best_74 : decode cX6_best 74 = .ok (.iload 5, 2) := by decide +kernel
theorem dX6_best_76 : decode cX6_best 76 = .ok (.istore 5, 2) := by decide +kernel
theorem dX6_best_78 : decode cX6_best 78 = .ok (.iload_n 1, 1) := by decide +kernel
theorem dX6_best_79 : decode cX6_best 79 = .ok (.iconst (-1), 1) := by decide +kernel
theorem dX6_best_80 : decode cX6_best 80 = .ok (.if_icmp .eq 12, 3) := by decide +kernel
theorem dX6_best_83 : decode cX6_best 83 = .ok (.iload 5, 2) := by decide +kernel
theorem dX6_best_85 : decode cX6_best 85 = .ok (.iload_n 2, 1) := by decide +kernel
theorem dX6_best_86 : decode cX6_best 86 = .ok (.if_icmp .gt 6, 3) := by decide +kernel
theorem dX6_best_89 : decode cX6_best 89 = .ok (.goto 8, 3) := by decide +kernel
theorem dX6_best_92 : decode cX6_best 92 = .ok (.iload_n 3, 1) := by decide +kernel
theorem dX6_best_93 : decode cX6_best 93 = .ok (.istore_n 1, 1) := by decide +kernel
theorem dX6_best_94 : decode cX6_best 94 = .ok (.iload 5, 2) := by decide +kernel
theorem dX6_best_96 : decode cX6_best 96 = .ok (.istore_n 2, 1) := by decide +kernel
theorem dX6_best_97 : decode cX6_best 97 = .ok (.iinc 3 1, 3) := by decide +kernel
theorem dX6_best_100 : decode cX6_best 100 = .ok (.goto (-81), 3) := by decide +kernel
theorem dX6_best_103 : decode cX6_best 103 = .ok (.iload_n 1, 1) := by decide +kernel
theorem dX6_best_104 : decode cX6_best 104 = .ok (.ireturn, 1) := by decide +kernel
theorem dX6_those_0 : decode cX6_those 0 = .ok (.iconst 0, 1) := by decide +kernel
theorem dX6_those_1 : decode cX6_those 1 = .ok (.istore_n 3, 1) := by decide +kernel
theorem dX6_those_2 : decode cX6_those 2 = .ok (.iconst 0, 1) := by decide +kernel
theorem dX6_those_3 : decode cX6_those 3 = .ok (.istore 4, 2) := by decide +kernel
theorem dX6_those_5 : decode cX6_those 5 = .ok (.iload 4, 2) := by decide +kernel
theorem dX6_those_7 : decode cX6_those 7 = .ok (.aload_n 0, 1) := by decide +kernel
theorem dX6_those_8 : decode cX6_those 8 = .ok (.getfield 27, 3) := by decide +kernel
theorem dX6_those_11 : decode cX6_those 11 = .ok (.iload_n 1, 1) := by decide +kernel
theorem dX6_those_12 : decode cX6_those 12 = .ok (.iaload, 1) := by decide +kernel
theorem dX6_those_13 : decode cX6_those 13 = .ok (.if_icmp .ge 37, 3) := by decide +kernel
theorem dX6_those_16 : decode cX6_those 16 = .ok (.iload_n 3, 1) := by decide +kernel
theorem dX6_those_17 : decode cX6_those 17 = .ok (.aload_n 0, 1) := by decide +kernel
theorem dX6_those_18 : decode cX6_those 18 = .ok (.aload_n 0, 1) := by decide +kernel
theorem dX6_those_19 : decode cX6_those 19 = .ok (.getfield 33, 3) := by decide +kernel
theorem dX6_those_22 : decode cX6_those 22 = .ok (.bipush 30, 2) := by decide +kernel
theorem dX6_those_24 : decode cX6_those 24 = .ok (.iload_n 1, 1) := by decide +kernel
theorem dX6_those_25 : decode cX6_those 25 = .ok (.imul, 1) := by decide +kernel
theorem dX6_those_26 : decode cX6_those 26 = .ok (.iload 4, 2) := by decide +kernel
theorem dX6_those_28 : decode cX6_those 28 = .ok (.iadd, 1) := by decide +kernel
theorem dX6_those_29 : decode cX6_those 29 = .ok (.iaload, 1) := by decide +kernel
theorem dX6_those_30 : decode cX6_those 30 = .ok (.iload_n 2, 1) := by decide +kernel
theorem dX6_those_31 : decode cX6_those 31 = .ok (.invokevirtual 71, 3) := by decide +kernel
theorem dX6_those_34 : decode cX6_those 34 = .ok (.ifCond .eq 7, 3) := by decide +kernel
theorem dX6_those_37 : decode cX6_those 37 = .ok (.iconst 1, 1) := by decide +kernel
theorem dX6_those_38 : decode cX6_those 38 = .ok (.goto 4, 3) := by decide +kernel
theorem dX6_those_41 : decode cX6_those 41 = .ok (.iconst 0, 1) := by decide +kernel
theorem dX6_those_42 : decode cX6_those 42 = .ok (.iadd, 1) := by decide +kernel
theorem dX6_those_43 : decode cX6_those 43 = .ok (.istore_n 3, 1) := by decide +kernel
theorem dX6_those_44 : decode cX6_those 44 = .ok (.iinc 4 1, 3) := by decide +kernel
theorem dX6_those_47 : decode cX6_those 47 = .ok (.goto (-42), 3) := by decide +kernel
theorem dX6_those_50 : decode cX6_those 50 = .ok (.iload_n 3, 1) := by decide +kernel
theorem dX6_those_51 : decode cX6_those 51 = .ok (.ireturn, 1) := by decide +kernel
theorem dX6_ways_0 : decode cX6_ways 0 = .ok (.lconst 1, 1) := by decide +kernel
theorem dX6_ways_1 : decode cX6_ways 1 = .ok (.lstore_n 2, 1) := by decide +kernel
theorem dX6_ways_2 : decode cX6_ways 2 = .ok (.iconst 1, 1) := by decide +kernel
theorem dX6_ways_3 : decode cX6_ways 3 = .ok (.istore 4, 2) := by decide +kernel
theorem dX6_ways_5 : decode cX6_ways 5 = .ok (.iload 4, 2) := by decide +kernel
theorem dX6_ways_7 : decode cX6_ways 7 = .ok (.iload_n 0, 1) := by decide +kernel
theorem dX6_ways_8 : decode cX6_ways 8 = .ok (.if_icmp .gt 21, 3) := by decide +kernel
theorem dX6_ways_11 : decode cX6_ways 11 = .ok (.lload_n 2, 1) := by decide +kernel
theorem dX6_ways_12 : decode cX6_ways 12 = .ok (.iload_n 1, 1) := by decide +kernel
theorem dX6_ways_13 : decode cX6_ways 13 = .ok (.iload 4, 2) := by decide +kernel
theorem dX6_ways_15 : decode cX6_ways 15 = .ok (.iadd, 1) := by decide +kernel
theorem dX6_ways_16 : decode cX6_ways 16 = .ok (.i2l, 1) := by decide +kernel
theorem dX6_ways_17 : decode cX6_ways 17 = .ok (.lmul, 1) := by decide +kernel
theorem dX6_ways_18 : decode cX6_ways 18 = .ok (.iload 4, 2) := by decide +kernel
theorem dX6_ways_20 : decode cX6_ways 20 = .ok (.i2l, 1) := by decide +kernel
theorem dX6_ways_21 : decode cX6_ways 21 = .ok (.ldiv, 1) := by decide +kernel
theorem dX6_ways_22 : decode cX6_ways 22 = .ok (.lstore_n 2, 1) := by decide +kernel
theorem dX6_ways_23 : decode cX6_ways 23 = .ok (.iinc 4 1, 3) := by decide +kernel
theorem dX6_ways_26 : decode cX6_ways 26 = .ok (.goto (-21), 3) := by decide +kernel
theorem dX6_ways_29 : decode cX6_ways 29 = .ok (.lload_n 2, 1) := by decide +kernel
theorem dX6_ways_30 : decode cX6_ways 30 = .ok (.lreturn, 1) := by decide +kernel
theorem dX6_expected_0 : decode cX6_expected 0 = .ok (.iload_n 1, 1) := by decide +kernel
theorem dX6_expected_1 : decode cX6_expected 1 = .ok (.invokestatic 67, 3) := by decide +kernel
theorem dX6_expected_4 : decode cX6_expected 4 = .ok (.ifCond .eq 28, 3) := by decide +kernel
theorem dX6_expected_7 : decode cX6_expected 7 = .ok (.iload_n 2, 1) := by decide +kernel
theorem dX6_expected_8 : decode cX6_expected 8 = .ok (.invokestatic 67, 3) := by decide +kernel
theorem dX6_expected_11 : decode cX6_expected 11 = .ok (.ifCond .eq 21, 3) := by decide +kernel
theorem dX6_expected_14 : decode cX6_expected 14 = .ok (.aload_n 0, 1) := by decide +kernel
theorem dX6_expected_15 : decode cX6_expected 15 = .ok (.iload_n 1, 1) := by decide +kernel
theorem dX6_expected_16 : decode cX6_expected 16 = .ok (.iload_n 2, 1) := by decide +kernel
theorem dX6_expected_17 : decode cX6_expected 17 = .ok (.invokevirtual 71, 3) := by decide +kernel
theorem dX6_expected_20 : decode cX6_expected 20 = .ok (.ifCond .ne 12, 3) := by decide +kernel
theorem dX6_expected_23 : decode cX6_expected 23 = .ok (.aload_n 0, 1) := by decide +kernel
theorem dX6_expected_24 : decode cX6_expected 24 = .ok (.iload_n 2, 1) := by decide +kernel
theorem dX6_expected_25 : decode cX6_expected 25 = .ok (.iload_n 1, 1) := by decide +kernel
theorem dX6_expected_26 : decode cX6_expected 26 = .ok (.invokevirtual 71, 3) := by decide +kernel
theorem dX6_expected_29 : decode cX6_expected 29 = .ok (.ifCond .eq 7, 3) := by decide +kernel
theorem dX6_expected_32 : decode cX6_expected 32 = .ok (.ldc2_w 115, 3) := by decide +kernel
theorem dX6_expected_35 : decode cX6_expected 35 = .ok (.lreturn, 1) := by decide +kernel
theorem dX6_expected_36 : decode cX6_expected 36 = .ok (.lconst 0, 1) := by decide +kernel
theorem dX6_expected_37 : decode cX6_expected 37 = .ok (.lstore_n 3, 1) := by decide +kernel
theorem dX6_expected_38 : decode cX6_expected 38 = .ok (.iconst 0, 1) := by decide +kernel
theorem dX6_expected_39 : decode cX6_expected 39 = .ok (.istore 5, 2) := by decide +kernel
theorem dX6_expected_41 : decode cX6_expected 41 = .ok (.iload 5, 2) := by decide +kernel
theorem dX6_expected_43 : decode cX6_expected 43 = .ok (.aload_n 0, 1) := by decide +kernel
theorem dX6_expected_44 : decode cX6_expected 44 = .ok (.getfield 64, 3) := by decide +kernel
theorem dX6_expected_47 : decode cX6_expected 47 = .ok (.if_icmp .ge 69, 3) := by decide +kernel
theorem dX6_expected_50 : decode cX6_expected 50 = .ok (.aload_n 0, 1) := by decide +kernel
theorem dX6_expected_51 : decode cX6_expected 51 = .ok (.getfield 23, 3) := by decide +kernel
theorem dX6_expected_54 : decode cX6_expected 54 = .ok (.iload 5, 2) := by decide +kernel
theorem dX6_expected_56 : decode cX6_expected 56 = .ok (.baload, 1) := by decide +kernel
theorem dX6_expected_57 : decode cX6_expected 57 = .ok (.ifCond .eq 7, 3) := by decide +kernel
theorem dX6_expected_60 : decode cX6_expected 60 = .ok (.iconst 0, 1) := by decide +kernel
theorem dX6_expected_61 : decode cX6_expected 61 = .ok (.goto 10, 3) := by decide +kernel
theorem dX6_expected_64 : decode cX6_expected 64 = .ok (.aload_n 0, 1) := by decide +kernel
theorem dX6_expected_65 : decode cX6_expected 65 = .ok (.iload 5, 2) := by decide +kernel
theorem dX6_expected_67 : decode cX6_expected 67 = .ok (.iload_n 1, 1) := by decide +kernel
theorem dX6_expected_68 : decode cX6_expected 68 = .ok (.invokevirtual 138, 3) := by decide +kernel
theorem dX6_expected_71 : decode cX6_expected 71 = .ok (.istore 6, 2) := by decide +kernel
theorem dX6_expected_73 : decode cX6_expected 73 = .ok (.aload_n 0, 1) := by decide +kernel
theorem dX6_expected_74 : decode cX6_expected 74 = .ok (.iload 5, 2) := by decide +kernel
theorem dX6_expected_76 : decode cX6_expected 76 = .ok (.iload_n 2, 1) := by decide +kernel
theorem dX6_expected_77 : decode cX6_expected 77 = .ok (.invokevirtual 138, 3) := by decide +kernel
theorem dX6_expected_80 : decode cX6_expected 80 = .ok (.istore 7, 2) := by decide +kernel
theorem dX6_expected_82 : decode cX6_expected 82 = .ok (.iload 6, 2) := by decide +kernel
theorem dX6_expected_84 : decode cX6_expected 84 = .ok (.ifCond .le 26, 3) := by decide +kernel
theorem dX6_expected_87 : decode cX6_expected 87 = .ok (.iload 7, 2) := by decide +kernel
theorem dX6_expected_89 : decode cX6_expected 89 = .ok (.ifCond .le 21, 3) := by decide +kernel
theorem dX6_expected_92 : decode cX6_expected 92 = .ok (.lload_n 3, 1) := by decide +kernel
theorem dX6_expected_93 : decode cX6_expected 93 = .ok (.ldc2_w 142, 3) := by decide +kernel
theorem dX6_expected_96 : decode cX6_expected 96 = .ok (.ldc2_w 142, 3) := by decide +kernel
theorem dX6_expected_99 : decode cX6_expected 99 = .ok (.iload 6, 2) := by decide +kernel
theorem dX6_expected_101 : decode cX6_expected 101 = .ok (.iload 7, 2) := by decide +kernel
theorem dX6_expected_103 : decode cX6_expected 103 = .ok (.invokestatic 144, 3) := by decide +kernel
theorem dX6_expected_106 : decode cX6_expected 106 = .ok (.ldiv, 1) := by decide +kernel
theorem dX6_expected_107 : decode cX6_expected 107 = .ok (.lsub, 1) := by decide +kernel
theorem dX6_expected_108 : decode cX6_expected 108 = .ok (.ladd, 1) := by decide +kernel
theorem dX6_expected_109 : decode cX6_expected 109 = .ok (.lstore_n 3, 1) := by decide +kernel
theorem dX6_expected_110 : decode cX6_expected 110 = .ok (.iinc 5 1, 3) := by decide +kernel
theorem dX6_expected_113 : decode cX6_expected 113 = .ok (.goto (-72), 3) := by decide +kernel
theorem dX6_expected_116 : decode cX6_expected 116 = .ok (.lload_n 3, 1) := by decide +kernel
theorem dX6_expected_117 : decode cX6_expected 117 = .ok (.lreturn, 1) := by decide +kernel
theorem dX6_share_0 : decode cX6_share 0 = .ok (.aload_n 0, 1) := by decide +kernel
theorem dX6_share_1 : decode cX6_share 1 = .ok (.iload_n 1, 1) := by decide +kernel
theorem dX6_share_2 : decode cX6_share 2 = .ok (.iload_n 2, 1) := by decide +kernel
theorem dX6_share_3 : decode cX6_share 3 = .ok (.iload_n 3, 1) := by decide +kernel
theorem dX6_share_4 : decode cX6_share 4 = .ok (.iload 4, 2) := by decide +kernel
theorem dX6_share_6 : decode cX6_share 6 = .ok (.invokevirtual 101, 3) := by decide +kernel
theorem dX6_share_9 : decode cX6_share 9 = .ok (.ifCond .eq 11, 3) := by decide +kernel
theorem dX6_share_12 : decode cX6_share 12 = .ok (.aload_n 0, 1) := by decide +kernel
theorem dX6_share_13 : decode cX6_share 13 = .ok (.getfield 81, 3) := by decide +kernel
theorem dX6_share_16 : decode cX6_share 16 = .ok (.iconst 1, 1) := by decide +kernel
theorem dX6_share_17 : decode cX6_share 17 = .ok (.if_icmp .ne 5, 3) := by decide +kernel
theorem dX6_share_20 : decode cX6_share 20 = .ok (.iconst (-1), 1) := by decide +kernel
theorem dX6_share_21 : decode cX6_share 21 = .ok (.ireturn, 1) := by decide +kernel
theorem dX6_share_22 : decode cX6_share 22 = .ok (.aload_n 0, 1) := by decide +kernel
theorem dX6_share_23 : decode cX6_share 23 = .ok (.invokevirtual 105, 3) := by decide +kernel
theorem dX6_share_26 : decode cX6_share 26 = .ok (.aload_n 0, 1) := by decide +kernel
theorem dX6_share_27 : decode cX6_share 27 = .ok (.aload_n 0, 1) := by decide +kernel
theorem dX6_share_28 : decode cX6_share 28 = .ok (.getfield 81, 3) := by decide +kernel
theorem dX6_share_31 : decode cX6_share 31 = .ok (.iconst 1, 1) := by decide +kernel
theorem dX6_share_32 : decode cX6_share 32 = .ok (.isub, 1) := by decide +kernel
theorem dX6_share_33 : decode cX6_share 33 = .ok (.invokevirtual 108, 3) := by decide +kernel
theorem dX6_share_36 : decode cX6_share 36 = .ok (.istore 5, 2) := by decide +kernel
theorem dX6_share_38 : decode cX6_share 38 = .ok (.iload 5, 2) := by decide +kernel
theorem dX6_share_40 : decode cX6_share 40 = .ok (.ifCond .ne 7, 3) := by decide +kernel
theorem dX6_share_43 : decode cX6_share 43 = .ok (.iconst 0, 1) := by decide +kernel
theorem dX6_share_44 : decode cX6_share 44 = .ok (.goto 18, 3) := by decide +kernel
theorem dX6_share_47 : decode cX6_share 47 = .ok (.sipush 1000, 3) := by decide +kernel
theorem dX6_share_50 : decode cX6_share 50 = .ok (.aload_n 0, 1) := by decide +kernel
theorem dX6_share_51 : decode cX6_share 51 = .ok (.aload_n 0, 1) := by decide +kernel
theorem dX6_share_52 : decode cX6_share 52 = .ok (.getfield 81, 3) := by decide +kernel
theorem dX6_share_55 : decode cX6_share 55 = .ok (.invokevirtual 108, 3) := by decide +kernel
theorem dX6_share_58 : decode cX6_share 58 = .ok (.imul, 1) := by decide +kernel
theorem dX6_share_59 : decode cX6_share 59 = .ok (.iload 5, 2) := by decide +kernel
theorem dX6_share_61 : decode cX6_share 61 = .ok (.idiv, 1) := by decide +kernel
theorem dX6_share_62 : decode cX6_share 62 = .ok (.ireturn, 1) := by decide +kernel
theorem dX6_isLacking_0 : decode cX6_isLacking 0 = .ok (.aload_n 0, 1) := by decide +kernel
theorem dX6_isLacking_1 : decode cX6_isLacking 1 = .ok (.getfield 23, 3) := by decide +kernel
theorem dX6_isLacking_4 : decode cX6_isLacking 4 = .ok (.iload_n 1, 1) := by decide +kernel
theorem dX6_isLacking_5 : decode cX6_isLacking 5 = .ok (.baload, 1) := by decide +kernel
theorem dX6_isLacking_6 : decode cX6_isLacking 6 = .ok (.ifCond .ne 33, 3) := by decide +kernel
theorem dX6_isLacking_9 : decode cX6_isLacking 9 = .ok (.aload_n 0, 1) := by decide +kernel
theorem dX6_isLacking_10 : decode cX6_isLacking 10 = .ok (.iload_n 1, 1) := by decide +kernel
theorem dX6_isLacking_11 : decode cX6_isLacking 11 = .ok (.aload_n 0, 1) := by decide +kernel
theorem dX6_isLacking_12 : decode cX6_isLacking 12 = .ok (.getfield 81, 3) := by decide +kernel
theorem dX6_isLacking_15 : decode cX6_isLacking 15 = .ok (.iconst 1, 1) := by decide +kernel
theorem dX6_isLacking_16 : decode cX6_isLacking 16 = .ok (.isub, 1) := by decide +kernel
theorem dX6_isLacking_17 : decode cX6_isLacking 17 = .ok (.invokevirtual 98, 3) := by decide +kernel
theorem dX6_isLacking_20 : decode cX6_isLacking 20 = .ok (.ifCond .eq 19, 3) := by decide +kernel
theorem dX6_isLacking_23 : decode cX6_isLacking 23 = .ok (.aload_n 0, 1) := by decide +kernel
theorem dX6_isLacking_24 : decode cX6_isLacking 24 = .ok (.iload_n 1, 1) := by decide +kernel
theorem dX6_isLacking_25 : decode cX6_isLacking 25 = .ok (.aload_n 0, 1) := by decide +kernel
theorem dX6_isLacking_26 : decode cX6_isLacking 26 = .ok (.getfield 81, 3) := by decide +kernel
theorem dX6_isLacking_29 : decode cX6_isLacking 29 = .ok (.invokevirtual 98, 3) := by decide +kernel
theorem dX6_isLacking_32 : decode cX6_isLacking 32 = .ok (.ifCond .ne 7, 3) := by decide +kernel
theorem dX6_isLacking_35 : decode cX6_isLacking 35 = .ok (.iconst 1, 1) := by decide +kernel
theorem dX6_isLacking_36 : decode cX6_isLacking 36 = .ok (.goto 4, 3) := by decide +kernel
theorem dX6_isLacking_39 : decode cX6_isLacking 39 = .ok (.iconst 0, 1) := by decide +kernel
theorem dX6_isLacking_40 : decode cX6_isLacking 40 = .ok (.ireturn, 1) := by decide +kernel
theorem dX6_lacking_0 : decode cX6_lacking 0 = .ok (.aload_n 0, 1) := by decide +kernel
theorem dX6_lacking_1 : decode cX6_lacking 1 = .ok (.iload_n 1, 1) := by decide +kernel
theorem dX6_lacking_2 : decode cX6_lacking 2 = .ok (.iload_n 2, 1) := by decide +kernel
theorem dX6_lacking_3 : decode cX6_lacking 3 = .ok (.iload_n 3, 1) := by decide +kernel
theorem dX6_lacking_4 : decode cX6_lacking 4 = .ok (.iload 4, 2) := by decide +kernel
theorem dX6_lacking_6 : decode cX6_lacking 6 = .ok (.invokevirtual 101, 3) := by decide +kernel
theorem dX6_lacking_9 : decode cX6_lacking 9 = .ok (.ifCond .eq 16, 3) := by decide +kernel
theorem dX6_lacking_12 : decode cX6_lacking 12 = .ok (.aload_n 0, 1) := by decide +kernel
theorem dX6_lacking_13 : decode cX6_lacking 13 = .ok (.getfield 81, 3) := by decide +kernel
theorem dX6_lacking_16 : decode cX6_lacking 16 = .ok (.iconst 1, 1) := by decide +kernel
theorem dX6_lacking_17 : decode cX6_lacking 17 = .ok (.if_icmp .eq 8, 3) := by decide +kernel
theorem dX6_lacking_20 : decode cX6_lacking 20 = .ok (.iload 5, 2) := by decide +kernel
theorem dX6_lacking_22 : decode cX6_lacking 22 = .ok (.ifCond .ge 5, 3) := by decide +kernel
theorem dX6_lacking_25 : decode cX6_lacking 25 = .ok (.iconst (-1), 1) := by decide +kernel
theorem dX6_lacking_26 : decode cX6_lacking 26 = .ok (.ireturn, 1) := by decide +kernel
theorem dX6_lacking_27 : decode cX6_lacking 27 = .ok (.aload_n 0, 1) := by decide +kernel
theorem dX6_lacking_28 : decode cX6_lacking 28 = .ok (.invokevirtual 105, 3) := by decide +kernel
theorem dX6_lacking_31 : decode cX6_lacking 31 = .ok (.iconst 0, 1) := by decide +kernel
theorem dX6_lacking_32 : decode cX6_lacking 32 = .ok (.istore 6, 2) := by decide +kernel
theorem dX6_lacking_34 : decode cX6_lacking 34 = .ok (.iconst 0, 1) := by decide +kernel
theorem dX6_lacking_35 : decode cX6_lacking 35 = .ok (.istore 7, 2) := by decide +kernel
theorem dX6_lacking_37 : decode cX6_lacking 37 = .ok (.iload 7, 2) := by decide +kernel
theorem dX6_lacking_39 : decode cX6_lacking 39 = .ok (.aload_n 0, 1) := by decide +kernel
theorem dX6_lacking_40 : decode cX6_lacking 40 = .ok (.getfield 64, 3) := by decide +kernel
theorem dX6_lacking_43 : decode cX6_lacking 43 = .ok (.if_icmp .ge 34, 3) := by decide +kernel
theorem dX6_lacking_46 : decode cX6_lacking 46 = .ok (.aload_n 0, 1) := by decide +kernel
theorem dX6_lacking_47 : decode cX6_lacking 47 = .ok (.iload 7, 2) := by decide +kernel
theorem dX6_lacking_49 : decode cX6_lacking 49 = .ok (.invokevirtual 148, 3) := by decide +kernel
theorem dX6_lacking_52 : decode cX6_lacking 52 = .ok (.ifCond .ne 6, 3) := by decide +kernel
theorem dX6_lacking_55 : decode cX6_lacking 55 = .ok (.goto 16, 3) := by decide +kernel
theorem dX6_lacking_58 : decode cX6_lacking 58 = .ok (.iload 6, 2) := by decide +kernel
theorem dX6_lacking_60 : decode cX6_lacking 60 = .ok (.iload 5, 2) := by decide +kernel
theorem dX6_lacking_62 : decode cX6_lacking 62 = .ok (.if_icmp .ne 6, 3) := by decide +kernel
theorem dX6_lacking_65 : decode cX6_lacking 65 = .ok (.iload 7, 2) := by decide +kernel
theorem dX6_lacking_67 : decode cX6_lacking 67 = .ok (.ireturn, 1) := by decide +kernel
theorem dX6_lacking_68 : decode cX6_lacking 68 = .ok (.iinc 6 1, 3) := by decide +kernel
theorem dX6_lacking_71 : decode cX6_lacking 71 = .ok (.iinc 7 1, 3) := by decide +kernel
theorem dX6_lacking_74 : decode cX6_lacking 74 = .ok (.goto (-37), 3) := by decide +kernel
theorem dX6_lacking_77 : decode cX6_lacking 77 = .ok (.iconst (-1), 1) := by decide +kernel
theorem dX6_lacking_78 : decode cX6_lacking 78 = .ok (.ireturn, 1) := by decide +kernel
theorem dX6_sure_0 : decode cX6_sure 0 = .ok (.aload_n 0, 1) := by decide +kernel
theorem dX6_sure_1 : decode cX6_sure 1 = .ok (.iload_n 1, 1) := by decide +kernel
theorem dX6_sure_2 : decode cX6_sure 2 = .ok (.invokevirtual 75, 3) := by decide +kernel
theorem dX6_sure_5 : decode cX6_sure 5 = .ok (.ifCond .eq 24, 3) := by decide +kernel
theorem dX6_sure_8 : decode cX6_sure 8 = .ok (.aload_n 0, 1) := by decide +kernel
theorem dX6_sure_9 : decode cX6_sure 9 = .ok (.iload_n 2, 1) := by decide +kernel
theorem dX6_sure_10 : decode cX6_sure 10 = .ok (.iload_n 3, 1) := by decide +kernel
theorem dX6_sure_11 : decode cX6_sure 11 = .ok (.iload 4, 2) := by decide +kernel
theorem dX6_sure_13 : decode cX6_sure 13 = .ok (.iload 5, 2) := by decide +kernel
theorem dX6_sure_15 : decode cX6_sure 15 = .ok (.invokevirtual 101, 3) := by decide +kernel
theorem dX6_sure_18 : decode cX6_sure 18 = .ok (.ifCond .eq 11, 3) := by decide +kernel
theorem dX6_sure_21 : decode cX6_sure 21 = .ok (.aload_n 0, 1) := by decide +kernel
theorem dX6_sure_22 : decode cX6_sure 22 = .ok (.getfield 81, 3) := by decide +kernel
theorem dX6_sure_25 : decode cX6_sure 25 = .ok (.iconst 1, 1) := by decide +kernel
theorem dX6_sure_26 : decode cX6_sure 26 = .ok (.if_icmp .ne 5, 3) := by decide +kernel
theorem dX6_sure_29 : decode cX6_sure 29 = .ok (.iconst (-1), 1) := by decide +kernel
theorem dX6_sure_30 : decode cX6_sure 30 = .ok (.ireturn, 1) := by decide +kernel
theorem dX6_sure_31 : decode cX6_sure 31 = .ok (.aload_n 0, 1) := by decide +kernel
theorem dX6_sure_32 : decode cX6_sure 32 = .ok (.invokevirtual 105, 3) := by decide +kernel
theorem dX6_sure_35 : decode cX6_sure 35 = .ok (.aload_n 0, 1) := by decide +kernel
theorem dX6_sure_36 : decode cX6_sure 36 = .ok (.iload_n 1, 1) := by decide +kernel
theorem dX6_sure_37 : decode cX6_sure 37 = .ok (.invokevirtual 148, 3) := by decide +kernel
theorem dX6_sure_40 : decode cX6_sure 40 = .ok (.ifCond .ne 5, 3) := by decide +kernel
theorem dX6_sure_43 : decode cX6_sure 43 = .ok (.iconst (-1), 1) := by decide +kernel
theorem dX6_sure_44 : decode cX6_sure 44 = .ok (.ireturn, 1) := by decide +kernel
theorem dX6_sure_45 : decode cX6_sure 45 = .ok (.iconst 0, 1) := by decide +kernel
theorem dX6_sure_46 : decode cX6_sure 46 = .ok (.istore 6, 2) := by decide +kernel
theorem dX6_sure_48 : decode cX6_sure 48 = .ok (.iconst 0, 1) := by decide +kernel
theorem dX6_sure_49 : decode cX6_sure 49 = .ok (.istore 7, 2) := by decide +kernel
theorem dX6_sure_51 : decode cX6_sure 51 = .ok (.iload 7, 2) := by decide +kernel
theorem dX6_sure_53 : decode cX6_sure 53 = .ok (.aload_n 0, 1) := by decide +kernel
theorem dX6_sure_54 : decode cX6_sure 54 = .ok (.getfield 27, 3) := by decide +kernel
theorem dX6_sure_57 : decode cX6_sure 57 = .ok (.iload_n 1, 1) := by decide +kernel
theorem dX6_sure_58 : decode cX6_sure 58 = .ok (.iaload, 1) := by decide +kernel
theorem dX6_sure_59 : decode cX6_sure 59 = .ok (.if_icmp .ge 27, 3) := by decide +kernel
theorem dX6_sure_62 : decode cX6_sure 62 = .ok (.iload 6, 2) := by decide +kernel
end
section
theorem dX6_sure_64 : decode cX6_sure 64 = .ok (.aload_n 0, 1) := by decide +kernel
theorem dX6_sure_65 : decode cX6_sure 65 = .ok (.iload_n 1, 1) := by decide +kernel
theorem dX6_sure_66 : decode cX6_sure 66 = .ok (.iload 7, 2) := by decide +kernel
theorem dX6_sure_68 : decode cX6_sure 68 = .ok (.aload_n 0, 1) := by decide +kernel
theorem dX6_sure_69 : decode cX6_sure 69 = .ok (.getfield 81, 3) := by decide +kernel
theorem dX6_sure_72 : decode cX6_sure 72 = .ok (.iconst 1, 1) := by decide +kernel
theorem dX6_sure_73 : decode cX6_sure 73 = .ok (.isub, 1) := by decide +kernel
theorem dX6_sure_74 : decode cX6_sure 74 = .ok (.invokevirtual 94, 3) := by decide +kernel
theorem dX6_sure_77 : decode cX6_sure 77 = .ok (.ior, 1) := by decide +kernel
theorem dX6_sure_78 : decode cX6_sure 78 = .ok (.istore 6, 2) := by decide +kernel
theorem dX6_sure_80 : decode cX6_sure 80 = .ok (.iinc 7 1, 3) := by decide +kernel
theorem dX6_sure_83 : decode cX6_sure 83 = .ok (.goto (-32), 3) := by decide +kernel
theorem dX6_sure_86 : decode cX6_sure 86 = .ok (.iconst 0, 1) := by decide +kernel
theorem dX6_sure_87 : decode cX6_sure 87 = .ok (.istore 7, 2) := by decide +kernel
theorem dX6_sure_89 : decode cX6_sure 89 = .ok (.iconst 0, 1) := by decide +kernel
theorem dX6_sure_90 : decode cX6_sure 90 = .ok (.istore 8, 2) := by decide +kernel
theorem dX6_sure_92 : decode cX6_sure 92 = .ok (.iload 8, 2) := by decide +kernel
theorem dX6_sure_94 : decode cX6_sure 94 = .ok (.aload_n 0, 1) := by decide +kernel
theorem dX6_sure_95 : decode cX6_sure 95 = .ok (.getfield 27, 3) := by decide +kernel
theorem dX6_sure_98 : decode cX6_sure 98 = .ok (.iload_n 1, 1) := by decide +kernel
theorem dX6_sure_99 : decode cX6_sure 99 = .ok (.iaload, 1) := by decide +kernel
theorem dX6_sure_100 : decode cX6_sure 100 = .ok (.if_icmp .ge 29, 3) := by decide +kernel
theorem dX6_sure_103 : decode cX6_sure 103 = .ok (.iload 6, 2) := by decide +kernel
theorem dX6_sure_105 : decode cX6_sure 105 = .ok (.iload 8, 2) := by decide +kernel
theorem dX6_sure_107 : decode cX6_sure 107 = .ok (.ishr, 1) := by decide +kernel
theorem dX6_sure_108 : decode cX6_sure 108 = .ok (.iconst 1, 1) := by decide +kernel
theorem dX6_sure_109 : decode cX6_sure 109 = .ok (.iand, 1) := by decide +kernel
theorem dX6_sure_110 : decode cX6_sure 110 = .ok (.iconst 1, 1) := by decide +kernel
theorem dX6_sure_111 : decode cX6_sure 111 = .ok (.if_icmp .ne 8, 3) := by decide +kernel
theorem dX6_sure_114 : decode cX6_sure 114 = .ok (.iload 8, 2) := by decide +kernel
theorem dX6_sure_116 : decode cX6_sure 116 = .ok (.goto 5, 3) := by decide +kernel
theorem dX6_sure_119 : decode cX6_sure 119 = .ok (.iload 7, 2) := by decide +kernel
theorem dX6_sure_121 : decode cX6_sure 121 = .ok (.istore 7, 2) := by decide +kernel
theorem dX6_sure_123 : decode cX6_sure 123 = .ok (.iinc 8 1, 3) := by decide +kernel
theorem dX6_sure_126 : decode cX6_sure 126 = .ok (.goto (-34), 3) := by decide +kernel
theorem dX6_sure_129 : decode cX6_sure 129 = .ok (.aload_n 0, 1) := by decide +kernel
theorem dX6_sure_130 : decode cX6_sure 130 = .ok (.getfield 30, 3) := by decide +kernel
theorem dX6_sure_133 : decode cX6_sure 133 = .ok (.bipush 30, 2) := by decide +kernel
theorem dX6_sure_135 : decode cX6_sure 135 = .ok (.iload_n 1, 1) := by decide +kernel
theorem dX6_sure_136 : decode cX6_sure 136 = .ok (.imul, 1) := by decide +kernel
theorem dX6_sure_137 : decode cX6_sure 137 = .ok (.iload 7, 2) := by decide +kernel
theorem dX6_sure_139 : decode cX6_sure 139 = .ok (.iadd, 1) := by decide +kernel
theorem dX6_sure_140 : decode cX6_sure 140 = .ok (.iaload, 1) := by decide +kernel
theorem dX6_sure_141 : decode cX6_sure 141 = .ok (.aload_n 0, 1) := by decide +kernel
theorem dX6_sure_142 : decode cX6_sure 142 = .ok (.getfield 7, 3) := by decide +kernel
theorem dX6_sure_145 : decode cX6_sure 145 = .ok (.iadd, 1) := by decide +kernel
theorem dX6_sure_146 : decode cX6_sure 146 = .ok (.istore 8, 2) := by decide +kernel
theorem dX6_sure_148 : decode cX6_sure 148 = .ok (.iload 8, 2) := by decide +kernel
theorem dX6_sure_150 : decode cX6_sure 150 = .ok (.sipush 9999, 3) := by decide +kernel
theorem dX6_sure_153 : decode cX6_sure 153 = .ok (.if_icmp .ge 8, 3) := by decide +kernel
theorem dX6_sure_156 : decode cX6_sure 156 = .ok (.iload 8, 2) := by decide +kernel
theorem dX6_sure_158 : decode cX6_sure 158 = .ok (.goto 6, 3) := by decide +kernel
theorem dX6_sure_161 : decode cX6_sure 161 = .ok (.sipush 9999, 3) := by decide +kernel
theorem dX6_sure_164 : decode cX6_sure 164 = .ok (.ireturn, 1) := by decide +kernel
theorem dX6_look_0 : decode cX6_look 0 = .ok (.aload_n 0, 1) := by decide +kernel
theorem dX6_look_1 : decode cX6_look 1 = .ok (.iload_n 1, 1) := by decide +kernel
theorem dX6_look_2 : decode cX6_look 2 = .ok (.invokevirtual 75, 3) := by decide +kernel
theorem dX6_look_5 : decode cX6_look 5 = .ok (.ifCond .ne 5, 3) := by decide +kernel
theorem dX6_look_8 : decode cX6_look 8 = .ok (.iconst (-1), 1) := by decide +kernel
theorem dX6_look_9 : decode cX6_look 9 = .ok (.ireturn, 1) := by decide +kernel
theorem dX6_look_10 : decode cX6_look 10 = .ok (.iload_n 2, 1) := by decide +kernel
theorem dX6_look_11 : decode cX6_look 11 = .ok (.iconst (-1), 1) := by decide +kernel
theorem dX6_look_12 : decode cX6_look 12 = .ok (.if_icmp .ne 54, 3) := by decide +kernel
theorem dX6_look_15 : decode cX6_look 15 = .ok (.iload_n 3, 1) := by decide +kernel
theorem dX6_look_16 : decode cX6_look 16 = .ok (.ifCond .ne 12, 3) := by decide +kernel
theorem dX6_look_19 : decode cX6_look 19 = .ok (.aload_n 0, 1) := by decide +kernel
theorem dX6_look_20 : decode cX6_look 20 = .ok (.getfield 20, 3) := by decide +kernel
theorem dX6_look_23 : decode cX6_look 23 = .ok (.iload_n 1, 1) := by decide +kernel
theorem dX6_look_24 : decode cX6_look 24 = .ok (.iaload, 1) := by decide +kernel
theorem dX6_look_25 : decode cX6_look 25 = .ok (.goto 40, 3) := by decide +kernel
theorem dX6_look_28 : decode cX6_look 28 = .ok (.iload_n 3, 1) := by decide +kernel
theorem dX6_look_29 : decode cX6_look 29 = .ok (.iconst 1, 1) := by decide +kernel
theorem dX6_look_30 : decode cX6_look 30 = .ok (.if_icmp .ne 20, 3) := by decide +kernel
theorem dX6_look_33 : decode cX6_look 33 = .ok (.aload_n 0, 1) := by decide +kernel
theorem dX6_look_34 : decode cX6_look 34 = .ok (.getfield 23, 3) := by decide +kernel
theorem dX6_look_37 : decode cX6_look 37 = .ok (.iload_n 1, 1) := by decide +kernel
theorem dX6_look_38 : decode cX6_look 38 = .ok (.baload, 1) := by decide +kernel
theorem dX6_look_39 : decode cX6_look 39 = .ok (.ifCond .eq 7, 3) := by decide +kernel
theorem dX6_look_42 : decode cX6_look 42 = .ok (.iconst 0, 1) := by decide +kernel
theorem dX6_look_43 : decode cX6_look 43 = .ok (.goto 22, 3) := by decide +kernel
theorem dX6_look_46 : decode cX6_look 46 = .ok (.iconst 1, 1) := by decide +kernel
theorem dX6_look_47 : decode cX6_look 47 = .ok (.goto 18, 3) := by decide +kernel
theorem dX6_look_50 : decode cX6_look 50 = .ok (.iload_n 3, 1) := by decide +kernel
theorem dX6_look_51 : decode cX6_look 51 = .ok (.iconst 2, 1) := by decide +kernel
theorem dX6_look_52 : decode cX6_look 52 = .ok (.if_icmp .ne 12, 3) := by decide +kernel
theorem dX6_look_55 : decode cX6_look 55 = .ok (.aload_n 0, 1) := by decide +kernel
theorem dX6_look_56 : decode cX6_look 56 = .ok (.getfield 27, 3) := by decide +kernel
theorem dX6_look_59 : decode cX6_look 59 = .ok (.iload_n 1, 1) := by decide +kernel
theorem dX6_look_60 : decode cX6_look 60 = .ok (.iaload, 1) := by decide +kernel
theorem dX6_look_61 : decode cX6_look 61 = .ok (.goto 4, 3) := by decide +kernel
theorem dX6_look_64 : decode cX6_look 64 = .ok (.iconst (-1), 1) := by decide +kernel
theorem dX6_look_65 : decode cX6_look 65 = .ok (.ireturn, 1) := by decide +kernel
theorem dX6_look_66 : decode cX6_look 66 = .ok (.iload_n 2, 1) := by decide +kernel
theorem dX6_look_67 : decode cX6_look 67 = .ok (.iconst 0, 1) := by decide +kernel
theorem dX6_look_68 : decode cX6_look 68 = .ok (.aload_n 0, 1) := by decide +kernel
theorem dX6_look_69 : decode cX6_look 69 = .ok (.getfield 27, 3) := by decide +kernel
theorem dX6_look_72 : decode cX6_look 72 = .ok (.iload_n 1, 1) := by decide +kernel
theorem dX6_look_73 : decode cX6_look 73 = .ok (.iaload, 1) := by decide +kernel
theorem dX6_look_74 : decode cX6_look 74 = .ok (.iconst 1, 1) := by decide +kernel
theorem dX6_look_75 : decode cX6_look 75 = .ok (.isub, 1) := by decide +kernel
theorem dX6_look_76 : decode cX6_look 76 = .ok (.invokestatic 60, 3) := by decide +kernel
theorem dX6_look_79 : decode cX6_look 79 = .ok (.ifCond .ne 5, 3) := by decide +kernel
theorem dX6_look_82 : decode cX6_look 82 = .ok (.iconst (-1), 1) := by decide +kernel
theorem dX6_look_83 : decode cX6_look 83 = .ok (.ireturn, 1) := by decide +kernel
theorem dX6_look_84 : decode cX6_look 84 = .ok (.iload_n 3, 1) := by decide +kernel
theorem dX6_look_85 : decode cX6_look 85 = .ok (.ifCond .ne 17, 3) := by decide +kernel
theorem dX6_look_88 : decode cX6_look 88 = .ok (.aload_n 0, 1) := by decide +kernel
theorem dX6_look_89 : decode cX6_look 89 = .ok (.getfield 30, 3) := by decide +kernel
theorem dX6_look_92 : decode cX6_look 92 = .ok (.bipush 30, 2) := by decide +kernel
theorem dX6_look_94 : decode cX6_look 94 = .ok (.iload_n 1, 1) := by decide +kernel
theorem dX6_look_95 : decode cX6_look 95 = .ok (.imul, 1) := by decide +kernel
theorem dX6_look_96 : decode cX6_look 96 = .ok (.iload_n 2, 1) := by decide +kernel
theorem dX6_look_97 : decode cX6_look 97 = .ok (.iadd, 1) := by decide +kernel
theorem dX6_look_98 : decode cX6_look 98 = .ok (.iaload, 1) := by decide +kernel
theorem dX6_look_99 : decode cX6_look 99 = .ok (.goto 23, 3) := by decide +kernel
theorem dX6_look_102 : decode cX6_look 102 = .ok (.iload_n 3, 1) := by decide +kernel
theorem dX6_look_103 : decode cX6_look 103 = .ok (.iconst 1, 1) := by decide +kernel
theorem dX6_look_104 : decode cX6_look 104 = .ok (.if_icmp .ne 17, 3) := by decide +kernel
theorem dX6_look_107 : decode cX6_look 107 = .ok (.aload_n 0, 1) := by decide +kernel
theorem dX6_look_108 : decode cX6_look 108 = .ok (.getfield 33, 3) := by decide +kernel
theorem dX6_look_111 : decode cX6_look 111 = .ok (.bipush 30, 2) := by decide +kernel
theorem dX6_look_113 : decode cX6_look 113 = .ok (.iload_n 1, 1) := by decide +kernel
theorem dX6_look_114 : decode cX6_look 114 = .ok (.imul, 1) := by decide +kernel
theorem dX6_look_115 : decode cX6_look 115 = .ok (.iload_n 2, 1) := by decide +kernel
theorem dX6_look_116 : decode cX6_look 116 = .ok (.iadd, 1) := by decide +kernel
theorem dX6_look_117 : decode cX6_look 117 = .ok (.iaload, 1) := by decide +kernel
theorem dX6_look_118 : decode cX6_look 118 = .ok (.goto 4, 3) := by decide +kernel
theorem dX6_look_121 : decode cX6_look 121 = .ok (.iconst (-1), 1) := by decide +kernel
theorem dX6_look_122 : decode cX6_look 122 = .ok (.ireturn, 1) := by decide +kernel
theorem dX6_tell_0 : decode cX6_tell 0 = .ok (.iconst 0, 1) := by decide +kernel
theorem dX6_tell_1 : decode cX6_tell 1 = .ok (.istore_n 2, 1) := by decide +kernel
theorem dX6_tell_2 : decode cX6_tell 2 = .ok (.iload_n 1, 1) := by decide +kernel
theorem dX6_tell_3 : decode cX6_tell 3 = .ok (.tableswitch 97 0 5 #[37, 42, 77, 82, 87, 92], 37) := by decide +kernel
theorem dX6_tell_40 : decode cX6_tell 40 = .ok (.aload_n 0, 1) := by decide +kernel
theorem dX6_tell_41 : decode cX6_tell 41 = .ok (.getfield 64, 3) := by decide +kernel
theorem dX6_tell_44 : decode cX6_tell 44 = .ok (.ireturn, 1) := by decide +kernel
theorem dX6_tell_45 : decode cX6_tell 45 = .ok (.iconst 0, 1) := by decide +kernel
theorem dX6_tell_46 : decode cX6_tell 46 = .ok (.istore_n 3, 1) := by decide +kernel
theorem dX6_tell_47 : decode cX6_tell 47 = .ok (.iload_n 3, 1) := by decide +kernel
theorem dX6_tell_48 : decode cX6_tell 48 = .ok (.aload_n 0, 1) := by decide +kernel
theorem dX6_tell_49 : decode cX6_tell 49 = .ok (.getfield 64, 3) := by decide +kernel
theorem dX6_tell_52 : decode cX6_tell 52 = .ok (.if_icmp .ge 26, 3) := by decide +kernel
theorem dX6_tell_55 : decode cX6_tell 55 = .ok (.iload_n 2, 1) := by decide +kernel
theorem dX6_tell_56 : decode cX6_tell 56 = .ok (.aload_n 0, 1) := by decide +kernel
theorem dX6_tell_57 : decode cX6_tell 57 = .ok (.getfield 23, 3) := by decide +kernel
theorem dX6_tell_60 : decode cX6_tell 60 = .ok (.iload_n 3, 1) := by decide +kernel
theorem dX6_tell_61 : decode cX6_tell 61 = .ok (.baload, 1) := by decide +kernel
theorem dX6_tell_62 : decode cX6_tell 62 = .ok (.ifCond .eq 7, 3) := by decide +kernel
theorem dX6_tell_65 : decode cX6_tell 65 = .ok (.iconst 0, 1) := by decide +kernel
theorem dX6_tell_66 : decode cX6_tell 66 = .ok (.goto 4, 3) := by decide +kernel
theorem dX6_tell_69 : decode cX6_tell 69 = .ok (.iconst 1, 1) := by decide +kernel
theorem dX6_tell_70 : decode cX6_tell 70 = .ok (.iadd, 1) := by decide +kernel
theorem dX6_tell_71 : decode cX6_tell 71 = .ok (.istore_n 2, 1) := by decide +kernel
theorem dX6_tell_72 : decode cX6_tell 72 = .ok (.iinc 3 1, 3) := by decide +kernel
theorem dX6_tell_75 : decode cX6_tell 75 = .ok (.goto (-28), 3) := by decide +kernel
theorem dX6_tell_78 : decode cX6_tell 78 = .ok (.iload_n 2, 1) := by decide +kernel
theorem dX6_tell_79 : decode cX6_tell 79 = .ok (.ireturn, 1) := by decide +kernel
theorem dX6_tell_80 : decode cX6_tell 80 = .ok (.aload_n 0, 1) := by decide +kernel
theorem dX6_tell_81 : decode cX6_tell 81 = .ok (.getfield 7, 3) := by decide +kernel
theorem dX6_tell_84 : decode cX6_tell 84 = .ok (.ireturn, 1) := by decide +kernel
theorem dX6_tell_85 : decode cX6_tell 85 = .ok (.aload_n 0, 1) := by decide +kernel
theorem dX6_tell_86 : decode cX6_tell 86 = .ok (.getfield 13, 3) := by decide +kernel
theorem dX6_tell_89 : decode cX6_tell 89 = .ok (.ireturn, 1) := by decide +kernel
theorem dX6_tell_90 : decode cX6_tell 90 = .ok (.aload_n 0, 1) := by decide +kernel
theorem dX6_tell_91 : decode cX6_tell 91 = .ok (.getfield 121, 3) := by decide +kernel
theorem dX6_tell_94 : decode cX6_tell 94 = .ok (.ireturn, 1) := by decide +kernel
theorem dX6_tell_95 : decode cX6_tell 95 = .ok (.aload_n 0, 1) := by decide +kernel
theorem dX6_tell_96 : decode cX6_tell 96 = .ok (.getfield 78, 3) := by decide +kernel
theorem dX6_tell_99 : decode cX6_tell 99 = .ok (.ireturn, 1) := by decide +kernel
theorem dX6_tell_100 : decode cX6_tell 100 = .ok (.iconst (-1), 1) := by decide +kernel
theorem dX6_tell_101 : decode cX6_tell 101 = .ok (.ireturn, 1) := by decide +kernel
theorem dJ6_bitCount_0f7a4_0 : decode cJ6_bitCount_0f7a4 0 = .ok (.iload_n 0, 1) := by decide +kernel
theorem dJ6_bitCount_0f7a4_1 : decode cJ6_bitCount_0f7a4 1 = .ok (.iload_n 0, 1) := by decide +kernel
theorem dJ6_bitCount_0f7a4_2 : decode cJ6_bitCount_0f7a4 2 = .ok (.iconst 1, 1) := by decide +kernel
theorem dJ6_bitCount_0f7a4_3 : decode cJ6_bitCount_0f7a4 3 = .ok (.iushr, 1) := by decide +kernel
theorem dJ6_bitCount_0f7a4_4 : decode cJ6_bitCount_0f7a4 4 = .ok (.ldc_w 265, 3) := by decide +kernel
theorem dJ6_bitCount_0f7a4_7 : decode cJ6_bitCount_0f7a4 7 = .ok (.iand, 1) := by decide +kernel
theorem dJ6_bitCount_0f7a4_8 : decode cJ6_bitCount_0f7a4 8 = .ok (.isub, 1) := by decide +kernel
theorem dJ6_bitCount_0f7a4_9 : decode cJ6_bitCount_0f7a4 9 = .ok (.istore_n 0, 1) := by decide +kernel
theorem dJ6_bitCount_0f7a4_10 : decode cJ6_bitCount_0f7a4 10 = .ok (.iload_n 0, 1) := by decide +kernel
theorem dJ6_bitCount_0f7a4_11 : decode cJ6_bitCount_0f7a4 11 = .ok (.ldc_w 266, 3) := by decide +kernel
theorem dJ6_bitCount_0f7a4_14 : decode cJ6_bitCount_0f7a4 14 = .ok (.iand, 1) := by decide +kernel
theorem dJ6_bitCount_0f7a4_15 : decode cJ6_bitCount_0f7a4 15 = .ok (.iload_n 0, 1) := by decide +kernel
theorem dJ6_bitCount_0f7a4_16 : decode cJ6_bitCount_0f7a4 16 = .ok (.iconst 2, 1) := by decide +kernel
theorem dJ6_bitCount_0f7a4_17 : decode cJ6_bitCount_0f7a4 17 = .ok (.iushr, 1) := by decide +kernel
theorem dJ6_bitCount_0f7a4_18 : decode cJ6_bitCount_0f7a4 18 = .ok (.ldc_w 266, 3) := by decide +kernel
theorem dJ6_bitCount_0f7a4_21 : decode cJ6_bitCount_0f7a4 21 = .ok (.iand, 1) := by decide +kernel
theorem dJ6_bitCount_0f7a4_22 : decode cJ6_bitCount_0f7a4 22 = .ok (.iadd, 1) := by decide +kernel
theorem dJ6_bitCount_0f7a4_23 : decode cJ6_bitCount_0f7a4 23 = .ok (.istore_n 0, 1) := by decide +kernel
theorem dJ6_bitCount_0f7a4_24 : decode cJ6_bitCount_0f7a4 24 = .ok (.iload_n 0, 1) := by decide +kernel
theorem dJ6_bitCount_0f7a4_25 : decode cJ6_bitCount_0f7a4 25 = .ok (.iload_n 0, 1) := by decide +kernel
theorem dJ6_bitCount_0f7a4_26 : decode cJ6_bitCount_0f7a4 26 = .ok (.iconst 4, 1) := by decide +kernel
theorem dJ6_bitCount_0f7a4_27 : decode cJ6_bitCount_0f7a4 27 = .ok (.iushr, 1) := by decide +kernel
theorem dJ6_bitCount_0f7a4_28 : decode cJ6_bitCount_0f7a4 28 = .ok (.iadd, 1) := by decide +kernel
theorem dJ6_bitCount_0f7a4_29 : decode cJ6_bitCount_0f7a4 29 = .ok (.ldc_w 267, 3) := by decide +kernel
theorem dJ6_bitCount_0f7a4_32 : decode cJ6_bitCount_0f7a4 32 = .ok (.iand, 1) := by decide +kernel
theorem dJ6_bitCount_0f7a4_33 : decode cJ6_bitCount_0f7a4 33 = .ok (.istore_n 0, 1) := by decide +kernel
theorem dJ6_bitCount_0f7a4_34 : decode cJ6_bitCount_0f7a4 34 = .ok (.iload_n 0, 1) := by decide +kernel
theorem dJ6_bitCount_0f7a4_35 : decode cJ6_bitCount_0f7a4 35 = .ok (.iload_n 0, 1) := by decide +kernel
theorem dJ6_bitCount_0f7a4_36 : decode cJ6_bitCount_0f7a4 36 = .ok (.bipush 8, 2) := by decide +kernel
theorem dJ6_bitCount_0f7a4_38 : decode cJ6_bitCount_0f7a4 38 = .ok (.iushr, 1) := by decide +kernel
theorem dJ6_bitCount_0f7a4_39 : decode cJ6_bitCount_0f7a4 39 = .ok (.iadd, 1) := by decide +kernel
theorem dJ6_bitCount_0f7a4_40 : decode cJ6_bitCount_0f7a4 40 = .ok (.istore_n 0, 1) := by decide +kernel
theorem dJ6_bitCount_0f7a4_41 : decode cJ6_bitCount_0f7a4 41 = .ok (.iload_n 0, 1) := by decide +kernel
theorem dJ6_bitCount_0f7a4_42 : decode cJ6_bitCount_0f7a4 42 = .ok (.iload_n 0, 1) := by decide +kernel
theorem dJ6_bitCount_0f7a4_43 : decode cJ6_bitCount_0f7a4 43 = .ok (.bipush 16, 2) := by decide +kernel
theorem dJ6_bitCount_0f7a4_45 : decode cJ6_bitCount_0f7a4 45 = .ok (.iushr, 1) := by decide +kernel
theorem dJ6_bitCount_0f7a4_46 : decode cJ6_bitCount_0f7a4 46 = .ok (.iadd, 1) := by decide +kernel
theorem dJ6_bitCount_0f7a4_47 : decode cJ6_bitCount_0f7a4 47 = .ok (.istore_n 0, 1) := by decide +kernel
theorem dJ6_bitCount_0f7a4_48 : decode cJ6_bitCount_0f7a4 48 = .ok (.iload_n 0, 1) := by decide +kernel
theorem dJ6_bitCount_0f7a4_49 : decode cJ6_bitCount_0f7a4 49 = .ok (.bipush 63, 2) := by decide +kernel
theorem dJ6_bitCount_0f7a4_51 : decode cJ6_bitCount_0f7a4 51 = .ok (.iand, 1) := by decide +kernel
theorem dJ6_bitCount_0f7a4_52 : decode cJ6_bitCount_0f7a4 52 = .ok (.ireturn, 1) := by decide +kernel
theorem dJ9_abs_0f7a4_0 : decode cJ9_abs_0f7a4 0 = .ok (.iload_n 0, 1) := by decide +kernel
theorem dJ9_abs_0f7a4_1 : decode cJ9_abs_0f7a4 1 = .ok (.ifCond .ge 8, 3) := by decide +kernel
theorem dJ9_abs_0f7a4_4 : decode cJ9_abs_0f7a4 4 = .ok (.iload_n 0, 1) := by decide +kernel
theorem dJ9_abs_0f7a4_5 : decode cJ9_abs_0f7a4 5 = .ok (.ineg, 1) := by decide +kernel
theorem dJ9_abs_0f7a4_6 : decode cJ9_abs_0f7a4 6 = .ok (.goto 4, 3) := by decide +kernel
theorem dJ9_abs_0f7a4_9 : decode cJ9_abs_0f7a4 9 = .ok (.iload_n 0, 1) := by decide +kernel
theorem dJ9_abs_0f7a4_10 : decode cJ9_abs_0f7a4 10 = .ok (.ireturn, 1) := by decide +kernel
theorem dJ9_min_7cf53_0 : decode cJ9_min_7cf53 0 = .ok (.iload_n 0, 1) := by decide +kernel
theorem dJ9_min_7cf53_1 : decode cJ9_min_7cf53 1 = .ok (.iload_n 1, 1) := by decide +kernel
theorem dJ9_min_7cf53_2 : decode cJ9_min_7cf53 2 = .ok (.if_icmp .gt 7, 3) := by decide +kernel
theorem dJ9_min_7cf53_5 : decode cJ9_min_7cf53 5 = .ok (.iload_n 0, 1) := by decide +kernel
theorem dJ9_min_7cf53_6 : decode cJ9_min_7cf53 6 = .ok (.goto 4, 3) := by decide +kernel
theorem dJ9_min_7cf53_9 : decode cJ9_min_7cf53 9 = .ok (.iload_n 1, 1) := by decide +kernel
theorem dJ9_min_7cf53_10 : decode cJ9_min_7cf53 10 = .ok (.ireturn, 1) := by decide +kernel
theorem dL_law_0 : decode cL_law 0 = .ok (.new 7, 3) := by decide +kernel
theorem dL_law_3 : decode cL_law 3 = .ok (.dup, 1) := by decide +kernel
theorem dL_law_4 : decode cL_law 4 = .ok (.invokespecial 9, 3) := by decide +kernel
theorem dL_law_7 : decode cL_law 7 = .ok (.astore_n 1, 1) := by decide +kernel
theorem dL_law_8 : decode cL_law 8 = .ok (.new 10, 3) := by decide +kernel
theorem dL_law_11 : decode cL_law 11 = .ok (.dup, 1) := by decide +kernel
theorem dL_law_12 : decode cL_law 12 = .ok (.invokespecial 12, 3) := by decide +kernel
theorem dL_law_15 : decode cL_law 15 = .ok (.astore_n 2, 1) := by decide +kernel
theorem dL_law_16 : decode cL_law 16 = .ok (.iconst 0, 1) := by decide +kernel
theorem dL_law_17 : decode cL_law 17 = .ok (.istore_n 3, 1) := by decide +kernel
theorem dL_law_18 : decode cL_law 18 = .ok (.iload_n 3, 1) := by decide +kernel
theorem dL_law_19 : decode cL_law 19 = .ok (.aload_n 0, 1) := by decide +kernel
theorem dL_law_20 : decode cL_law 20 = .ok (.arraylength, 1) := by decide +kernel
theorem dL_law_21 : decode cL_law 21 = .ok (.bipush 7, 2) := by decide +kernel
theorem dL_law_23 : decode cL_law 23 = .ok (.isub, 1) := by decide +kernel
theorem dL_law_24 : decode cL_law 24 = .ok (.if_icmp .gt 910, 3) := by decide +kernel
theorem dL_law_27 : decode cL_law 27 = .ok (.aload_n 0, 1) := by decide +kernel
theorem dL_law_28 : decode cL_law 28 = .ok (.iload_n 3, 1) := by decide +kernel
theorem dL_law_29 : decode cL_law 29 = .ok (.iaload, 1) := by decide +kernel
theorem dL_law_30 : decode cL_law 30 = .ok (.bipush 31, 2) := by decide +kernel
theorem dL_law_32 : decode cL_law 32 = .ok (.iand, 1) := by decide +kernel
theorem dL_law_33 : decode cL_law 33 = .ok (.tableswitch 895 0 19 #[95, 128, 151, 194, 243, 266, 289, 342, 406, 481, 514, 547, 570, 583, 617, 670, 733, 796, 839, 872], 95) := by decide +kernel
theorem dL_law_128 : decode cL_law 128 = .ok (.aload_n 1, 1) := by decide +kernel
theorem dL_law_129 : decode cL_law 129 = .ok (.aload_n 0, 1) := by decide +kernel
theorem dL_law_130 : decode cL_law 130 = .ok (.iload_n 3, 1) := by decide +kernel
theorem dL_law_131 : decode cL_law 131 = .ok (.iconst 1, 1) := by decide +kernel
theorem dL_law_132 : decode cL_law 132 = .ok (.iadd, 1) := by decide +kernel
theorem dL_law_133 : decode cL_law 133 = .ok (.iaload, 1) := by decide +kernel
theorem dL_law_134 : decode cL_law 134 = .ok (.aload_n 0, 1) := by decide +kernel
theorem dL_law_135 : decode cL_law 135 = .ok (.iload_n 3, 1) := by decide +kernel
theorem dL_law_136 : decode cL_law 136 = .ok (.iconst 2, 1) := by decide +kernel
theorem dL_law_137 : decode cL_law 137 = .ok (.iadd, 1) := by decide +kernel
theorem dL_law_138 : decode cL_law 138 = .ok (.iaload, 1) := by decide +kernel
theorem dL_law_139 : decode cL_law 139 = .ok (.invokevirtual 13, 3) := by decide +kernel
theorem dL_law_142 : decode cL_law 142 = .ok (.aload_n 2, 1) := by decide +kernel
theorem dL_law_143 : decode cL_law 143 = .ok (.aload_n 0, 1) := by decide +kernel
theorem dL_law_144 : decode cL_law 144 = .ok (.iload_n 3, 1) := by decide +kernel
theorem dL_law_145 : decode cL_law 145 = .ok (.iconst 1, 1) := by decide +kernel
theorem dL_law_146 : decode cL_law 146 = .ok (.iadd, 1) := by decide +kernel
theorem dL_law_147 : decode cL_law 147 = .ok (.iaload, 1) := by decide +kernel
theorem dL_law_148 : decode cL_law 148 = .ok (.aload_n 0, 1) := by decide +kernel
theorem dL_law_149 : decode cL_law 149 = .ok (.iload_n 3, 1) := by decide +kernel
theorem dL_law_150 : decode cL_law 150 = .ok (.iconst 2, 1) := by decide +kernel
theorem dL_law_151 : decode cL_law 151 = .ok (.iadd, 1) := by decide +kernel
theorem dL_law_152 : decode cL_law 152 = .ok (.iaload, 1) := by decide +kernel
theorem dL_law_153 : decode cL_law 153 = .ok (.invokevirtual 17, 3) := by decide +kernel
theorem dL_law_156 : decode cL_law 156 = .ok (.if_icmp .eq 772, 3) := by decide +kernel
theorem dL_law_159 : decode cL_law 159 = .ok (.iconst 0, 1) := by decide +kernel
theorem dL_law_160 : decode cL_law 160 = .ok (.ireturn, 1) := by decide +kernel
theorem dL_law_161 : decode cL_law 161 = .ok (.aload_n 1, 1) := by decide +kernel
theorem dL_law_162 : decode cL_law 162 = .ok (.aload_n 0, 1) := by decide +kernel
theorem dL_law_163 : decode cL_law 163 = .ok (.iload_n 3, 1) := by decide +kernel
theorem dL_law_164 : decode cL_law 164 = .ok (.iconst 1, 1) := by decide +kernel
theorem dL_law_165 : decode cL_law 165 = .ok (.iadd, 1) := by decide +kernel
theorem dL_law_166 : decode cL_law 166 = .ok (.iaload, 1) := by decide +kernel
theorem dL_law_167 : decode cL_law 167 = .ok (.invokevirtual 18, 3) := by decide +kernel
theorem dL_law_170 : decode cL_law 170 = .ok (.aload_n 2, 1) := by decide +kernel
theorem dL_law_171 : decode cL_law 171 = .ok (.aload_n 0, 1) := by decide +kernel
theorem dL_law_172 : decode cL_law 172 = .ok (.iload_n 3, 1) := by decide +kernel
theorem dL_law_173 : decode cL_law 173 = .ok (.iconst 1, 1) := by decide +kernel
theorem dL_law_174 : decode cL_law 174 = .ok (.iadd, 1) := by decide +kernel
theorem dL_law_175 : decode cL_law 175 = .ok (.iaload, 1) := by decide +kernel
theorem dL_law_176 : decode cL_law 176 = .ok (.invokevirtual 22, 3) := by decide +kernel
theorem dL_law_179 : decode cL_law 179 = .ok (.if_icmp .eq 749, 3) := by decide +kernel
theorem dL_law_182 : decode cL_law 182 = .ok (.iconst 0, 1) := by decide +kernel
theorem dL_law_183 : decode cL_law 183 = .ok (.ireturn, 1) := by decide +kernel
theorem dL_law_184 : decode cL_law 184 = .ok (.aload_n 1, 1) := by decide +kernel
theorem dL_law_185 : decode cL_law 185 = .ok (.aload_n 0, 1) := by decide +kernel
theorem dL_law_186 : decode cL_law 186 = .ok (.iload_n 3, 1) := by decide +kernel
theorem dL_law_187 : decode cL_law 187 = .ok (.iconst 1, 1) := by decide +kernel
theorem dL_law_188 : decode cL_law 188 = .ok (.iadd, 1) := by decide +kernel
theorem dL_law_189 : decode cL_law 189 = .ok (.iaload, 1) := by decide +kernel
theorem dL_law_190 : decode cL_law 190 = .ok (.aload_n 0, 1) := by decide +kernel
theorem dL_law_191 : decode cL_law 191 = .ok (.iload_n 3, 1) := by decide +kernel
theorem dL_law_192 : decode cL_law 192 = .ok (.iconst 2, 1) := by decide +kernel
theorem dL_law_193 : decode cL_law 193 = .ok (.iadd, 1) := by decide +kernel
theorem dL_law_194 : decode cL_law 194 = .ok (.iaload, 1) := by decide +kernel
theorem dL_law_195 : decode cL_law 195 = .ok (.aload_n 0, 1) := by decide +kernel
theorem dL_law_196 : decode cL_law 196 = .ok (.iload_n 3, 1) := by decide +kernel
theorem dL_law_197 : decode cL_law 197 = .ok (.iconst 3, 1) := by decide +kernel
theorem dL_law_198 : decode cL_law 198 = .ok (.iadd, 1) := by decide +kernel
theorem dL_law_199 : decode cL_law 199 = .ok (.iaload, 1) := by decide +kernel
theorem dL_law_200 : decode cL_law 200 = .ok (.invokevirtual 23, 3) := by decide +kernel
theorem dL_law_203 : decode cL_law 203 = .ok (.aload_n 2, 1) := by decide +kernel
theorem dL_law_204 : decode cL_law 204 = .ok (.aload_n 0, 1) := by decide +kernel
theorem dL_law_205 : decode cL_law 205 = .ok (.iload_n 3, 1) := by decide +kernel
theorem dL_law_206 : decode cL_law 206 = .ok (.iconst 1, 1) := by decide +kernel
theorem dL_law_207 : decode cL_law 207 = .ok (.iadd, 1) := by decide +kernel
theorem dL_law_208 : decode cL_law 208 = .ok (.iaload, 1) := by decide +kernel
theorem dL_law_209 : decode cL_law 209 = .ok (.aload_n 0, 1) := by decide +kernel
theorem dL_law_210 : decode cL_law 210 = .ok (.iload_n 3, 1) := by decide +kernel
theorem dL_law_211 : decode cL_law 211 = .ok (.iconst 2, 1) := by decide +kernel
theorem dL_law_212 : decode cL_law 212 = .ok (.iadd, 1) := by decide +kernel
theorem dL_law_213 : decode cL_law 213 = .ok (.iaload, 1) := by decide +kernel
theorem dL_law_214 : decode cL_law 214 = .ok (.aload_n 0, 1) := by decide +kernel
theorem dL_law_215 : decode cL_law 215 = .ok (.iload_n 3, 1) := by decide +kernel
theorem dL_law_216 : decode cL_law 216 = .ok (.iconst 3, 1) := by decide +kernel
theorem dL_law_217 : decode cL_law 217 = .ok (.iadd, 1) := by decide +kernel
theorem dL_law_218 : decode cL_law 218 = .ok (.iaload, 1) := by decide +kernel
theorem dL_law_219 : decode cL_law 219 = .ok (.invokevirtual 27, 3) := by decide +kernel
theorem dL_law_222 : decode cL_law 222 = .ok (.if_icmp .eq 706, 3) := by decide +kernel
theorem dL_law_225 : decode cL_law 225 = .ok (.iconst 0, 1) := by decide +kernel
theorem dL_law_226 : decode cL_law 226 = .ok (.ireturn, 1) := by decide +kernel
theorem dL_law_227 : decode cL_law 227 = .ok (.aload_n 1, 1) := by decide +kernel
theorem dL_law_228 : decode cL_law 228 = .ok (.aload_n 0, 1) := by decide +kernel
theorem dL_law_229 : decode cL_law 229 = .ok (.iload_n 3, 1) := by decide +kernel
theorem dL_law_230 : decode cL_law 230 = .ok (.iconst 1, 1) := by decide +kernel
theorem dL_law_231 : decode cL_law 231 = .ok (.iadd, 1) := by decide +kernel
theorem dL_law_232 : decode cL_law 232 = .ok (.iaload, 1) := by decide +kernel
theorem dL_law_233 : decode cL_law 233 = .ok (.aload_n 0, 1) := by decide +kernel
theorem dL_law_234 : decode cL_law 234 = .ok (.iload_n 3, 1) := by decide +kernel
theorem dL_law_235 : decode cL_law 235 = .ok (.iconst 2, 1) := by decide +kernel
theorem dL_law_236 : decode cL_law 236 = .ok (.iadd, 1) := by decide +kernel
theorem dL_law_237 : decode cL_law 237 = .ok (.iaload, 1) := by decide +kernel
theorem dL_law_238 : decode cL_law 238 = .ok (.ifCond .eq 7, 3) := by decide +kernel
theorem dL_law_241 : decode cL_law 241 = .ok (.iconst 1, 1) := by decide +kernel
theorem dL_law_242 : decode cL_law 242 = .ok (.goto 4, 3) := by decide +kernel
theorem dL_law_245 : decode cL_law 245 = .ok (.iconst 0, 1) := by decide +kernel
theorem dL_law_246 : decode cL_law 246 = .ok (.invokevirtual 28, 3) := by decide +kernel
theorem dL_law_249 : decode cL_law 249 = .ok (.aload_n 2, 1) := by decide +kernel
theorem dL_law_250 : decode cL_law 250 = .ok (.aload_n 0, 1) := by decide +kernel
theorem dL_law_251 : decode cL_law 251 = .ok (.iload_n 3, 1) := by decide +kernel
theorem dL_law_252 : decode cL_law 252 = .ok (.iconst 1, 1) := by decide +kernel
theorem dL_law_253 : decode cL_law 253 = .ok (.iadd, 1) := by decide +kernel
theorem dL_law_254 : decode cL_law 254 = .ok (.iaload, 1) := by decide +kernel
theorem dL_law_255 : decode cL_law 255 = .ok (.aload_n 0, 1) := by decide +kernel
theorem dL_law_256 : decode cL_law 256 = .ok (.iload_n 3, 1) := by decide +kernel
theorem dL_law_257 : decode cL_law 257 = .ok (.iconst 2, 1) := by decide +kernel
theorem dL_law_258 : decode cL_law 258 = .ok (.iadd, 1) := by decide +kernel
theorem dL_law_259 : decode cL_law 259 = .ok (.iaload, 1) := by decide +kernel
theorem dL_law_260 : decode cL_law 260 = .ok (.ifCond .eq 7, 3) := by decide +kernel
theorem dL_law_263 : decode cL_law 263 = .ok (.iconst 1, 1) := by decide +kernel
theorem dL_law_264 : decode cL_law 264 = .ok (.goto 4, 3) := by decide +kernel
theorem dL_law_267 : decode cL_law 267 = .ok (.iconst 0, 1) := by decide +kernel
theorem dL_law_268 : decode cL_law 268 = .ok (.invokevirtual 32, 3) := by decide +kernel
theorem dL_law_271 : decode cL_law 271 = .ok (.if_icmp .eq 657, 3) := by decide +kernel
theorem dL_law_274 : decode cL_law 274 = .ok (.iconst 0, 1) := by decide +kernel
theorem dL_law_275 : decode cL_law 275 = .ok (.ireturn, 1) := by decide +kernel
theorem dL_law_276 : decode cL_law 276 = .ok (.aload_n 1, 1) := by decide +kernel
theorem dL_law_277 : decode cL_law 277 = .ok (.aload_n 0, 1) := by decide +kernel
theorem dL_law_278 : decode cL_law 278 = .ok (.iload_n 3, 1) := by decide +kernel
theorem dL_law_279 : decode cL_law 279 = .ok (.iconst 1, 1) := by decide +kernel
theorem dL_law_280 : decode cL_law 280 = .ok (.iadd, 1) := by decide +kernel
theorem dL_law_281 : decode cL_law 281 = .ok (.iaload, 1) := by decide +kernel
theorem dL_law_282 : decode cL_law 282 = .ok (.invokevirtual 33, 3) := by decide +kernel
theorem dL_law_285 : decode cL_law 285 = .ok (.aload_n 2, 1) := by decide +kernel
theorem dL_law_286 : decode cL_law 286 = .ok (.aload_n 0, 1) := by decide +kernel
theorem dL_law_287 : decode cL_law 287 = .ok (.iload_n 3, 1) := by decide +kernel
theorem dL_law_288 : decode cL_law 288 = .ok (.iconst 1, 1) := by decide +kernel
theorem dL_law_289 : decode cL_law 289 = .ok (.iadd, 1) := by decide +kernel
theorem dL_law_290 : decode cL_law 290 = .ok (.iaload, 1) := by decide +kernel
theorem dL_law_291 : decode cL_law 291 = .ok (.invokevirtual 37, 3) := by decide +kernel
theorem dL_law_294 : decode cL_law 294 = .ok (.if_icmp .eq 634, 3) := by decide +kernel
theorem dL_law_297 : decode cL_law 297 = .ok (.iconst 0, 1) := by decide +kernel
theorem dL_law_298 : decode cL_law 298 = .ok (.ireturn, 1) := by decide +kernel
theorem dL_law_299 : decode cL_law 299 = .ok (.aload_n 1, 1) := by decide +kernel
theorem dL_law_300 : decode cL_law 300 = .ok (.aload_n 0, 1) := by decide +kernel
theorem dL_law_301 : decode cL_law 301 = .ok (.iload_n 3, 1) := by decide +kernel
theorem dL_law_302 : decode cL_law 302 = .ok (.iconst 1, 1) := by decide +kernel
theorem dL_law_303 : decode cL_law 303 = .ok (.iadd, 1) := by decide +kernel
theorem dL_law_304 : decode cL_law 304 = .ok (.iaload, 1) := by decide +kernel
theorem dL_law_305 : decode cL_law 305 = .ok (.invokevirtual 38, 3) := by decide +kernel
theorem dL_law_308 : decode cL_law 308 = .ok (.aload_n 2, 1) := by decide +kernel
theorem dL_law_309 : decode cL_law 309 = .ok (.aload_n 0, 1) := by decide +kernel
theorem dL_law_310 : decode cL_law 310 = .ok (.iload_n 3, 1) := by decide +kernel
theorem dL_law_311 : decode cL_law 311 = .ok (.iconst 1, 1) := by decide +kernel
theorem dL_law_312 : decode cL_law 312 = .ok (.iadd, 1) := by decide +kernel
theorem dL_law_313 : decode cL_law 313 = .ok (.iaload, 1) := by decide +kernel
theorem dL_law_314 : decode cL_law 314 = .ok (.invokevirtual 41, 3) := by decide +kernel
theorem dL_law_317 : decode cL_law 317 = .ok (.if_icmp .eq 611, 3) := by decide +kernel
theorem dL_law_320 : decode cL_law 320 = .ok (.iconst 0, 1) := by decide +kernel
theorem dL_law_321 : decode cL_law 321 = .ok (.ireturn, 1) := by decide +kernel
theorem dL_law_322 : decode cL_law 322 = .ok (.aload_n 1, 1) := by decide +kernel
theorem dL_law_323 : decode cL_law 323 = .ok (.aload_n 0, 1) := by decide +kernel
theorem dL_law_324 : decode cL_law 324 = .ok (.iload_n 3, 1) := by decide +kernel
theorem dL_law_325 : decode cL_law 325 = .ok (.iconst 1, 1) := by decide +kernel
theorem dL_law_326 : decode cL_law 326 = .ok (.iadd, 1) := by decide +kernel
theorem dL_law_327 : decode cL_law 327 = .ok (.iaload, 1) := by decide +kernel
theorem dL_law_328 : decode cL_law 328 = .ok (.aload_n 0, 1) := by decide +kernel
theorem dL_law_329 : decode cL_law 329 = .ok (.iload_n 3, 1) := by decide +kernel
theorem dL_law_330 : decode cL_law 330 = .ok (.iconst 2, 1) := by decide +kernel
theorem dL_law_331 : decode cL_law 331 = .ok (.iadd, 1) := by decide +kernel
theorem dL_law_332 : decode cL_law 332 = .ok (.iaload, 1) := by decide +kernel
theorem dL_law_333 : decode cL_law 333 = .ok (.aload_n 0, 1) := by decide +kernel
theorem dL_law_334 : decode cL_law 334 = .ok (.iload_n 3, 1) := by decide +kernel
theorem dL_law_335 : decode cL_law 335 = .ok (.iconst 3, 1) := by decide +kernel
theorem dL_law_336 : decode cL_law 336 = .ok (.iadd, 1) := by decide +kernel
theorem dL_law_337 : decode cL_law 337 = .ok (.iaload, 1) := by decide +kernel
theorem dL_law_338 : decode cL_law 338 = .ok (.aload_n 0, 1) := by decide +kernel
theorem dL_law_339 : decode cL_law 339 = .ok (.iload_n 3, 1) := by decide +kernel
theorem dL_law_340 : decode cL_law 340 = .ok (.iconst 4, 1) := by decide +kernel
theorem dL_law_341 : decode cL_law 341 = .ok (.iadd, 1) := by decide +kernel
theorem dL_law_342 : decode cL_law 342 = .ok (.iaload, 1) := by decide +kernel
theorem dL_law_343 : decode cL_law 343 = .ok (.invokevirtual 42, 3) := by decide +kernel
theorem dL_law_346 : decode cL_law 346 = .ok (.aload_n 2, 1) := by decide +kernel
theorem dL_law_347 : decode cL_law 347 = .ok (.aload_n 0, 1) := by decide +kernel
theorem dL_law_348 : decode cL_law 348 = .ok (.iload_n 3, 1) := by decide +kernel
theorem dL_law_349 : decode cL_law 349 = .ok (.iconst 1, 1) := by decide +kernel
theorem dL_law_350 : decode cL_law 350 = .ok (.iadd, 1) := by decide +kernel
theorem dL_law_351 : decode cL_law 351 = .ok (.iaload, 1) := by decide +kernel
theorem dL_law_352 : decode cL_law 352 = .ok (.aload_n 0, 1) := by decide +kernel
theorem dL_law_353 : decode cL_law 353 = .ok (.iload_n 3, 1) := by decide +kernel
theorem dL_law_354 : decode cL_law 354 = .ok (.iconst 2, 1) := by decide +kernel
theorem dL_law_355 : decode cL_law 355 = .ok (.iadd, 1) := by decide +kernel
theorem dL_law_356 : decode cL_law 356 = .ok (.iaload, 1) := by decide +kernel
theorem dL_law_357 : decode cL_law 357 = .ok (.aload_n 0, 1) := by decide +kernel
theorem dL_law_358 : decode cL_law 358 = .ok (.iload_n 3, 1) := by decide +kernel
theorem dL_law_359 : decode cL_law 359 = .ok (.iconst 3, 1) := by decide +kernel
theorem dL_law_360 : decode cL_law 360 = .ok (.iadd, 1) := by decide +kernel
theorem dL_law_361 : decode cL_law 361 = .ok (.iaload, 1) := by decide +kernel
theorem dL_law_362 : decode cL_law 362 = .ok (.aload_n 0, 1) := by decide +kernel
theorem dL_law_363 : decode cL_law 363 = .ok (.iload_n 3, 1) := by decide +kernel
theorem dL_law_364 : decode cL_law 364 = .ok (.iconst 4, 1) := by decide +kernel
theorem dL_law_365 : decode cL_law 365 = .ok (.iadd, 1) := by decide +kernel
theorem dL_law_366 : decode cL_law 366 = .ok (.iaload, 1) := by decide +kernel
theorem dL_law_367 : decode cL_law 367 = .ok (.invokevirtual 46, 3) := by decide +kernel
theorem dL_law_370 : decode cL_law 370 = .ok (.if_icmp .eq 558, 3) := by decide +kernel
theorem dL_law_373 : decode cL_law 373 = .ok (.iconst 0, 1) := by decide +kernel
theorem dL_law_374 : decode cL_law 374 = .ok (.ireturn, 1) := by decide +kernel
theorem dL_law_375 : decode cL_law 375 = .ok (.aload_n 1, 1) := by decide +kernel
theorem dL_law_376 : decode cL_law 376 = .ok (.aload_n 0, 1) := by decide +kernel
theorem dL_law_377 : decode cL_law 377 = .ok (.iload_n 3, 1) := by decide +kernel
theorem dL_law_378 : decode cL_law 378 = .ok (.iconst 1, 1) := by decide +kernel
theorem dL_law_379 : decode cL_law 379 = .ok (.iadd, 1) := by decide +kernel
theorem dL_law_380 : decode cL_law 380 = .ok (.iaload, 1) := by decide +kernel
theorem dL_law_381 : decode cL_law 381 = .ok (.aload_n 0, 1) := by decide +kernel
theorem dL_law_382 : decode cL_law 382 = .ok (.iload_n 3, 1) := by decide +kernel
theorem dL_law_383 : decode cL_law 383 = .ok (.iconst 2, 1) := by decide +kernel
theorem dL_law_384 : decode cL_law 384 = .ok (.iadd, 1) := by decide +kernel
theorem dL_law_385 : decode cL_law 385 = .ok (.iaload, 1) := by decide +kernel
theorem dL_law_386 : decode cL_law 386 = .ok (.aload_n 0, 1) := by decide +kernel
theorem dL_law_387 : decode cL_law 387 = .ok (.iload_n 3, 1) := by decide +kernel
theorem dL_law_388 : decode cL_law 388 = .ok (.iconst 3, 1) := by decide +kernel
theorem dL_law_389 : decode cL_law 389 = .ok (.iadd, 1) := by decide +kernel
theorem dL_law_390 : decode cL_law 390 = .ok (.iaload, 1) := by decide +kernel
theorem dL_law_391 : decode cL_law 391 = .ok (.aload_n 0, 1) := by decide +kernel
theorem dL_law_392 : decode cL_law 392 = .ok (.iload_n 3, 1) := by decide +kernel
theorem dL_law_393 : decode cL_law 393 = .ok (.iconst 4, 1) := by decide +kernel
theorem dL_law_394 : decode cL_law 394 = .ok (.iadd, 1) := by decide +kernel
theorem dL_law_395 : decode cL_law 395 = .ok (.iaload, 1) := by decide +kernel
theorem dL_law_396 : decode cL_law 396 = .ok (.aload_n 0, 1) := by decide +kernel
theorem dL_law_397 : decode cL_law 397 = .ok (.iload_n 3, 1) := by decide +kernel
theorem dL_law_398 : decode cL_law 398 = .ok (.iconst 5, 1) := by decide +kernel
theorem dL_law_399 : decode cL_law 399 = .ok (.iadd, 1) := by decide +kernel
theorem dL_law_400 : decode cL_law 400 = .ok (.iaload, 1) := by decide +kernel
theorem dL_law_401 : decode cL_law 401 = .ok (.invokevirtual 47, 3) := by decide +kernel
theorem dL_law_404 : decode cL_law 404 = .ok (.aload_n 2, 1) := by decide +kernel
theorem dL_law_405 : decode cL_law 405 = .ok (.aload_n 0, 1) := by decide +kernel
theorem dL_law_406 : decode cL_law 406 = .ok (.iload_n 3, 1) := by decide +kernel
theorem dL_law_407 : decode cL_law 407 = .ok (.iconst 1, 1) := by decide +kernel
theorem dL_law_408 : decode cL_law 408 = .ok (.iadd, 1) := by decide +kernel
theorem dL_law_409 : decode cL_law 409 = .ok (.iaload, 1) := by decide +kernel
theorem dL_law_410 : decode cL_law 410 = .ok (.aload_n 0, 1) := by decide +kernel
theorem dL_law_411 : decode cL_law 411 = .ok (.iload_n 3, 1) := by decide +kernel
theorem dL_law_412 : decode cL_law 412 = .ok (.iconst 2, 1) := by decide +kernel
theorem dL_law_413 : decode cL_law 413 = .ok (.iadd, 1) := by decide +kernel
theorem dL_law_414 : decode cL_law 414 = .ok (.iaload, 1) := by decide +kernel
theorem dL_law_415 : decode cL_law 415 = .ok (.aload_n 0, 1) := by decide +kernel
theorem dL_law_416 : decode cL_law 416 = .ok (.iload_n 3, 1) := by decide +kernel
theorem dL_law_417 : decode cL_law 417 = .ok (.iconst 3, 1) := by decide +kernel
theorem dL_law_418 : decode cL_law 418 = .ok (.iadd, 1) := by decide +kernel
theorem dL_law_419 : decode cL_law 419 = .ok (.iaload, 1) := by decide +kernel
theorem dL_law_420 : decode cL_law 420 = .ok (.aload_n 0, 1) := by decide +kernel
theorem dL_law_421 : decode cL_law 421 = .ok (.iload_n 3, 1) := by decide +kernel
theorem dL_law_422 : decode cL_law 422 = .ok (.iconst 4, 1) := by decide +kernel
theorem dL_law_423 : decode cL_law 423 = .ok (.iadd, 1) := by decide +kernel
theorem dL_law_424 : decode cL_law 424 = .ok (.iaload, 1) := by decide +kernel
theorem dL_law_425 : decode cL_law 425 = .ok (.aload_n 0, 1) := by decide +kernel
theorem dL_law_426 : decode cL_law 426 = .ok (.iload_n 3, 1) := by decide +kernel
theorem dL_law_427 : decode cL_law 427 = .ok (.iconst 5, 1) := by decide +kernel
theorem dL_law_428 : decode cL_law 428 = .ok (.iadd, 1) := by decide +kernel
theorem dL_law_429 : decode cL_law 429 = .ok (.iaload, 1) := by decide +kernel
theorem dL_law_430 : decode cL_law 430 = .ok (.invokevirtual 51, 3) := by decide +kernel
theorem dL_law_433 : decode cL_law 433 = .ok (.lcmp, 1) := by decide +kernel
theorem dL_law_434 : decode cL_law 434 = .ok (.ifCond .eq 494, 3) := by decide +kernel
theorem dL_law_437 : decode cL_law 437 = .ok (.iconst 0, 1) := by decide +kernel
theorem dL_law_438 : decode cL_law 438 = .ok (.ireturn, 1) := by decide +kernel
theorem dL_law_439 : decode cL_law 439 = .ok (.aload_n 1, 1) := by decide +kernel
theorem dL_law_440 : decode cL_law 440 = .ok (.aload_n 0, 1) := by decide +kernel
theorem dL_law_441 : decode cL_law 441 = .ok (.iload_n 3, 1) := by decide +kernel
theorem dL_law_442 : decode cL_law 442 = .ok (.iconst 1, 1) := by decide +kernel
theorem dL_law_443 : decode cL_law 443 = .ok (.iadd, 1) := by decide +kernel
theorem dL_law_444 : decode cL_law 444 = .ok (.iaload, 1) := by decide +kernel
theorem dL_law_445 : decode cL_law 445 = .ok (.aload_n 0, 1) := by decide +kernel
theorem dL_law_446 : decode cL_law 446 = .ok (.iload_n 3, 1) := by decide +kernel
theorem dL_law_447 : decode cL_law 447 = .ok (.iconst 2, 1) := by decide +kernel
theorem dL_law_448 : decode cL_law 448 = .ok (.iadd, 1) := by decide +kernel
theorem dL_law_449 : decode cL_law 449 = .ok (.iaload, 1) := by decide +kernel
theorem dL_law_450 : decode cL_law 450 = .ok (.aload_n 0, 1) := by decide +kernel
theorem dL_law_451 : decode cL_law 451 = .ok (.iload_n 3, 1) := by decide +kernel
theorem dL_law_452 : decode cL_law 452 = .ok (.iconst 3, 1) := by decide +kernel
theorem dL_law_453 : decode cL_law 453 = .ok (.iadd, 1) := by decide +kernel
theorem dL_law_454 : decode cL_law 454 = .ok (.iaload, 1) := by decide +kernel
theorem dL_law_455 : decode cL_law 455 = .ok (.aload_n 0, 1) := by decide +kernel
theorem dL_law_456 : decode cL_law 456 = .ok (.iload_n 3, 1) := by decide +kernel
theorem dL_law_457 : decode cL_law 457 = .ok (.iconst 4, 1) := by decide +kernel
theorem dL_law_458 : decode cL_law 458 = .ok (.iadd, 1) := by decide +kernel
theorem dL_law_459 : decode cL_law 459 = .ok (.iaload, 1) := by decide +kernel
theorem dL_law_460 : decode cL_law 460 = .ok (.aload_n 0, 1) := by decide +kernel
theorem dL_law_461 : decode cL_law 461 = .ok (.iload_n 3, 1) := by decide +kernel
theorem dL_law_462 : decode cL_law 462 = .ok (.iconst 5, 1) := by decide +kernel
theorem dL_law_463 : decode cL_law 463 = .ok (.iadd, 1) := by decide +kernel
theorem dL_law_464 : decode cL_law 464 = .ok (.iaload, 1) := by decide +kernel
theorem dL_law_465 : decode cL_law 465 = .ok (.aload_n 0, 1) := by decide +kernel
theorem dL_law_466 : decode cL_law 466 = .ok (.iload_n 3, 1) := by decide +kernel
theorem dL_law_467 : decode cL_law 467 = .ok (.bipush 6, 2) := by decide +kernel
theorem dL_law_469 : decode cL_law 469 = .ok (.iadd, 1) := by decide +kernel
theorem dL_law_470 : decode cL_law 470 = .ok (.iaload, 1) := by decide +kernel
theorem dL_law_471 : decode cL_law 471 = .ok (.invokevirtual 52, 3) := by decide +kernel
theorem dL_law_474 : decode cL_law 474 = .ok (.aload_n 2, 1) := by decide +kernel
theorem dL_law_475 : decode cL_law 475 = .ok (.aload_n 0, 1) := by decide +kernel
theorem dL_law_476 : decode cL_law 476 = .ok (.iload_n 3, 1) := by decide +kernel
theorem dL_law_477 : decode cL_law 477 = .ok (.iconst 1, 1) := by decide +kernel
theorem dL_law_478 : decode cL_law 478 = .ok (.iadd, 1) := by decide +kernel
theorem dL_law_479 : decode cL_law 479 = .ok (.iaload, 1) := by decide +kernel
theorem dL_law_480 : decode cL_law 480 = .ok (.aload_n 0, 1) := by decide +kernel
theorem dL_law_481 : decode cL_law 481 = .ok (.iload_n 3, 1) := by decide +kernel
theorem dL_law_482 : decode cL_law 482 = .ok (.iconst 2, 1) := by decide +kernel
theorem dL_law_483 : decode cL_law 483 = .ok (.iadd, 1) := by decide +kernel
theorem dL_law_484 : decode cL_law 484 = .ok (.iaload, 1) := by decide +kernel
theorem dL_law_485 : decode cL_law 485 = .ok (.aload_n 0, 1) := by decide +kernel
theorem dL_law_486 : decode cL_law 486 = .ok (.iload_n 3, 1) := by decide +kernel
theorem dL_law_487 : decode cL_law 487 = .ok (.iconst 3, 1) := by decide +kernel
theorem dL_law_488 : decode cL_law 488 = .ok (.iadd, 1) := by decide +kernel
theorem dL_law_489 : decode cL_law 489 = .ok (.iaload, 1) := by decide +kernel
theorem dL_law_490 : decode cL_law 490 = .ok (.aload_n 0, 1) := by decide +kernel
theorem dL_law_491 : decode cL_law 491 = .ok (.iload_n 3, 1) := by decide +kernel
theorem dL_law_492 : decode cL_law 492 = .ok (.iconst 4, 1) := by decide +kernel
theorem dL_law_493 : decode cL_law 493 = .ok (.iadd, 1) := by decide +kernel
theorem dL_law_494 : decode cL_law 494 = .ok (.iaload, 1) := by decide +kernel
theorem dL_law_495 : decode cL_law 495 = .ok (.aload_n 0, 1) := by decide +kernel
theorem dL_law_496 : decode cL_law 496 = .ok (.iload_n 3, 1) := by decide +kernel
theorem dL_law_497 : decode cL_law 497 = .ok (.iconst 5, 1) := by decide +kernel
theorem dL_law_498 : decode cL_law 498 = .ok (.iadd, 1) := by decide +kernel
theorem dL_law_499 : decode cL_law 499 = .ok (.iaload, 1) := by decide +kernel
theorem dL_law_500 : decode cL_law 500 = .ok (.aload_n 0, 1) := by decide +kernel
theorem dL_law_501 : decode cL_law 501 = .ok (.iload_n 3, 1) := by decide +kernel
theorem dL_law_502 : decode cL_law 502 = .ok (.bipush 6, 2) := by decide +kernel
theorem dL_law_504 : decode cL_law 504 = .ok (.iadd, 1) := by decide +kernel
theorem dL_law_505 : decode cL_law 505 = .ok (.iaload, 1) := by decide +kernel
theorem dL_law_506 : decode cL_law 506 = .ok (.invokevirtual 56, 3) := by decide +kernel
theorem dL_law_509 : decode cL_law 509 = .ok (.if_icmp .eq 419, 3) := by decide +kernel
theorem dL_law_512 : decode cL_law 512 = .ok (.iconst 0, 1) := by decide +kernel
theorem dL_law_513 : decode cL_law 513 = .ok (.ireturn, 1) := by decide +kernel
theorem dL_law_514 : decode cL_law 514 = .ok (.aload_n 1, 1) := by decide +kernel
theorem dL_law_515 : decode cL_law 515 = .ok (.aload_n 0, 1) := by decide +kernel
theorem dL_law_516 : decode cL_law 516 = .ok (.iload_n 3, 1) := by decide +kernel
theorem dL_law_517 : decode cL_law 517 = .ok (.iconst 1, 1) := by decide +kernel
theorem dL_law_518 : decode cL_law 518 = .ok (.iadd, 1) := by decide +kernel
theorem dL_law_519 : decode cL_law 519 = .ok (.iaload, 1) := by decide +kernel
theorem dL_law_520 : decode cL_law 520 = .ok (.aload_n 0, 1) := by decide +kernel
theorem dL_law_521 : decode cL_law 521 = .ok (.iload_n 3, 1) := by decide +kernel
theorem dL_law_522 : decode cL_law 522 = .ok (.iconst 2, 1) := by decide +kernel
theorem dL_law_523 : decode cL_law 523 = .ok (.iadd, 1) := by decide +kernel
theorem dL_law_524 : decode cL_law 524 = .ok (.iaload, 1) := by decide +kernel
theorem dL_law_525 : decode cL_law 525 = .ok (.invokevirtual 57, 3) := by decide +kernel
theorem dL_law_528 : decode cL_law 528 = .ok (.aload_n 2, 1) := by decide +kernel
theorem dL_law_529 : decode cL_law 529 = .ok (.aload_n 0, 1) := by decide +kernel
theorem dL_law_530 : decode cL_law 530 = .ok (.iload_n 3, 1) := by decide +kernel
theorem dL_law_531 : decode cL_law 531 = .ok (.iconst 1, 1) := by decide +kernel
theorem dL_law_532 : decode cL_law 532 = .ok (.iadd, 1) := by decide +kernel
theorem dL_law_533 : decode cL_law 533 = .ok (.iaload, 1) := by decide +kernel
theorem dL_law_534 : decode cL_law 534 = .ok (.aload_n 0, 1) := by decide +kernel
theorem dL_law_535 : decode cL_law 535 = .ok (.iload_n 3, 1) := by decide +kernel
theorem dL_law_536 : decode cL_law 536 = .ok (.iconst 2, 1) := by decide +kernel
theorem dL_law_537 : decode cL_law 537 = .ok (.iadd, 1) := by decide +kernel
theorem dL_law_538 : decode cL_law 538 = .ok (.iaload, 1) := by decide +kernel
theorem dL_law_539 : decode cL_law 539 = .ok (.invokevirtual 61, 3) := by decide +kernel
theorem dL_law_542 : decode cL_law 542 = .ok (.if_icmp .eq 386, 3) := by decide +kernel
theorem dL_law_545 : decode cL_law 545 = .ok (.iconst 0, 1) := by decide +kernel
theorem dL_law_546 : decode cL_law 546 = .ok (.ireturn, 1) := by decide +kernel
theorem dL_law_547 : decode cL_law 547 = .ok (.aload_n 1, 1) := by decide +kernel
theorem dL_law_548 : decode cL_law 548 = .ok (.aload_n 0, 1) := by decide +kernel
theorem dL_law_549 : decode cL_law 549 = .ok (.iload_n 3, 1) := by decide +kernel
theorem dL_law_550 : decode cL_law 550 = .ok (.iconst 1, 1) := by decide +kernel
theorem dL_law_551 : decode cL_law 551 = .ok (.iadd, 1) := by decide +kernel
theorem dL_law_552 : decode cL_law 552 = .ok (.iaload, 1) := by decide +kernel
theorem dL_law_553 : decode cL_law 553 = .ok (.aload_n 0, 1) := by decide +kernel
theorem dL_law_554 : decode cL_law 554 = .ok (.iload_n 3, 1) := by decide +kernel
theorem dL_law_555 : decode cL_law 555 = .ok (.iconst 2, 1) := by decide +kernel
theorem dL_law_556 : decode cL_law 556 = .ok (.iadd, 1) := by decide +kernel
theorem dL_law_557 : decode cL_law 557 = .ok (.iaload, 1) := by decide +kernel
theorem dL_law_558 : decode cL_law 558 = .ok (.invokevirtual 62, 3) := by decide +kernel
theorem dL_law_561 : decode cL_law 561 = .ok (.aload_n 2, 1) := by decide +kernel
theorem dL_law_562 : decode cL_law 562 = .ok (.aload_n 0, 1) := by decide +kernel
theorem dL_law_563 : decode cL_law 563 = .ok (.iload_n 3, 1) := by decide +kernel
theorem dL_law_564 : decode cL_law 564 = .ok (.iconst 1, 1) := by decide +kernel
theorem dL_law_565 : decode cL_law 565 = .ok (.iadd, 1) := by decide +kernel
theorem dL_law_566 : decode cL_law 566 = .ok (.iaload, 1) := by decide +kernel
theorem dL_law_567 : decode cL_law 567 = .ok (.aload_n 0, 1) := by decide +kernel
theorem dL_law_568 : decode cL_law 568 = .ok (.iload_n 3, 1) := by decide +kernel
theorem dL_law_569 : decode cL_law 569 = .ok (.iconst 2, 1) := by decide +kernel
theorem dL_law_570 : decode cL_law 570 = .ok (.iadd, 1) := by decide +kernel
theorem dL_law_571 : decode cL_law 571 = .ok (.iaload, 1) := by decide +kernel
theorem dL_law_572 : decode cL_law 572 = .ok (.invokevirtual 65, 3) := by decide +kernel
theorem dL_law_575 : decode cL_law 575 = .ok (.if_icmp .eq 353, 3) := by decide +kernel
theorem dL_law_578 : decode cL_law 578 = .ok (.iconst 0, 1) := by decide +kernel
theorem dL_law_579 : decode cL_law 579 = .ok (.ireturn, 1) := by decide +kernel
theorem dL_law_580 : decode cL_law 580 = .ok (.aload_n 1, 1) := by decide +kernel
theorem dL_law_581 : decode cL_law 581 = .ok (.aload_n 0, 1) := by decide +kernel
theorem dL_law_582 : decode cL_law 582 = .ok (.iload_n 3, 1) := by decide +kernel
theorem dL_law_583 : decode cL_law 583 = .ok (.iconst 1, 1) := by decide +kernel
theorem dL_law_584 : decode cL_law 584 = .ok (.iadd, 1) := by decide +kernel
theorem dL_law_585 : decode cL_law 585 = .ok (.iaload, 1) := by decide +kernel
theorem dL_law_586 : decode cL_law 586 = .ok (.invokevirtual 66, 3) := by decide +kernel
theorem dL_law_589 : decode cL_law 589 = .ok (.aload_n 2, 1) := by decide +kernel
theorem dL_law_590 : decode cL_law 590 = .ok (.aload_n 0, 1) := by decide +kernel
theorem dL_law_591 : decode cL_law 591 = .ok (.iload_n 3, 1) := by decide +kernel
theorem dL_law_592 : decode cL_law 592 = .ok (.iconst 1, 1) := by decide +kernel
theorem dL_law_593 : decode cL_law 593 = .ok (.iadd, 1) := by decide +kernel
theorem dL_law_594 : decode cL_law 594 = .ok (.iaload, 1) := by decide +kernel
theorem dL_law_595 : decode cL_law 595 = .ok (.invokevirtual 69, 3) := by decide +kernel
theorem dL_law_598 : decode cL_law 598 = .ok (.if_icmp .eq 330, 3) := by decide +kernel
theorem dL_law_601 : decode cL_law 601 = .ok (.iconst 0, 1) := by decide +kernel
theorem dL_law_602 : decode cL_law 602 = .ok (.ireturn, 1) := by decide +kernel
theorem dL_law_603 : decode cL_law 603 = .ok (.aload_n 1, 1) := by decide +kernel
theorem dL_law_604 : decode cL_law 604 = .ok (.invokevirtual 70, 3) := by decide +kernel
theorem dL_law_607 : decode cL_law 607 = .ok (.aload_n 2, 1) := by decide +kernel
theorem dL_law_608 : decode cL_law 608 = .ok (.invokevirtual 74, 3) := by decide +kernel
theorem dL_law_611 : decode cL_law 611 = .ok (.if_icmp .eq 317, 3) := by decide +kernel
theorem dL_law_614 : decode cL_law 614 = .ok (.iconst 0, 1) := by decide +kernel
theorem dL_law_615 : decode cL_law 615 = .ok (.ireturn, 1) := by decide +kernel
theorem dL_law_616 : decode cL_law 616 = .ok (.aload_n 1, 1) := by decide +kernel
theorem dL_law_617 : decode cL_law 617 = .ok (.aload_n 0, 1) := by decide +kernel
theorem dL_law_618 : decode cL_law 618 = .ok (.iload_n 3, 1) := by decide +kernel
theorem dL_law_619 : decode cL_law 619 = .ok (.iconst 1, 1) := by decide +kernel
theorem dL_law_620 : decode cL_law 620 = .ok (.iadd, 1) := by decide +kernel
theorem dL_law_621 : decode cL_law 621 = .ok (.iaload, 1) := by decide +kernel
theorem dL_law_622 : decode cL_law 622 = .ok (.aload_n 0, 1) := by decide +kernel
theorem dL_law_623 : decode cL_law 623 = .ok (.iload_n 3, 1) := by decide +kernel
theorem dL_law_624 : decode cL_law 624 = .ok (.iconst 2, 1) := by decide +kernel
theorem dL_law_625 : decode cL_law 625 = .ok (.iadd, 1) := by decide +kernel
theorem dL_law_626 : decode cL_law 626 = .ok (.iaload, 1) := by decide +kernel
theorem dL_law_627 : decode cL_law 627 = .ok (.invokevirtual 75, 3) := by decide +kernel
theorem dL_law_630 : decode cL_law 630 = .ok (.aload_n 2, 1) := by decide +kernel
theorem dL_law_631 : decode cL_law 631 = .ok (.aload_n 0, 1) := by decide +kernel
theorem dL_law_632 : decode cL_law 632 = .ok (.iload_n 3, 1) := by decide +kernel
theorem dL_law_633 : decode cL_law 633 = .ok (.iconst 1, 1) := by decide +kernel
theorem dL_law_634 : decode cL_law 634 = .ok (.iadd, 1) := by decide +kernel
theorem dL_law_635 : decode cL_law 635 = .ok (.iaload, 1) := by decide +kernel
theorem dL_law_636 : decode cL_law 636 = .ok (.aload_n 0, 1) := by decide +kernel
theorem dL_law_637 : decode cL_law 637 = .ok (.iload_n 3, 1) := by decide +kernel
theorem dL_law_638 : decode cL_law 638 = .ok (.iconst 2, 1) := by decide +kernel
theorem dL_law_639 : decode cL_law 639 = .ok (.iadd, 1) := by decide +kernel
theorem dL_law_640 : decode cL_law 640 = .ok (.iaload, 1) := by decide +kernel
theorem dL_law_641 : decode cL_law 641 = .ok (.invokevirtual 79, 3) := by decide +kernel
theorem dL_law_644 : decode cL_law 644 = .ok (.lcmp, 1) := by decide +kernel
theorem dL_law_645 : decode cL_law 645 = .ok (.ifCond .eq 283, 3) := by decide +kernel
theorem dL_law_648 : decode cL_law 648 = .ok (.iconst 0, 1) := by decide +kernel
theorem dL_law_649 : decode cL_law 649 = .ok (.ireturn, 1) := by decide +kernel
theorem dL_law_650 : decode cL_law 650 = .ok (.aload_n 1, 1) := by decide +kernel
theorem dL_law_651 : decode cL_law 651 = .ok (.aload_n 0, 1) := by decide +kernel
theorem dL_law_652 : decode cL_law 652 = .ok (.iload_n 3, 1) := by decide +kernel
theorem dL_law_653 : decode cL_law 653 = .ok (.iconst 1, 1) := by decide +kernel
theorem dL_law_654 : decode cL_law 654 = .ok (.iadd, 1) := by decide +kernel
theorem dL_law_655 : decode cL_law 655 = .ok (.iaload, 1) := by decide +kernel
theorem dL_law_656 : decode cL_law 656 = .ok (.aload_n 0, 1) := by decide +kernel
theorem dL_law_657 : decode cL_law 657 = .ok (.iload_n 3, 1) := by decide +kernel
theorem dL_law_658 : decode cL_law 658 = .ok (.iconst 2, 1) := by decide +kernel
theorem dL_law_659 : decode cL_law 659 = .ok (.iadd, 1) := by decide +kernel
theorem dL_law_660 : decode cL_law 660 = .ok (.iaload, 1) := by decide +kernel
theorem dL_law_661 : decode cL_law 661 = .ok (.aload_n 0, 1) := by decide +kernel
theorem dL_law_662 : decode cL_law 662 = .ok (.iload_n 3, 1) := by decide +kernel
theorem dL_law_663 : decode cL_law 663 = .ok (.iconst 3, 1) := by decide +kernel
theorem dL_law_664 : decode cL_law 664 = .ok (.iadd, 1) := by decide +kernel
theorem dL_law_665 : decode cL_law 665 = .ok (.iaload, 1) := by decide +kernel
theorem dL_law_666 : decode cL_law 666 = .ok (.aload_n 0, 1) := by decide +kernel
theorem dL_law_667 : decode cL_law 667 = .ok (.iload_n 3, 1) := by decide +kernel
theorem dL_law_668 : decode cL_law 668 = .ok (.iconst 4, 1) := by decide +kernel
theorem dL_law_669 : decode cL_law 669 = .ok (.iadd, 1) := by decide +kernel
theorem dL_law_670 : decode cL_law 670 = .ok (.iaload, 1) := by decide +kernel
theorem dL_law_671 : decode cL_law 671 = .ok (.invokevirtual 80, 3) := by decide +kernel
theorem dL_law_674 : decode cL_law 674 = .ok (.aload_n 2, 1) := by decide +kernel
theorem dL_law_675 : decode cL_law 675 = .ok (.aload_n 0, 1) := by decide +kernel
theorem dL_law_676 : decode cL_law 676 = .ok (.iload_n 3, 1) := by decide +kernel
theorem dL_law_677 : decode cL_law 677 = .ok (.iconst 1, 1) := by decide +kernel
theorem dL_law_678 : decode cL_law 678 = .ok (.iadd, 1) := by decide +kernel
theorem dL_law_679 : decode cL_law 679 = .ok (.iaload, 1) := by decide +kernel
theorem dL_law_680 : decode cL_law 680 = .ok (.aload_n 0, 1) := by decide +kernel
theorem dL_law_681 : decode cL_law 681 = .ok (.iload_n 3, 1) := by decide +kernel
theorem dL_law_682 : decode cL_law 682 = .ok (.iconst 2, 1) := by decide +kernel
theorem dL_law_683 : decode cL_law 683 = .ok (.iadd, 1) := by decide +kernel
theorem dL_law_684 : decode cL_law 684 = .ok (.iaload, 1) := by decide +kernel
theorem dL_law_685 : decode cL_law 685 = .ok (.aload_n 0, 1) := by decide +kernel
theorem dL_law_686 : decode cL_law 686 = .ok (.iload_n 3, 1) := by decide +kernel
theorem dL_law_687 : decode cL_law 687 = .ok (.iconst 3, 1) := by decide +kernel
theorem dL_law_688 : decode cL_law 688 = .ok (.iadd, 1) := by decide +kernel
theorem dL_law_689 : decode cL_law 689 = .ok (.iaload, 1) := by decide +kernel
theorem dL_law_690 : decode cL_law 690 = .ok (.aload_n 0, 1) := by decide +kernel
theorem dL_law_691 : decode cL_law 691 = .ok (.iload_n 3, 1) := by decide +kernel
theorem dL_law_692 : decode cL_law 692 = .ok (.iconst 4, 1) := by decide +kernel
theorem dL_law_693 : decode cL_law 693 = .ok (.iadd, 1) := by decide +kernel
theorem dL_law_694 : decode cL_law 694 = .ok (.iaload, 1) := by decide +kernel
theorem dL_law_695 : decode cL_law 695 = .ok (.invokevirtual 83, 3) := by decide +kernel
theorem dL_law_698 : decode cL_law 698 = .ok (.if_icmp .eq 230, 3) := by decide +kernel
theorem dL_law_701 : decode cL_law 701 = .ok (.iconst 0, 1) := by decide +kernel
theorem dL_law_702 : decode cL_law 702 = .ok (.ireturn, 1) := by decide +kernel
theorem dL_law_703 : decode cL_law 703 = .ok (.aload_n 1, 1) := by decide +kernel
theorem dL_law_704 : decode cL_law 704 = .ok (.aload_n 0, 1) := by decide +kernel
theorem dL_law_705 : decode cL_law 705 = .ok (.iload_n 3, 1) := by decide +kernel
theorem dL_law_706 : decode cL_law 706 = .ok (.iconst 1, 1) := by decide +kernel
theorem dL_law_707 : decode cL_law 707 = .ok (.iadd, 1) := by decide +kernel
theorem dL_law_708 : decode cL_law 708 = .ok (.iaload, 1) := by decide +kernel
theorem dL_law_709 : decode cL_law 709 = .ok (.aload_n 0, 1) := by decide +kernel
theorem dL_law_710 : decode cL_law 710 = .ok (.iload_n 3, 1) := by decide +kernel
theorem dL_law_711 : decode cL_law 711 = .ok (.iconst 2, 1) := by decide +kernel
theorem dL_law_712 : decode cL_law 712 = .ok (.iadd, 1) := by decide +kernel
theorem dL_law_713 : decode cL_law 713 = .ok (.iaload, 1) := by decide +kernel
theorem dL_law_714 : decode cL_law 714 = .ok (.aload_n 0, 1) := by decide +kernel
theorem dL_law_715 : decode cL_law 715 = .ok (.iload_n 3, 1) := by decide +kernel
theorem dL_law_716 : decode cL_law 716 = .ok (.iconst 3, 1) := by decide +kernel
theorem dL_law_717 : decode cL_law 717 = .ok (.iadd, 1) := by decide +kernel
theorem dL_law_718 : decode cL_law 718 = .ok (.iaload, 1) := by decide +kernel
theorem dL_law_719 : decode cL_law 719 = .ok (.aload_n 0, 1) := by decide +kernel
theorem dL_law_720 : decode cL_law 720 = .ok (.iload_n 3, 1) := by decide +kernel
theorem dL_law_721 : decode cL_law 721 = .ok (.iconst 4, 1) := by decide +kernel
theorem dL_law_722 : decode cL_law 722 = .ok (.iadd, 1) := by decide +kernel
theorem dL_law_723 : decode cL_law 723 = .ok (.iaload, 1) := by decide +kernel
theorem dL_law_724 : decode cL_law 724 = .ok (.aload_n 0, 1) := by decide +kernel
theorem dL_law_725 : decode cL_law 725 = .ok (.iload_n 3, 1) := by decide +kernel
theorem dL_law_726 : decode cL_law 726 = .ok (.iconst 5, 1) := by decide +kernel
theorem dL_law_727 : decode cL_law 727 = .ok (.iadd, 1) := by decide +kernel
theorem dL_law_728 : decode cL_law 728 = .ok (.iaload, 1) := by decide +kernel
theorem dL_law_729 : decode cL_law 729 = .ok (.invokevirtual 84, 3) := by decide +kernel
theorem dL_law_732 : decode cL_law 732 = .ok (.aload_n 2, 1) := by decide +kernel
theorem dL_law_733 : decode cL_law 733 = .ok (.aload_n 0, 1) := by decide +kernel
theorem dL_law_734 : decode cL_law 734 = .ok (.iload_n 3, 1) := by decide +kernel
theorem dL_law_735 : decode cL_law 735 = .ok (.iconst 1, 1) := by decide +kernel
theorem dL_law_736 : decode cL_law 736 = .ok (.iadd, 1) := by decide +kernel
theorem dL_law_737 : decode cL_law 737 = .ok (.iaload, 1) := by decide +kernel
theorem dL_law_738 : decode cL_law 738 = .ok (.aload_n 0, 1) := by decide +kernel
theorem dL_law_739 : decode cL_law 739 = .ok (.iload_n 3, 1) := by decide +kernel
theorem dL_law_740 : decode cL_law 740 = .ok (.iconst 2, 1) := by decide +kernel
theorem dL_law_741 : decode cL_law 741 = .ok (.iadd, 1) := by decide +kernel
theorem dL_law_742 : decode cL_law 742 = .ok (.iaload, 1) := by decide +kernel
theorem dL_law_743 : decode cL_law 743 = .ok (.aload_n 0, 1) := by decide +kernel
theorem dL_law_744 : decode cL_law 744 = .ok (.iload_n 3, 1) := by decide +kernel
theorem dL_law_745 : decode cL_law 745 = .ok (.iconst 3, 1) := by decide +kernel
theorem dL_law_746 : decode cL_law 746 = .ok (.iadd, 1) := by decide +kernel
theorem dL_law_747 : decode cL_law 747 = .ok (.iaload, 1) := by decide +kernel
theorem dL_law_748 : decode cL_law 748 = .ok (.aload_n 0, 1) := by decide +kernel
theorem dL_law_749 : decode cL_law 749 = .ok (.iload_n 3, 1) := by decide +kernel
theorem dL_law_750 : decode cL_law 750 = .ok (.iconst 4, 1) := by decide +kernel
theorem dL_law_751 : decode cL_law 751 = .ok (.iadd, 1) := by decide +kernel
theorem dL_law_752 : decode cL_law 752 = .ok (.iaload, 1) := by decide +kernel
theorem dL_law_753 : decode cL_law 753 = .ok (.aload_n 0, 1) := by decide +kernel
theorem dL_law_754 : decode cL_law 754 = .ok (.iload_n 3, 1) := by decide +kernel
theorem dL_law_755 : decode cL_law 755 = .ok (.iconst 5, 1) := by decide +kernel
theorem dL_law_756 : decode cL_law 756 = .ok (.iadd, 1) := by decide +kernel
theorem dL_law_757 : decode cL_law 757 = .ok (.iaload, 1) := by decide +kernel
theorem dL_law_758 : decode cL_law 758 = .ok (.invokevirtual 88, 3) := by decide +kernel
theorem dL_law_761 : decode cL_law 761 = .ok (.if_icmp .eq 167, 3) := by decide +kernel
theorem dL_law_764 : decode cL_law 764 = .ok (.iconst 0, 1) := by decide +kernel
theorem dL_law_765 : decode cL_law 765 = .ok (.ireturn, 1) := by decide +kernel
theorem dL_law_766 : decode cL_law 766 = .ok (.aload_n 1, 1) := by decide +kernel
theorem dL_law_767 : decode cL_law 767 = .ok (.aload_n 0, 1) := by decide +kernel
theorem dL_law_768 : decode cL_law 768 = .ok (.iload_n 3, 1) := by decide +kernel
theorem dL_law_769 : decode cL_law 769 = .ok (.iconst 1, 1) := by decide +kernel
theorem dL_law_770 : decode cL_law 770 = .ok (.iadd, 1) := by decide +kernel
theorem dL_law_771 : decode cL_law 771 = .ok (.iaload, 1) := by decide +kernel
theorem dL_law_772 : decode cL_law 772 = .ok (.aload_n 0, 1) := by decide +kernel
theorem dL_law_773 : decode cL_law 773 = .ok (.iload_n 3, 1) := by decide +kernel
theorem dL_law_774 : decode cL_law 774 = .ok (.iconst 2, 1) := by decide +kernel
theorem dL_law_775 : decode cL_law 775 = .ok (.iadd, 1) := by decide +kernel
theorem dL_law_776 : decode cL_law 776 = .ok (.iaload, 1) := by decide +kernel
theorem dL_law_777 : decode cL_law 777 = .ok (.aload_n 0, 1) := by decide +kernel
theorem dL_law_778 : decode cL_law 778 = .ok (.iload_n 3, 1) := by decide +kernel
theorem dL_law_779 : decode cL_law 779 = .ok (.iconst 3, 1) := by decide +kernel
theorem dL_law_780 : decode cL_law 780 = .ok (.iadd, 1) := by decide +kernel
theorem dL_law_781 : decode cL_law 781 = .ok (.iaload, 1) := by decide +kernel
theorem dL_law_782 : decode cL_law 782 = .ok (.aload_n 0, 1) := by decide +kernel
theorem dL_law_783 : decode cL_law 783 = .ok (.iload_n 3, 1) := by decide +kernel
theorem dL_law_784 : decode cL_law 784 = .ok (.iconst 4, 1) := by decide +kernel
theorem dL_law_785 : decode cL_law 785 = .ok (.iadd, 1) := by decide +kernel
theorem dL_law_786 : decode cL_law 786 = .ok (.iaload, 1) := by decide +kernel
theorem dL_law_787 : decode cL_law 787 = .ok (.aload_n 0, 1) := by decide +kernel
theorem dL_law_788 : decode cL_law 788 = .ok (.iload_n 3, 1) := by decide +kernel
theorem dL_law_789 : decode cL_law 789 = .ok (.iconst 5, 1) := by decide +kernel
theorem dL_law_790 : decode cL_law 790 = .ok (.iadd, 1) := by decide +kernel
theorem dL_law_791 : decode cL_law 791 = .ok (.iaload, 1) := by decide +kernel
theorem dL_law_792 : decode cL_law 792 = .ok (.invokevirtual 89, 3) := by decide +kernel
theorem dL_law_795 : decode cL_law 795 = .ok (.aload_n 2, 1) := by decide +kernel
theorem dL_law_796 : decode cL_law 796 = .ok (.aload_n 0, 1) := by decide +kernel
theorem dL_law_797 : decode cL_law 797 = .ok (.iload_n 3, 1) := by decide +kernel
theorem dL_law_798 : decode cL_law 798 = .ok (.iconst 1, 1) := by decide +kernel
theorem dL_law_799 : decode cL_law 799 = .ok (.iadd, 1) := by decide +kernel
theorem dL_law_800 : decode cL_law 800 = .ok (.iaload, 1) := by decide +kernel
theorem dL_law_801 : decode cL_law 801 = .ok (.aload_n 0, 1) := by decide +kernel
theorem dL_law_802 : decode cL_law 802 = .ok (.iload_n 3, 1) := by decide +kernel
theorem dL_law_803 : decode cL_law 803 = .ok (.iconst 2, 1) := by decide +kernel
theorem dL_law_804 : decode cL_law 804 = .ok (.iadd, 1) := by decide +kernel
theorem dL_law_805 : decode cL_law 805 = .ok (.iaload, 1) := by decide +kernel
theorem dL_law_806 : decode cL_law 806 = .ok (.aload_n 0, 1) := by decide +kernel
theorem dL_law_807 : decode cL_law 807 = .ok (.iload_n 3, 1) := by decide +kernel
theorem dL_law_808 : decode cL_law 808 = .ok (.iconst 3, 1) := by decide +kernel
theorem dL_law_809 : decode cL_law 809 = .ok (.iadd, 1) := by decide +kernel
theorem dL_law_810 : decode cL_law 810 = .ok (.iaload, 1) := by decide +kernel
theorem dL_law_811 : decode cL_law 811 = .ok (.aload_n 0, 1) := by decide +kernel
theorem dL_law_812 : decode cL_law 812 = .ok (.iload_n 3, 1) := by decide +kernel
theorem dL_law_813 : decode cL_law 813 = .ok (.iconst 4, 1) := by decide +kernel
theorem dL_law_814 : decode cL_law 814 = .ok (.iadd, 1) := by decide +kernel
theorem dL_law_815 : decode cL_law 815 = .ok (.iaload, 1) := by decide +kernel
theorem dL_law_816 : decode cL_law 816 = .ok (.aload_n 0, 1) := by decide +kernel
theorem dL_law_817 : decode cL_law 817 = .ok (.iload_n 3, 1) := by decide +kernel
theorem dL_law_818 : decode cL_law 818 = .ok (.iconst 5, 1) := by decide +kernel
theorem dL_law_819 : decode cL_law 819 = .ok (.iadd, 1) := by decide +kernel
theorem dL_law_820 : decode cL_law 820 = .ok (.iaload, 1) := by decide +kernel
theorem dL_law_821 : decode cL_law 821 = .ok (.invokevirtual 92, 3) := by decide +kernel
theorem dL_law_824 : decode cL_law 824 = .ok (.if_icmp .eq 104, 3) := by decide +kernel
theorem dL_law_827 : decode cL_law 827 = .ok (.iconst 0, 1) := by decide +kernel
theorem dL_law_828 : decode cL_law 828 = .ok (.ireturn, 1) := by decide +kernel
theorem dL_law_829 : decode cL_law 829 = .ok (.aload_n 1, 1) := by decide +kernel
theorem dL_law_830 : decode cL_law 830 = .ok (.aload_n 0, 1) := by decide +kernel
theorem dL_law_831 : decode cL_law 831 = .ok (.iload_n 3, 1) := by decide +kernel
theorem dL_law_832 : decode cL_law 832 = .ok (.iconst 1, 1) := by decide +kernel
theorem dL_law_833 : decode cL_law 833 = .ok (.iadd, 1) := by decide +kernel
theorem dL_law_834 : decode cL_law 834 = .ok (.iaload, 1) := by decide +kernel
theorem dL_law_835 : decode cL_law 835 = .ok (.aload_n 0, 1) := by decide +kernel
theorem dL_law_836 : decode cL_law 836 = .ok (.iload_n 3, 1) := by decide +kernel
theorem dL_law_837 : decode cL_law 837 = .ok (.iconst 2, 1) := by decide +kernel
theorem dL_law_838 : decode cL_law 838 = .ok (.iadd, 1) := by decide +kernel
theorem dL_law_839 : decode cL_law 839 = .ok (.iaload, 1) := by decide +kernel
theorem dL_law_840 : decode cL_law 840 = .ok (.aload_n 0, 1) := by decide +kernel
theorem dL_law_841 : decode cL_law 841 = .ok (.iload_n 3, 1) := by decide +kernel
theorem dL_law_842 : decode cL_law 842 = .ok (.iconst 3, 1) := by decide +kernel
theorem dL_law_843 : decode cL_law 843 = .ok (.iadd, 1) := by decide +kernel
theorem dL_law_844 : decode cL_law 844 = .ok (.iaload, 1) := by decide +kernel
theorem dL_law_845 : decode cL_law 845 = .ok (.invokevirtual 93, 3) := by decide +kernel
theorem dL_law_848 : decode cL_law 848 = .ok (.aload_n 2, 1) := by decide +kernel
theorem dL_law_849 : decode cL_law 849 = .ok (.aload_n 0, 1) := by decide +kernel
theorem dL_law_850 : decode cL_law 850 = .ok (.iload_n 3, 1) := by decide +kernel
theorem dL_law_851 : decode cL_law 851 = .ok (.iconst 1, 1) := by decide +kernel
theorem dL_law_852 : decode cL_law 852 = .ok (.iadd, 1) := by decide +kernel
theorem dL_law_853 : decode cL_law 853 = .ok (.iaload, 1) := by decide +kernel
theorem dL_law_854 : decode cL_law 854 = .ok (.aload_n 0, 1) := by decide +kernel
theorem dL_law_855 : decode cL_law 855 = .ok (.iload_n 3, 1) := by decide +kernel
theorem dL_law_856 : decode cL_law 856 = .ok (.iconst 2, 1) := by decide +kernel
theorem dL_law_857 : decode cL_law 857 = .ok (.iadd, 1) := by decide +kernel
theorem dL_law_858 : decode cL_law 858 = .ok (.iaload, 1) := by decide +kernel
theorem dL_law_859 : decode cL_law 859 = .ok (.aload_n 0, 1) := by decide +kernel
theorem dL_law_860 : decode cL_law 860 = .ok (.iload_n 3, 1) := by decide +kernel
theorem dL_law_861 : decode cL_law 861 = .ok (.iconst 3, 1) := by decide +kernel
theorem dL_law_862 : decode cL_law 862 = .ok (.iadd, 1) := by decide +kernel
theorem dL_law_863 : decode cL_law 863 = .ok (.iaload, 1) := by decide +kernel
theorem dL_law_864 : decode cL_law 864 = .ok (.invokevirtual 96, 3) := by decide +kernel
theorem dL_law_867 : decode cL_law 867 = .ok (.if_icmp .eq 61, 3) := by decide +kernel
theorem dL_law_870 : decode cL_law 870 = .ok (.iconst 0, 1) := by decide +kernel
theorem dL_law_871 : decode cL_law 871 = .ok (.ireturn, 1) := by decide +kernel
theorem dL_law_872 : decode cL_law 872 = .ok (.aload_n 1, 1) := by decide +kernel
theorem dL_law_873 : decode cL_law 873 = .ok (.aload_n 0, 1) := by decide +kernel
theorem dL_law_874 : decode cL_law 874 = .ok (.iload_n 3, 1) := by decide +kernel
theorem dL_law_875 : decode cL_law 875 = .ok (.iconst 1, 1) := by decide +kernel
theorem dL_law_876 : decode cL_law 876 = .ok (.iadd, 1) := by decide +kernel
theorem dL_law_877 : decode cL_law 877 = .ok (.iaload, 1) := by decide +kernel
theorem dL_law_878 : decode cL_law 878 = .ok (.aload_n 0, 1) := by decide +kernel
theorem dL_law_879 : decode cL_law 879 = .ok (.iload_n 3, 1) := by decide +kernel
theorem dL_law_880 : decode cL_law 880 = .ok (.iconst 2, 1) := by decide +kernel
theorem dL_law_881 : decode cL_law 881 = .ok (.iadd, 1) := by decide +kernel
theorem dL_law_882 : decode cL_law 882 = .ok (.iaload, 1) := by decide +kernel
theorem dL_law_883 : decode cL_law 883 = .ok (.invokevirtual 97, 3) := by decide +kernel
theorem dL_law_886 : decode cL_law 886 = .ok (.aload_n 2, 1) := by decide +kernel
theorem dL_law_887 : decode cL_law 887 = .ok (.aload_n 0, 1) := by decide +kernel
theorem dL_law_888 : decode cL_law 888 = .ok (.iload_n 3, 1) := by decide +kernel
theorem dL_law_889 : decode cL_law 889 = .ok (.iconst 1, 1) := by decide +kernel
theorem dL_law_890 : decode cL_law 890 = .ok (.iadd, 1) := by decide +kernel
theorem dL_law_891 : decode cL_law 891 = .ok (.iaload, 1) := by decide +kernel
theorem dL_law_892 : decode cL_law 892 = .ok (.aload_n 0, 1) := by decide +kernel
theorem dL_law_893 : decode cL_law 893 = .ok (.iload_n 3, 1) := by decide +kernel
theorem dL_law_894 : decode cL_law 894 = .ok (.iconst 2, 1) := by decide +kernel
theorem dL_law_895 : decode cL_law 895 = .ok (.iadd, 1) := by decide +kernel
theorem dL_law_896 : decode cL_law 896 = .ok (.iaload, 1) := by decide +kernel
theorem dL_law_897 : decode cL_law 897 = .ok (.invokevirtual 100, 3) := by decide +kernel
theorem dL_law_900 : decode cL_law 900 = .ok (.if_icmp .eq 28, 3) := by decide +kernel
end
section
theorem dL_law_903 : decode cL_law 903 = .ok (.iconst 0, 1) := by decide +kernel
theorem dL_law_904 : decode cL_law 904 = .ok (.ireturn, 1) := by decide +kernel
theorem dL_law_905 : decode cL_law 905 = .ok (.aload_n 1, 1) := by decide +kernel
theorem dL_law_906 : decode cL_law 906 = .ok (.aload_n 0, 1) := by decide +kernel
theorem dL_law_907 : decode cL_law 907 = .ok (.iload_n 3, 1) := by decide +kernel
theorem dL_law_908 : decode cL_law 908 = .ok (.iconst 1, 1) := by decide +kernel
theorem dL_law_909 : decode cL_law 909 = .ok (.iadd, 1) := by decide +kernel
theorem dL_law_910 : decode cL_law 910 = .ok (.iaload, 1) := by decide +kernel
theorem dL_law_911 : decode cL_law 911 = .ok (.invokevirtual 101, 3) := by decide +kernel
theorem dL_law_914 : decode cL_law 914 = .ok (.aload_n 2, 1) := by decide +kernel
theorem dL_law_915 : decode cL_law 915 = .ok (.aload_n 0, 1) := by decide +kernel
theorem dL_law_916 : decode cL_law 916 = .ok (.iload_n 3, 1) := by decide +kernel
theorem dL_law_917 : decode cL_law 917 = .ok (.iconst 1, 1) := by decide +kernel
theorem dL_law_918 : decode cL_law 918 = .ok (.iadd, 1) := by decide +kernel
theorem dL_law_919 : decode cL_law 919 = .ok (.iaload, 1) := by decide +kernel
theorem dL_law_920 : decode cL_law 920 = .ok (.invokevirtual 104, 3) := by decide +kernel
theorem dL_law_923 : decode cL_law 923 = .ok (.if_icmp .eq 5, 3) := by decide +kernel
theorem dL_law_926 : decode cL_law 926 = .ok (.iconst 0, 1) := by decide +kernel
theorem dL_law_927 : decode cL_law 927 = .ok (.ireturn, 1) := by decide +kernel
theorem dL_law_928 : decode cL_law 928 = .ok (.iinc 3 7, 3) := by decide +kernel
theorem dL_law_931 : decode cL_law 931 = .ok (.goto (-913), 3) := by decide +kernel
theorem dL_law_934 : decode cL_law 934 = .ok (.iconst 1, 1) := by decide +kernel
theorem dL_law_935 : decode cL_law 935 = .ok (.ireturn, 1) := by decide +kernel
end
section
/-! A SMALL MACHINE over whole numbers: what an instruction does to program counter, locals, stack and memory, as a predicate transformer. Memory: cell i, place j holds a whole number (an int is it modulo 2^32). References are numbers of cells. -/
abbrev tV : Type := Int ⊕ (Nat ⊕ Int)
abbrev vI (x : Int) : tV := Sum.inl x
abbrev vR (i : Nat) : tV := Sum.inr (Sum.inl i)
abbrev vL (x : Int) : tV := Sum.inr (Sum.inr x)
abbrev tLs : Type := List (Option tV)
abbrev tM : Type := Nat → Nat → Int
abbrev tQ : Type := Option tV → tM → Prop
abbrev tY : Type := Nat → tLs → List tV → tM → Prop
abbrev tC : Type := Nat → Nat → List tV → tM → tQ → Prop
abbrev tF : Type := tC → Nat → tQ → tY → tY
def iR (x : Int) : Prop := -2147483648 ≤ x ∧ x < 2147483648
def lR (x : Int) : Prop := -9223372036854775808 ≤ x ∧ x < 9223372036854775808
def lget : tLs → Nat → Option tV
  | [], _ => none
  | a :: _, 0 => a
  | _ :: l, n + 1 => lget l n
def clrL : Option tV → Option tV
  | some (.inr (.inr _)) => none
  | x => x
def lput : tLs → Nat → tV → tLs
  | [], _, _ => []
  | _ :: l, 0, v => some v :: l
  | a :: l, 1, v => clrL a :: lput l 0 v
  | a :: l, n + 2, v => a :: lput l (n + 1) v
def lputL : tLs → Nat → tV → tLs
  | [], _, _ => []
  | [_], 0, v => [some v]
  | _ :: _ :: l, 0, v => some v :: none :: l
  | a :: l, 1, v => clrL a :: lputL l 0 v
  | a :: l, n + 2, v => a :: lputL l (n + 1) v
def upM (M : tM) (i j : Nat) (x : Int) : tM := fun a b => if a = i ∧ b = j then x else M a b
def bAnd (x y : Int) : Int := (Int32.ofInt x &&& Int32.ofInt y).toInt
def bOr (x y : Int) : Int := (Int32.ofInt x ||| Int32.ofInt y).toInt
def bXor (x y : Int) : Int := (Int32.ofInt x ^^^ Int32.ofInt y).toInt
def cmpL (x y : Int) : Int := if y < x then 1 else if x = y then 0 else -1
/-! the cells of the system: class, length, targets -/
def clsOf (i : Nat) : Nat := if 14 ≤ i ∧ i < 38 then 3 else if i = 0 then 4 else if i = 1 then 1 else if i = 4 then 2 else if i = 9 then 0 else if i = 86 then 5 else 9
def alen (i : Nat) : Int := if 38 ≤ i ∧ i < 86 then 30 else if i = 2 then 16 else if i = 3 then 16 else if i = 5 then 16 else if i = 6 then 4 else if i = 7 then 4 else if i = 8 then 4 else if i = 10 then 2000 else if i = 11 then 2000 else if i = 13 then 16 else if i = 87 then 16 else if i = 88 then 24 else if i = 90 then 24 else if i = 91 then 720 else if i = 92 then 720 else if i = 93 then 8000 else if i = 94 then 2000 else if i = 95 then 2000 else if i = 96 then 4 else if i = 97 then 384 else if i = 98 then 720 else if i = 99 then 720 else if i = 100 then 4 else 0
/-! what instructions do -/
def f_no : tF := fun _ _ _ _ _ _ _ _ => False
def f_push (n : Int) (len : Nat) : tF := fun _ _ _ Y pc ls st M => Y (pc + len) ls (vI n :: st) M
def f_pushL (n : Int) (len : Nat) : tF := fun _ _ _ Y pc ls st M => Y (pc + len) ls (vL n :: st) M
def f_loadI (i len : Nat) : tF := fun _ _ _ Y pc ls st M => match lget ls i with
  | some (.inl x) => Y (pc + len) ls (vI x :: st) M
  | _ => False
def f_loadR (i len : Nat) : tF := fun _ _ _ Y pc ls st M => match lget ls i with
  | some (.inr (.inl x)) => Y (pc + len) ls (vR x :: st) M
  | _ => False
def f_loadL (i len : Nat) : tF := fun _ _ _ Y pc ls st M => match lget ls i with
  | some (.inr (.inr x)) => Y (pc + len) ls (vL x :: st) M
  | _ => False
def f_storeI (i len : Nat) : tF := fun _ _ _ Y pc ls st M => match st with
  | .inl x :: st => Y (pc + len) (lput ls i (vI x)) st M
  | _ => False
def f_storeR (i len : Nat) : tF := fun _ _ _ Y pc ls st M => match st with
  | .inr (.inl x) :: st => Y (pc + len) (lput ls i (vR x)) st M
  | _ => False
def f_storeL (i len : Nat) : tF := fun _ _ _ Y pc ls st M => match st with
  | .inr (.inr x) :: st => Y (pc + len) (lputL ls i (vL x)) st M
  | _ => False
def f_iinc (i : Nat) (n : Int) : tF := fun _ _ _ Y pc ls st M => match lget ls i with
  | some (.inl x) => Y (pc + 3) (lput ls i (vI (x + n))) st M
  | _ => False
def f_add : tF := fun _ _ _ Y pc ls st M => match st with
  | .inl y :: .inl x :: st => Y (pc + 1) ls (vI (x + y) :: st) M
  | _ => False
def f_sub : tF := fun _ _ _ Y pc ls st M => match st with
  | .inl y :: .inl x :: st => Y (pc + 1) ls (vI (x - y) :: st) M
  | _ => False
def f_mul : tF := fun _ _ _ Y pc ls st M => match st with
  | .inl y :: .inl x :: st => Y (pc + 1) ls (vI (x * y) :: st) M
  | _ => False
def f_neg : tF := fun _ _ _ Y pc ls st M => match st with
  | .inl x :: st => Y (pc + 1) ls (vI (-x) :: st) M
  | _ => False
def f_and : tF := fun _ _ _ Y pc ls st M => match st with
  | .inl y :: .inl x :: st => Y (pc + 1) ls (vI (bAnd x y) :: st) M
  | _ => False
def f_or : tF := fun _ _ _ Y pc ls st M => match st with
  | .inl y :: .inl x :: st => Y (pc + 1) ls (vI (bOr x y) :: st) M
  | _ => False
def f_xor : tF := fun _ _ _ Y pc ls st M => match st with
  | .inl y :: .inl x :: st => Y (pc + 1) ls (vI (bXor x y) :: st) M
  | _ => False
def f_shl : tF := fun _ _ _ Y pc ls st M => match st with
  | .inl y :: .inl x :: st => (0 ≤ y ∧ y < 32) ∧ Y (pc + 1) ls (vI (x * 2 ^ y.toNat) :: st) M
  | _ => False
def f_shr : tF := fun _ _ _ Y pc ls st M => match st with
  | .inl y :: .inl x :: st => iR x ∧ (0 ≤ y ∧ y < 32) ∧ Y (pc + 1) ls (vI (x / 2 ^ y.toNat) :: st) M
  | _ => False
def f_ushr : tF := fun _ _ _ Y pc ls st M => match st with
  | .inl y :: .inl x :: st => (0 ≤ x ∧ x < 2147483648) ∧ (0 ≤ y ∧ y < 32) ∧ Y (pc + 1) ls (vI (x / 2 ^ y.toNat) :: st) M
  | _ => False
def f_div : tF := fun _ _ _ Y pc ls st M => match st with
  | .inl y :: .inl x :: st => (0 ≤ x ∧ x < 2147483648) ∧ (0 < y ∧ y < 2147483648) ∧ Y (pc + 1) ls (vI (x / y) :: st) M
  | _ => False
def f_ladd : tF := fun _ _ _ Y pc ls st M => match st with
  | .inr (.inr y) :: .inr (.inr x) :: st => Y (pc + 1) ls (vL (x + y) :: st) M
  | _ => False
def f_lsub : tF := fun _ _ _ Y pc ls st M => match st with
  | .inr (.inr y) :: .inr (.inr x) :: st => Y (pc + 1) ls (vL (x - y) :: st) M
  | _ => False
def f_lmul : tF := fun _ _ _ Y pc ls st M => match st with
  | .inr (.inr y) :: .inr (.inr x) :: st => Y (pc + 1) ls (vL (x * y) :: st) M
  | _ => False
def f_ldiv : tF := fun _ _ _ Y pc ls st M => match st with
  | .inr (.inr y) :: .inr (.inr x) :: st => (0 ≤ x ∧ x < 9223372036854775808) ∧ (0 < y ∧ y < 9223372036854775808) ∧ Y (pc + 1) ls (vL (x / y) :: st) M
  | _ => False
def f_lcmp : tF := fun _ _ _ Y pc ls st M => match st with
  | .inr (.inr y) :: .inr (.inr x) :: st => lR x ∧ lR y ∧ Y (pc + 1) ls (vI (cmpL x y) :: st) M
  | _ => False
def f_i2l : tF := fun _ _ _ Y pc ls st M => match st with
  | .inl x :: st => iR x ∧ Y (pc + 1) ls (vL x :: st) M
  | _ => False
def f_dup : tF := fun _ _ _ Y pc ls st M => match st with
  | .inr (.inl r) :: st => Y (pc + 1) ls (vR r :: vR r :: st) M
  | _ => False
def f_dup2 : tF := fun _ _ _ Y pc ls st M => match st with
  | .inl x :: .inr (.inl r) :: st => Y (pc + 1) ls (vI x :: vR r :: vI x :: vR r :: st) M
  | _ => False
def f_pop : tF := fun _ _ _ Y pc ls st M => match st with
  | .inl _ :: st => Y (pc + 1) ls st M
  | _ => False
def f_if0 (ct cf : Int → Int → Prop) (tgt : Nat) : tF := fun _ _ _ Y pc ls st M => match st with
  | .inl x :: st => iR x ∧ (ct x 0 → Y tgt ls st M) ∧ (cf x 0 → Y (pc + 3) ls st M)
  | _ => False
def f_icmp (ct cf : Int → Int → Prop) (tgt : Nat) : tF := fun _ _ _ Y pc ls st M => match st with
  | .inl y :: .inl x :: st => iR x ∧ iR y ∧ (ct x y → Y tgt ls st M) ∧ (cf x y → Y (pc + 3) ls st M)
  | _ => False
abbrev cEq (x y : Int) : Prop := x = y
abbrev cNe (x y : Int) : Prop := x ≠ y
abbrev cLt (x y : Int) : Prop := x < y
abbrev cGe (x y : Int) : Prop := y ≤ x
abbrev cGt (x y : Int) : Prop := y < x
abbrev cLe (x y : Int) : Prop := x ≤ y
def f_goto (tgt : Nat) : tF := fun _ _ _ Y _ ls st M => Y tgt ls st M
def f_getI (ci k : Nat) : tF := fun _ _ _ Y pc ls st M => match st with
  | .inr (.inl i) :: st => clsOf i = ci ∧ Y (pc + 3) ls (vI (M i k) :: st) M
  | _ => False
def f_getR (ci k : Nat) (tg : Nat → Nat) : tF := fun _ _ _ Y pc ls st M => match st with
  | .inr (.inl i) :: st => clsOf i = ci ∧ Y (pc + 3) ls (vR (tg i) :: st) M
  | _ => False
def f_putI (ci k : Nat) : tF := fun _ _ _ Y pc ls st M => match st with
  | .inl x :: .inr (.inl i) :: st => clsOf i = ci ∧ Y (pc + 3) ls st (upM M i k x)
  | _ => False
def f_putZ (ci k : Nat) : tF := fun _ _ _ Y pc ls st M => match st with
  | .inl x :: .inr (.inl i) :: st => clsOf i = ci ∧ (x = 0 ∨ x = 1) ∧ Y (pc + 3) ls st (upM M i k x)
  | _ => False
def f_iald : tF := fun _ _ _ Y pc ls st M => match st with
  | .inl x :: .inr (.inl i) :: st => (0 ≤ x ∧ x < alen i) ∧ Y (pc + 1) ls (vI (M i x.toNat) :: st) M
  | _ => False
def f_zald : tF := fun _ _ _ Y pc ls st M => match st with
  | .inl x :: .inr (.inl i) :: st => i = 89 ∧ (0 ≤ x ∧ x < 24) ∧ Y (pc + 1) ls (vI (M 89 x.toNat) :: st) M
  | _ => False
def f_iast : tF := fun _ _ _ Y pc ls st M => match st with
  | .inl v :: .inl x :: .inr (.inl i) :: st => (0 ≤ x ∧ x < alen i) ∧ Y (pc + 1) ls st (upM M i x.toNat v)
  | _ => False
def f_zast : tF := fun _ _ _ Y pc ls st M => match st with
  | .inl v :: .inl x :: .inr (.inl i) :: st => i = 89 ∧ (0 ≤ x ∧ x < 24) ∧ (v = 0 ∨ v = 1) ∧ Y (pc + 1) ls st (upM M 89 x.toNat v)
  | _ => False
def f_aald : tF := fun _ _ _ Y pc ls st M => match st with
  | .inl x :: .inr (.inl i) :: st => i = 12 ∧ (0 ≤ x ∧ x < 24) ∧ Y (pc + 1) ls (vR (14 + x.toNat) :: st) M
  | _ => False
def noL : List tV → Bool
  | [] => true
  | .inr (.inr _) :: _ => false
  | _ :: l => noL l
def lenLe : List tV → Nat → Bool
  | [], _ => true
  | _ :: _, 0 => false
  | _ :: l, n + 1 => lenLe l n
def lenGe : List tV → Nat → Bool
  | _, 0 => true
  | [], _ + 1 => false
  | _ :: l, n + 1 => lenGe l n
/-- a static call: method k, n parameters -/
def f_callS (k n : Nat) : tF := fun C d _ Y pc ls st M => match d with
  | 0 => False
  | d + 1 => (lenGe st n && lenLe (st.drop n) 4 && noL (st.take n)) = true ∧ C d k (st.take n).reverse M (fun r M2 => Y (pc + 3) ls (r.toList ++ st.drop n) M2)
/-- a call with a receiver of class ci: n parameters beside it -/
def f_callV (ci k n : Nat) : tF := fun C d _ Y pc ls st M => match d with
  | 0 => False
  | d + 1 => (lenLe (st.drop (n + 1)) 4 && noL (st.take n)) = true ∧ (match (st.drop n) with
    | .inr (.inl i) :: _ => clsOf i = ci ∧ C d k (vR i :: (st.take n).reverse) M (fun r M2 => Y (pc + 3) ls (r.toList ++ st.drop (n + 1)) M2)
    | _ => False)
def f_iret : tF := fun _ _ Q _ _ _ st M => match st with
  | [.inl x] => Q (some (vI x)) M
  | _ => False
def f_zret : tF := fun _ _ Q _ _ _ st M => match st with
  | [.inl x] => (x = 0 ∨ x = 1) ∧ Q (some (vI x)) M
  | _ => False
def f_lret : tF := fun _ _ Q _ _ _ st M => match st with
  | [.inr (.inr x)] => Q (some (vL x)) M
  | _ => False
def f_vret : tF := fun _ _ Q _ _ _ st M => match st with
  | [] => Q none M
  | _ => False
def swL (x : Int) (Y : Nat → Prop) : Int → List Nat → Prop
  | _, [] => True
  | v, t :: ts => (x = v → Y t) ∧ swL x Y (v + 1) ts
def f_tsw (lo hi : Int) (ts : List Nat) (dflt : Nat) : tF := fun _ _ _ Y _ ls st M => match st with
  | .inl x :: st => iR x ∧ (x < lo ∨ hi < x → Y dflt ls st M) ∧ swL x (fun t => Y t ls st M) lo ts
  | _ => False
/-- two cases, and others -/
def f_lsw2 (a b : Int) (ta tb dflt : Nat) : tF := fun _ _ _ Y _ ls st M => match st with
  | .inl x :: st => iR x ∧ (x = a → Y ta ls st M) ∧ (x = b → Y tb ls st M) ∧ (x ≠ a ∧ x ≠ b → Y dflt ls st M)
  | _ => False
/-! tables -/
def tabF : List (Nat × tF) → Nat → tF
  | [], _ => f_no
  | e :: l, pc => if e.1 = pc then e.2 else tabF l pc
def AllS (P : Nat × tF → Prop) : List (Nat × tF) → Prop
  | [] => True
  | e :: l => P e ∧ AllS P l
theorem tabF_all {P : Nat × tF → Prop} (h0 : ∀ pc, P (pc, f_no)) : ∀ (l : List (Nat × tF)), AllS P l → ∀ pc, P (pc, tabF l pc)
  | [], _, pc => h0 pc
  | e :: l, h, pc => by
    unfold tabF
    by_cases q : e.1 = pc
    · rw [if_pos q, ← q]
      exact h.1
    · rw [if_neg q]
      exact tabF_all h0 l h.2 pc
def ent (as : List tV) (n : Nat) : tLs := as.map some ++ List.replicate (n - as.length) none
def CMono (C : tC) : Prop := ∀ d k as M (Q Q' : tQ), (∀ r M2, Q r M2 → Q' r M2) → C d k as M Q → C d k as M Q'
def FMono (f : tF) : Prop := ∀ (C : tC), CMono C → ∀ d Q (Y Y' : tY), (∀ pc ls st M, Y pc ls st M → Y' pc ls st M) → ∀ pc ls st M, f C d Q Y pc ls st M → f C d Q Y' pc ls st M
/-- a method's body runs: whatever is closed under its instructions holds at its entry -/
def Runs (C : tC) (F : Nat → tF) (d : Nat) (Q : tQ) (pc : Nat) (ls : tLs) (st : List tV) (M : tM) : Prop := ∀ Y : tY, (∀ pc ls st M, F pc C d Q Y pc ls st M → Y pc ls st M) → Y pc ls st M
def stN (C : tC) (F : Nat → tF) (d : Nat) (Q : tQ) (Y : tY) (cut : List Nat) : Nat → tY
  | 0 => Y
  | n + 1 => fun pc ls st M => match cut.elem pc with
    | true => Y pc ls st M
    | false => F pc C d Q (stN C F d Q Y cut n) pc ls st M
theorem Runs.step {C : tC} (hC : CMono C) {F : Nat → tF} (hF : ∀ pc, FMono (F pc)) {d : Nat} {Q : tQ} {pc : Nat} {ls : tLs} {st : List tV} {M : tM} (h : F pc C d Q (Runs C F d Q) pc ls st M) : Runs C F d Q pc ls st M := by
  intro Y hY
  exact hY _ _ _ _ (hF pc C hC d Q _ _ (fun _ _ _ _ z => z Y hY) _ _ _ _ h)
theorem stN.ok {C : tC} (hC : CMono C) {F : Nat → tF} (hF : ∀ pc, FMono (F pc)) {d : Nat} {Q : tQ} (cut : List Nat) : ∀ (n pc : Nat) (ls : tLs) (st : List tV) (M : tM), stN C F d Q (Runs C F d Q) cut n pc ls st M → Runs C F d Q pc ls st M
  | 0, _, _, _, _, h => h
  | n + 1, pc, ls, st, M, h => by
    unfold stN at h
    cases hc : cut.elem pc with
    | true => rw [hc] at h; exact h
    | false =>
      rw [hc] at h
      exact Runs.step hC hF (hF pc C hC d Q _ _ (fun _ _ _ _ z => stN.ok hC hF cut n _ _ _ _ z) _ _ _ _ h)
/-- run from here: one step at least, then on to the cuts -/
theorem Runs.go {C : tC} (hC : CMono C) {F : Nat → tF} (hF : ∀ pc, FMono (F pc)) {d : Nat} {Q : tQ} (cut : List Nat) (n : Nat) {pc : Nat} {ls : tLs} {st : List tV} {M : tM} (h : F pc C d Q (stN C F d Q (Runs C F d Q) cut n) pc ls st M) : Runs C F d Q pc ls st M :=
  Runs.step hC hF (hF pc C hC d Q _ _ (fun _ _ _ _ z => stN.ok hC hF cut n _ _ _ _ z) _ _ _ _ h)
theorem m_no  : FMono (f_no) := by
  intro C hC d Q Y Y' hY pc ls st M h
  unfold f_no at h ⊢
  first
    | exact h
    | exact hY _ _ _ _ h
    | (split at h <;> first | exact h.elim | exact hY _ _ _ _ h | exact ⟨h.1, hY _ _ _ _ h.2⟩ | exact ⟨h.1, h.2.1, hY _ _ _ _ h.2.2⟩ | exact ⟨h.1, h.2.1, h.2.2.1, hY _ _ _ _ h.2.2.2⟩ | exact ⟨h.1, fun z => hY _ _ _ _ (h.2.1 z), fun z => hY _ _ _ _ (h.2.2 z)⟩ | exact ⟨h.1, h.2.1, fun z => hY _ _ _ _ (h.2.2.1 z), fun z => hY _ _ _ _ (h.2.2.2 z)⟩ | exact ⟨h.1, fun z => hY _ _ _ _ (h.2.1 z), fun z => hY _ _ _ _ (h.2.2.1 z), fun z => hY _ _ _ _ (h.2.2.2 z)⟩)
theorem m_push (n : Int) (len : Nat) : FMono (f_push n len) := by
  intro C hC d Q Y Y' hY pc ls st M h
  unfold f_push at h ⊢
  first
    | exact h
    | exact hY _ _ _ _ h
    | (split at h <;> first | exact h.elim | exact hY _ _ _ _ h | exact ⟨h.1, hY _ _ _ _ h.2⟩ | exact ⟨h.1, h.2.1, hY _ _ _ _ h.2.2⟩ | exact ⟨h.1, h.2.1, h.2.2.1, hY _ _ _ _ h.2.2.2⟩ | exact ⟨h.1, fun z => hY _ _ _ _ (h.2.1 z), fun z => hY _ _ _ _ (h.2.2 z)⟩ | exact ⟨h.1, h.2.1, fun z => hY _ _ _ _ (h.2.2.1 z), fun z => hY _ _ _ _ (h.2.2.2 z)⟩ | exact ⟨h.1, fun z => hY _ _ _ _ (h.2.1 z), fun z => hY _ _ _ _ (h.2.2.1 z), fun z => hY _ _ _ _ (h.2.2.2 z)⟩)
theorem m_pushL (n : Int) (len : Nat) : FMono (f_pushL n len) := by
  intro C hC d Q Y Y' hY pc ls st M h
  unfold f_pushL at h ⊢
  first
    | exact h
    | exact hY _ _ _ _ h
    | (split at h <;> first | exact h.elim | exact hY _ _ _ _ h | exact ⟨h.1, hY _ _ _ _ h.2⟩ | exact ⟨h.1, h.2.1, hY _ _ _ _ h.2.2⟩ | exact ⟨h.1, h.2.1, h.2.2.1, hY _ _ _ _ h.2.2.2⟩ | exact ⟨h.1, fun z => hY _ _ _ _ (h.2.1 z), fun z => hY _ _ _ _ (h.2.2 z)⟩ | exact ⟨h.1, h.2.1, fun z => hY _ _ _ _ (h.2.2.1 z), fun z => hY _ _ _ _ (h.2.2.2 z)⟩ | exact ⟨h.1, fun z => hY _ _ _ _ (h.2.1 z), fun z => hY _ _ _ _ (h.2.2.1 z), fun z => hY _ _ _ _ (h.2.2.2 z)⟩)
theorem m_loadI (i len : Nat) : FMono (f_loadI i len) := by
  intro C hC d Q Y Y' hY pc ls st M h
  unfold f_loadI at h ⊢
  first
    | exact h
    | exact hY _ _ _ _ h
    | (split at h <;> first | exact h.elim | exact hY _ _ _ _ h | exact ⟨h.1, hY _ _ _ _ h.2⟩ | exact ⟨h.1, h.2.1, hY _ _ _ _ h.2.2⟩ | exact ⟨h.1, h.2.1, h.2.2.1, hY _ _ _ _ h.2.2.2⟩ | exact ⟨h.1, fun z => hY _ _ _ _ (h.2.1 z), fun z => hY _ _ _ _ (h.2.2 z)⟩ | exact ⟨h.1, h.2.1, fun z => hY _ _ _ _ (h.2.2.1 z), fun z => hY _ _ _ _ (h.2.2.2 z)⟩ | exact ⟨h.1, fun z => hY _ _ _ _ (h.2.1 z), fun z => hY _ _ _ _ (h.2.2.1 z), fun z => hY _ _ _ _ (h.2.2.2 z)⟩)
theorem m_loadR (i len : Nat) : FMono (f_loadR i len) := by
  intro C hC d Q Y Y' hY pc ls st M h
  unfold f_loadR at h ⊢
  first
    | exact h
    | exact hY _ _ _ _ h
    | (split at h <;> first | exact h.elim | exact hY _ _ _ _ h | exact ⟨h.1, hY _ _ _ _ h.2⟩ | exact ⟨h.1, h.2.1, hY _ _ _ _ h.2.2⟩ | exact ⟨h.1, h.2.1, h.2.2.1, hY _ _ _ _ h.2.2.2⟩ | exact ⟨h.1, fun z => hY _ _ _ _ (h.2.1 z), fun z => hY _ _ _ _ (h.2.2 z)⟩ | exact ⟨h.1, h.2.1, fun z => hY _ _ _ _ (h.2.2.1 z), fun z => hY _ _ _ _ (h.2.2.2 z)⟩ | exact ⟨h.1, fun z => hY _ _ _ _ (h.2.1 z), fun z => hY _ _ _ _ (h.2.2.1 z), fun z => hY _ _ _ _ (h.2.2.2 z)⟩)
theorem m_loadL (i len : Nat) : FMono (f_loadL i len) := by
  intro C hC d Q Y Y' hY pc ls st M h
  unfold f_loadL at h ⊢
  first
    | exact h
    | exact hY _ _ _ _ h
    | (split at h <;> first | exact h.elim | exact hY _ _ _ _ h | exact ⟨h.1, hY _ _ _ _ h.2⟩ | exact ⟨h.1, h.2.1, hY _ _ _ _ h.2.2⟩ | exact ⟨h.1, h.2.1, h.2.2.1, hY _ _ _ _ h.2.2.2⟩ | exact ⟨h.1, fun z => hY _ _ _ _ (h.2.1 z), fun z => hY _ _ _ _ (h.2.2 z)⟩ | exact ⟨h.1, h.2.1, fun z => hY _ _ _ _ (h.2.2.1 z), fun z => hY _ _ _ _ (h.2.2.2 z)⟩ | exact ⟨h.1, fun z => hY _ _ _ _ (h.2.1 z), fun z => hY _ _ _ _ (h.2.2.1 z), fun z => hY _ _ _ _ (h.2.2.2 z)⟩)
theorem m_storeI (i len : Nat) : FMono (f_storeI i len) := by
  intro C hC d Q Y Y' hY pc ls st M h
  unfold f_storeI at h ⊢
  first
    | exact h
    | exact hY _ _ _ _ h
    | (split at h <;> first | exact h.elim | exact hY _ _ _ _ h | exact ⟨h.1, hY _ _ _ _ h.2⟩ | exact ⟨h.1, h.2.1, hY _ _ _ _ h.2.2⟩ | exact ⟨h.1, h.2.1, h.2.2.1, hY _ _ _ _ h.2.2.2⟩ | exact ⟨h.1, fun z => hY _ _ _ _ (h.2.1 z), fun z => hY _ _ _ _ (h.2.2 z)⟩ | exact ⟨h.1, h.2.1, fun z => hY _ _ _ _ (h.2.2.1 z), fun z => hY _ _ _ _ (h.2.2.2 z)⟩ | exact ⟨h.1, fun z => hY _ _ _ _ (h.2.1 z), fun z => hY _ _ _ _ (h.2.2.1 z), fun z => hY _ _ _ _ (h.2.2.2 z)⟩)
theorem m_storeR (i len : Nat) : FMono (f_storeR i len) := by
  intro C hC d Q Y Y' hY pc ls st M h
  unfold f_storeR at h ⊢
  first
    | exact h
    | exact hY _ _ _ _ h
    | (split at h <;> first | exact h.elim | exact hY _ _ _ _ h | exact ⟨h.1, hY _ _ _ _ h.2⟩ | exact ⟨h.1, h.2.1, hY _ _ _ _ h.2.2⟩ | exact ⟨h.1, h.2.1, h.2.2.1, hY _ _ _ _ h.2.2.2⟩ | exact ⟨h.1, fun z => hY _ _ _ _ (h.2.1 z), fun z => hY _ _ _ _ (h.2.2 z)⟩ | exact ⟨h.1, h.2.1, fun z => hY _ _ _ _ (h.2.2.1 z), fun z => hY _ _ _ _ (h.2.2.2 z)⟩ | exact ⟨h.1, fun z => hY _ _ _ _ (h.2.1 z), fun z => hY _ _ _ _ (h.2.2.1 z), fun z => hY _ _ _ _ (h.2.2.2 z)⟩)
theorem m_storeL (i len : Nat) : FMono (f_storeL i len) := by
  intro C hC d Q Y Y' hY pc ls st M h
  unfold f_storeL at h ⊢
  first
    | exact h
    | exact hY _ _ _ _ h
    | (split at h <;> first | exact h.elim | exact hY _ _ _ _ h | exact ⟨h.1, hY _ _ _ _ h.2⟩ | exact ⟨h.1, h.2.1, hY _ _ _ _ h.2.2⟩ | exact ⟨h.1, h.2.1, h.2.2.1, hY _ _ _ _ h.2.2.2⟩ | exact ⟨h.1, fun z => hY _ _ _ _ (h.2.1 z), fun z => hY _ _ _ _ (h.2.2 z)⟩ | exact ⟨h.1, h.2.1, fun z => hY _ _ _ _ (h.2.2.1 z), fun z => hY _ _ _ _ (h.2.2.2 z)⟩ | exact ⟨h.1, fun z => hY _ _ _ _ (h.2.1 z), fun z => hY _ _ _ _ (h.2.2.1 z), fun z => hY _ _ _ _ (h.2.2.2 z)⟩)
theorem m_iinc (i : Nat) (n : Int) : FMono (f_iinc i n) := by
  intro C hC d Q Y Y' hY pc ls st M h
  unfold f_iinc at h ⊢
  first
    | exact h
    | exact hY _ _ _ _ h
    | (split at h <;> first | exact h.elim | exact hY _ _ _ _ h | exact ⟨h.1, hY _ _ _ _ h.2⟩ | exact ⟨h.1, h.2.1, hY _ _ _ _ h.2.2⟩ | exact ⟨h.1, h.2.1, h.2.2.1, hY _ _ _ _ h.2.2.2⟩ | exact ⟨h.1, fun z => hY _ _ _ _ (h.2.1 z), fun z => hY _ _ _ _ (h.2.2 z)⟩ | exact ⟨h.1, h.2.1, fun z => hY _ _ _ _ (h.2.2.1 z), fun z => hY _ _ _ _ (h.2.2.2 z)⟩ | exact ⟨h.1, fun z => hY _ _ _ _ (h.2.1 z), fun z => hY _ _ _ _ (h.2.2.1 z), fun z => hY _ _ _ _ (h.2.2.2 z)⟩)
theorem m_add  : FMono (f_add) := by
  intro C hC d Q Y Y' hY pc ls st M h
  unfold f_add at h ⊢
  first
    | exact h
    | exact hY _ _ _ _ h
    | (split at h <;> first | exact h.elim | exact hY _ _ _ _ h | exact ⟨h.1, hY _ _ _ _ h.2⟩ | exact ⟨h.1, h.2.1, hY _ _ _ _ h.2.2⟩ | exact ⟨h.1, h.2.1, h.2.2.1, hY _ _ _ _ h.2.2.2⟩ | exact ⟨h.1, fun z => hY _ _ _ _ (h.2.1 z), fun z => hY _ _ _ _ (h.2.2 z)⟩ | exact ⟨h.1, h.2.1, fun z => hY _ _ _ _ (h.2.2.1 z), fun z => hY _ _ _ _ (h.2.2.2 z)⟩ | exact ⟨h.1, fun z => hY _ _ _ _ (h.2.1 z), fun z => hY _ _ _ _ (h.2.2.1 z), fun z => hY _ _ _ _ (h.2.2.2 z)⟩)
theorem m_sub  : FMono (f_sub) := by
  intro C hC d Q Y Y' hY pc ls st M h
  unfold f_sub at h ⊢
  first
    | exact h
    | exact hY _ _ _ _ h
    | (split at h <;> first | exact h.elim | exact hY _ _ _ _ h | exact ⟨h.1, hY _ _ _ _ h.2⟩ | exact ⟨h.1, h.2.1, hY _ _ _ _ h.2.2⟩ | exact ⟨h.1, h.2.1, h.2.2.1, hY _ _ _ _ h.2.2.2⟩ | exact ⟨h.1, fun z => hY _ _ _ _ (h.2.1 z), fun z => hY _ _ _ _ (h.2.2 z)⟩ | exact ⟨h.1, h.2.1, fun z => hY _ _ _ _ (h.2.2.1 z), fun z => hY _ _ _ _ (h.2.2.2 z)⟩ | exact ⟨h.1, fun z => hY _ _ _ _ (h.2.1 z), fun z => hY _ _ _ _ (h.2.2.1 z), fun z => hY _ _ _ _ (h.2.2.2 z)⟩)
theorem m_mul  : FMono (f_mul) := by
  intro C hC d Q Y Y' hY pc ls st M h
  unfold f_mul at h ⊢
  first
    | exact h
    | exact hY _ _ _ _ h
    | (split at h <;> first | exact h.elim | exact hY _ _ _ _ h | exact ⟨h.1, hY _ _ _ _ h.2⟩ | exact ⟨h.1, h.2.1, hY _ _ _ _ h.2.2⟩ | exact ⟨h.1, h.2.1, h.2.2.1, hY _ _ _ _ h.2.2.2⟩ | exact ⟨h.1, fun z => hY _ _ _ _ (h.2.1 z), fun z => hY _ _ _ _ (h.2.2 z)⟩ | exact ⟨h.1, h.2.1, fun z => hY _ _ _ _ (h.2.2.1 z), fun z => hY _ _ _ _ (h.2.2.2 z)⟩ | exact ⟨h.1, fun z => hY _ _ _ _ (h.2.1 z), fun z => hY _ _ _ _ (h.2.2.1 z), fun z => hY _ _ _ _ (h.2.2.2 z)⟩)
theorem m_neg  : FMono (f_neg) := by
  intro C hC d Q Y Y' hY pc ls st M h
  unfold f_neg at h ⊢
  first
    | exact h
    | exact hY _ _ _ _ h
    | (split at h <;> first | exact h.elim | exact hY _ _ _ _ h | exact ⟨h.1, hY _ _ _ _ h.2⟩ | exact ⟨h.1, h.2.1, hY _ _ _ _ h.2.2⟩ | exact ⟨h.1, h.2.1, h.2.2.1, hY _ _ _ _ h.2.2.2⟩ | exact ⟨h.1, fun z => hY _ _ _ _ (h.2.1 z), fun z => hY _ _ _ _ (h.2.2 z)⟩ | exact ⟨h.1, h.2.1, fun z => hY _ _ _ _ (h.2.2.1 z), fun z => hY _ _ _ _ (h.2.2.2 z)⟩ | exact ⟨h.1, fun z => hY _ _ _ _ (h.2.1 z), fun z => hY _ _ _ _ (h.2.2.1 z), fun z => hY _ _ _ _ (h.2.2.2 z)⟩)
theorem m_and  : FMono (f_and) := by
  intro C hC d Q Y Y' hY pc ls st M h
  unfold f_and at h ⊢
  first
    | exact h
    | exact hY _ _ _ _ h
    | (split at h <;> first | exact h.elim | exact hY _ _ _ _ h | exact ⟨h.1, hY _ _ _ _ h.2⟩ | exact ⟨h.1, h.2.1, hY _ _ _ _ h.2.2⟩ | exact ⟨h.1, h.2.1, h.2.2.1, hY _ _ _ _ h.2.2.2⟩ | exact ⟨h.1, fun z => hY _ _ _ _ (h.2.1 z), fun z => hY _ _ _ _ (h.2.2 z)⟩ | exact ⟨h.1, h.2.1, fun z => hY _ _ _ _ (h.2.2.1 z), fun z => hY _ _ _ _ (h.2.2.2 z)⟩ | exact ⟨h.1, fun z => hY _ _ _ _ (h.2.1 z), fun z => hY _ _ _ _ (h.2.2.1 z), fun z => hY _ _ _ _ (h.2.2.2 z)⟩)
theorem m_or  : FMono (f_or) := by
  intro C hC d Q Y Y' hY pc ls st M h
  unfold f_or at h ⊢
  first
    | exact h
    | exact hY _ _ _ _ h
    | (split at h <;> first | exact h.elim | exact hY _ _ _ _ h | exact ⟨h.1, hY _ _ _ _ h.2⟩ | exact ⟨h.1, h.2.1, hY _ _ _ _ h.2.2⟩ | exact ⟨h.1, h.2.1, h.2.2.1, hY _ _ _ _ h.2.2.2⟩ | exact ⟨h.1, fun z => hY _ _ _ _ (h.2.1 z), fun z => hY _ _ _ _ (h.2.2 z)⟩ | exact ⟨h.1, h.2.1, fun z => hY _ _ _ _ (h.2.2.1 z), fun z => hY _ _ _ _ (h.2.2.2 z)⟩ | exact ⟨h.1, fun z => hY _ _ _ _ (h.2.1 z), fun z => hY _ _ _ _ (h.2.2.1 z), fun z => hY _ _ _ _ (h.2.2.2 z)⟩)
theorem m_xor  : FMono (f_xor) := by
  intro C hC d Q Y Y' hY pc ls st M h
  unfold f_xor at h ⊢
  first
    | exact h
    | exact hY _ _ _ _ h
    | (split at h <;> first | exact h.elim | exact hY _ _ _ _ h | exact ⟨h.1, hY _ _ _ _ h.2⟩ | exact ⟨h.1, h.2.1, hY _ _ _ _ h.2.2⟩ | exact ⟨h.1, h.2.1, h.2.2.1, hY _ _ _ _ h.2.2.2⟩ | exact ⟨h.1, fun z => hY _ _ _ _ (h.2.1 z), fun z => hY _ _ _ _ (h.2.2 z)⟩ | exact ⟨h.1, h.2.1, fun z => hY _ _ _ _ (h.2.2.1 z), fun z => hY _ _ _ _ (h.2.2.2 z)⟩ | exact ⟨h.1, fun z => hY _ _ _ _ (h.2.1 z), fun z => hY _ _ _ _ (h.2.2.1 z), fun z => hY _ _ _ _ (h.2.2.2 z)⟩)
theorem m_shl  : FMono (f_shl) := by
  intro C hC d Q Y Y' hY pc ls st M h
  unfold f_shl at h ⊢
  first
    | exact h
    | exact hY _ _ _ _ h
    | (split at h <;> first | exact h.elim | exact hY _ _ _ _ h | exact ⟨h.1, hY _ _ _ _ h.2⟩ | exact ⟨h.1, h.2.1, hY _ _ _ _ h.2.2⟩ | exact ⟨h.1, h.2.1, h.2.2.1, hY _ _ _ _ h.2.2.2⟩ | exact ⟨h.1, fun z => hY _ _ _ _ (h.2.1 z), fun z => hY _ _ _ _ (h.2.2 z)⟩ | exact ⟨h.1, h.2.1, fun z => hY _ _ _ _ (h.2.2.1 z), fun z => hY _ _ _ _ (h.2.2.2 z)⟩ | exact ⟨h.1, fun z => hY _ _ _ _ (h.2.1 z), fun z => hY _ _ _ _ (h.2.2.1 z), fun z => hY _ _ _ _ (h.2.2.2 z)⟩)
theorem m_shr  : FMono (f_shr) := by
  intro C hC d Q Y Y' hY pc ls st M h
  unfold f_shr at h ⊢
  first
    | exact h
    | exact hY _ _ _ _ h
    | (split at h <;> first | exact h.elim | exact hY _ _ _ _ h | exact ⟨h.1, hY _ _ _ _ h.2⟩ | exact ⟨h.1, h.2.1, hY _ _ _ _ h.2.2⟩ | exact ⟨h.1, h.2.1, h.2.2.1, hY _ _ _ _ h.2.2.2⟩ | exact ⟨h.1, fun z => hY _ _ _ _ (h.2.1 z), fun z => hY _ _ _ _ (h.2.2 z)⟩ | exact ⟨h.1, h.2.1, fun z => hY _ _ _ _ (h.2.2.1 z), fun z => hY _ _ _ _ (h.2.2.2 z)⟩ | exact ⟨h.1, fun z => hY _ _ _ _ (h.2.1 z), fun z => hY _ _ _ _ (h.2.2.1 z), fun z => hY _ _ _ _ (h.2.2.2 z)⟩)
theorem m_ushr  : FMono (f_ushr) := by
  intro C hC d Q Y Y' hY pc ls st M h
  unfold f_ushr at h ⊢
  first
    | exact h
    | exact hY _ _ _ _ h
    | (split at h <;> first | exact h.elim | exact hY _ _ _ _ h | exact ⟨h.1, hY _ _ _ _ h.2⟩ | exact ⟨h.1, h.2.1, hY _ _ _ _ h.2.2⟩ | exact ⟨h.1, h.2.1, h.2.2.1, hY _ _ _ _ h.2.2.2⟩ | exact ⟨h.1, fun z => hY _ _ _ _ (h.2.1 z), fun z => hY _ _ _ _ (h.2.2 z)⟩ | exact ⟨h.1, h.2.1, fun z => hY _ _ _ _ (h.2.2.1 z), fun z => hY _ _ _ _ (h.2.2.2 z)⟩ | exact ⟨h.1, fun z => hY _ _ _ _ (h.2.1 z), fun z => hY _ _ _ _ (h.2.2.1 z), fun z => hY _ _ _ _ (h.2.2.2 z)⟩)
theorem m_div  : FMono (f_div) := by
  intro C hC d Q Y Y' hY pc ls st M h
  unfold f_div at h ⊢
  first
    | exact h
    | exact hY _ _ _ _ h
    | (split at h <;> first | exact h.elim | exact hY _ _ _ _ h | exact ⟨h.1, hY _ _ _ _ h.2⟩ | exact ⟨h.1, h.2.1, hY _ _ _ _ h.2.2⟩ | exact ⟨h.1, h.2.1, h.2.2.1, hY _ _ _ _ h.2.2.2⟩ | exact ⟨h.1, fun z => hY _ _ _ _ (h.2.1 z), fun z => hY _ _ _ _ (h.2.2 z)⟩ | exact ⟨h.1, h.2.1, fun z => hY _ _ _ _ (h.2.2.1 z), fun z => hY _ _ _ _ (h.2.2.2 z)⟩ | exact ⟨h.1, fun z => hY _ _ _ _ (h.2.1 z), fun z => hY _ _ _ _ (h.2.2.1 z), fun z => hY _ _ _ _ (h.2.2.2 z)⟩)
theorem m_ladd  : FMono (f_ladd) := by
  intro C hC d Q Y Y' hY pc ls st M h
  unfold f_ladd at h ⊢
  first
    | exact h
    | exact hY _ _ _ _ h
    | (split at h <;> first | exact h.elim | exact hY _ _ _ _ h | exact ⟨h.1, hY _ _ _ _ h.2⟩ | exact ⟨h.1, h.2.1, hY _ _ _ _ h.2.2⟩ | exact ⟨h.1, h.2.1, h.2.2.1, hY _ _ _ _ h.2.2.2⟩ | exact ⟨h.1, fun z => hY _ _ _ _ (h.2.1 z), fun z => hY _ _ _ _ (h.2.2 z)⟩ | exact ⟨h.1, h.2.1, fun z => hY _ _ _ _ (h.2.2.1 z), fun z => hY _ _ _ _ (h.2.2.2 z)⟩ | exact ⟨h.1, fun z => hY _ _ _ _ (h.2.1 z), fun z => hY _ _ _ _ (h.2.2.1 z), fun z => hY _ _ _ _ (h.2.2.2 z)⟩)
theorem m_lsub  : FMono (f_lsub) := by
  intro C hC d Q Y Y' hY pc ls st M h
  unfold f_lsub at h ⊢
  first
    | exact h
    | exact hY _ _ _ _ h
    | (split at h <;> first | exact h.elim | exact hY _ _ _ _ h | exact ⟨h.1, hY _ _ _ _ h.2⟩ | exact ⟨h.1, h.2.1, hY _ _ _ _ h.2.2⟩ | exact ⟨h.1, h.2.1, h.2.2.1, hY _ _ _ _ h.2.2.2⟩ | exact ⟨h.1, fun z => hY _ _ _ _ (h.2.1 z), fun z => hY _ _ _ _ (h.2.2 z)⟩ | exact ⟨h.1, h.2.1, fun z => hY _ _ _ _ (h.2.2.1 z), fun z => hY _ _ _ _ (h.2.2.2 z)⟩ | exact ⟨h.1, fun z => hY _ _ _ _ (h.2.1 z), fun z => hY _ _ _ _ (h.2.2.1 z), fun z => hY _ _ _ _ (h.2.2.2 z)⟩)
theorem m_lmul  : FMono (f_lmul) := by
  intro C hC d Q Y Y' hY pc ls st M h
  unfold f_lmul at h ⊢
  first
    | exact h
    | exact hY _ _ _ _ h
    | (split at h <;> first | exact h.elim | exact hY _ _ _ _ h | exact ⟨h.1, hY _ _ _ _ h.2⟩ | exact ⟨h.1, h.2.1, hY _ _ _ _ h.2.2⟩ | exact ⟨h.1, h.2.1, h.2.2.1, hY _ _ _ _ h.2.2.2⟩ | exact ⟨h.1, fun z => hY _ _ _ _ (h.2.1 z), fun z => hY _ _ _ _ (h.2.2 z)⟩ | exact ⟨h.1, h.2.1, fun z => hY _ _ _ _ (h.2.2.1 z), fun z => hY _ _ _ _ (h.2.2.2 z)⟩ | exact ⟨h.1, fun z => hY _ _ _ _ (h.2.1 z), fun z => hY _ _ _ _ (h.2.2.1 z), fun z => hY _ _ _ _ (h.2.2.2 z)⟩)
theorem m_ldiv  : FMono (f_ldiv) := by
  intro C hC d Q Y Y' hY pc ls st M h
  unfold f_ldiv at h ⊢
  first
    | exact h
    | exact hY _ _ _ _ h
    | (split at h <;> first | exact h.elim | exact hY _ _ _ _ h | exact ⟨h.1, hY _ _ _ _ h.2⟩ | exact ⟨h.1, h.2.1, hY _ _ _ _ h.2.2⟩ | exact ⟨h.1, h.2.1, h.2.2.1, hY _ _ _ _ h.2.2.2⟩ | exact ⟨h.1, fun z => hY _ _ _ _ (h.2.1 z), fun z => hY _ _ _ _ (h.2.2 z)⟩ | exact ⟨h.1, h.2.1, fun z => hY _ _ _ _ (h.2.2.1 z), fun z => hY _ _ _ _ (h.2.2.2 z)⟩ | exact ⟨h.1, fun z => hY _ _ _ _ (h.2.1 z), fun z => hY _ _ _ _ (h.2.2.1 z), fun z => hY _ _ _ _ (h.2.2.2 z)⟩)
theorem m_lcmp  : FMono (f_lcmp) := by
  intro C hC d Q Y Y' hY pc ls st M h
  unfold f_lcmp at h ⊢
  first
    | exact h
    | exact hY _ _ _ _ h
    | (split at h <;> first | exact h.elim | exact hY _ _ _ _ h | exact ⟨h.1, hY _ _ _ _ h.2⟩ | exact ⟨h.1, h.2.1, hY _ _ _ _ h.2.2⟩ | exact ⟨h.1, h.2.1, h.2.2.1, hY _ _ _ _ h.2.2.2⟩ | exact ⟨h.1, fun z => hY _ _ _ _ (h.2.1 z), fun z => hY _ _ _ _ (h.2.2 z)⟩ | exact ⟨h.1, h.2.1, fun z => hY _ _ _ _ (h.2.2.1 z), fun z => hY _ _ _ _ (h.2.2.2 z)⟩ | exact ⟨h.1, fun z => hY _ _ _ _ (h.2.1 z), fun z => hY _ _ _ _ (h.2.2.1 z), fun z => hY _ _ _ _ (h.2.2.2 z)⟩)
theorem m_i2l  : FMono (f_i2l) := by
  intro C hC d Q Y Y' hY pc ls st M h
  unfold f_i2l at h ⊢
  first
    | exact h
    | exact hY _ _ _ _ h
    | (split at h <;> first | exact h.elim | exact hY _ _ _ _ h | exact ⟨h.1, hY _ _ _ _ h.2⟩ | exact ⟨h.1, h.2.1, hY _ _ _ _ h.2.2⟩ | exact ⟨h.1, h.2.1, h.2.2.1, hY _ _ _ _ h.2.2.2⟩ | exact ⟨h.1, fun z => hY _ _ _ _ (h.2.1 z), fun z => hY _ _ _ _ (h.2.2 z)⟩ | exact ⟨h.1, h.2.1, fun z => hY _ _ _ _ (h.2.2.1 z), fun z => hY _ _ _ _ (h.2.2.2 z)⟩ | exact ⟨h.1, fun z => hY _ _ _ _ (h.2.1 z), fun z => hY _ _ _ _ (h.2.2.1 z), fun z => hY _ _ _ _ (h.2.2.2 z)⟩)
theorem m_dup  : FMono (f_dup) := by
  intro C hC d Q Y Y' hY pc ls st M h
  unfold f_dup at h ⊢
  first
    | exact h
    | exact hY _ _ _ _ h
    | (split at h <;> first | exact h.elim | exact hY _ _ _ _ h | exact ⟨h.1, hY _ _ _ _ h.2⟩ | exact ⟨h.1, h.2.1, hY _ _ _ _ h.2.2⟩ | exact ⟨h.1, h.2.1, h.2.2.1, hY _ _ _ _ h.2.2.2⟩ | exact ⟨h.1, fun z => hY _ _ _ _ (h.2.1 z), fun z => hY _ _ _ _ (h.2.2 z)⟩ | exact ⟨h.1, h.2.1, fun z => hY _ _ _ _ (h.2.2.1 z), fun z => hY _ _ _ _ (h.2.2.2 z)⟩ | exact ⟨h.1, fun z => hY _ _ _ _ (h.2.1 z), fun z => hY _ _ _ _ (h.2.2.1 z), fun z => hY _ _ _ _ (h.2.2.2 z)⟩)
theorem m_dup2  : FMono (f_dup2) := by
  intro C hC d Q Y Y' hY pc ls st M h
  unfold f_dup2 at h ⊢
  first
    | exact h
    | exact hY _ _ _ _ h
    | (split at h <;> first | exact h.elim | exact hY _ _ _ _ h | exact ⟨h.1, hY _ _ _ _ h.2⟩ | exact ⟨h.1, h.2.1, hY _ _ _ _ h.2.2⟩ | exact ⟨h.1, h.2.1, h.2.2.1, hY _ _ _ _ h.2.2.2⟩ | exact ⟨h.1, fun z => hY _ _ _ _ (h.2.1 z), fun z => hY _ _ _ _ (h.2.2 z)⟩ | exact ⟨h.1, h.2.1, fun z => hY _ _ _ _ (h.2.2.1 z), fun z => hY _ _ _ _ (h.2.2.2 z)⟩ | exact ⟨h.1, fun z => hY _ _ _ _ (h.2.1 z), fun z => hY _ _ _ _ (h.2.2.1 z), fun z => hY _ _ _ _ (h.2.2.2 z)⟩)
theorem m_pop  : FMono (f_pop) := by
  intro C hC d Q Y Y' hY pc ls st M h
  unfold f_pop at h ⊢
  first
    | exact h
    | exact hY _ _ _ _ h
    | (split at h <;> first | exact h.elim | exact hY _ _ _ _ h | exact ⟨h.1, hY _ _ _ _ h.2⟩ | exact ⟨h.1, h.2.1, hY _ _ _ _ h.2.2⟩ | exact ⟨h.1, h.2.1, h.2.2.1, hY _ _ _ _ h.2.2.2⟩ | exact ⟨h.1, fun z => hY _ _ _ _ (h.2.1 z), fun z => hY _ _ _ _ (h.2.2 z)⟩ | exact ⟨h.1, h.2.1, fun z => hY _ _ _ _ (h.2.2.1 z), fun z => hY _ _ _ _ (h.2.2.2 z)⟩ | exact ⟨h.1, fun z => hY _ _ _ _ (h.2.1 z), fun z => hY _ _ _ _ (h.2.2.1 z), fun z => hY _ _ _ _ (h.2.2.2 z)⟩)
theorem m_if0 (ct cf : Int → Int → Prop) (tgt : Nat) : FMono (f_if0 ct cf tgt) := by
  intro C hC d Q Y Y' hY pc ls st M h
  unfold f_if0 at h ⊢
  first
    | exact h
    | exact hY _ _ _ _ h
    | (split at h <;> first | exact h.elim | exact hY _ _ _ _ h | exact ⟨h.1, hY _ _ _ _ h.2⟩ | exact ⟨h.1, h.2.1, hY _ _ _ _ h.2.2⟩ | exact ⟨h.1, h.2.1, h.2.2.1, hY _ _ _ _ h.2.2.2⟩ | exact ⟨h.1, fun z => hY _ _ _ _ (h.2.1 z), fun z => hY _ _ _ _ (h.2.2 z)⟩ | exact ⟨h.1, h.2.1, fun z => hY _ _ _ _ (h.2.2.1 z), fun z => hY _ _ _ _ (h.2.2.2 z)⟩ | exact ⟨h.1, fun z => hY _ _ _ _ (h.2.1 z), fun z => hY _ _ _ _ (h.2.2.1 z), fun z => hY _ _ _ _ (h.2.2.2 z)⟩)
theorem m_icmp (ct cf : Int → Int → Prop) (tgt : Nat) : FMono (f_icmp ct cf tgt) := by
  intro C hC d Q Y Y' hY pc ls st M h
  unfold f_icmp at h ⊢
  first
    | exact h
    | exact hY _ _ _ _ h
    | (split at h <;> first | exact h.elim | exact hY _ _ _ _ h | exact ⟨h.1, hY _ _ _ _ h.2⟩ | exact ⟨h.1, h.2.1, hY _ _ _ _ h.2.2⟩ | exact ⟨h.1, h.2.1, h.2.2.1, hY _ _ _ _ h.2.2.2⟩ | exact ⟨h.1, fun z => hY _ _ _ _ (h.2.1 z), fun z => hY _ _ _ _ (h.2.2 z)⟩ | exact ⟨h.1, h.2.1, fun z => hY _ _ _ _ (h.2.2.1 z), fun z => hY _ _ _ _ (h.2.2.2 z)⟩ | exact ⟨h.1, fun z => hY _ _ _ _ (h.2.1 z), fun z => hY _ _ _ _ (h.2.2.1 z), fun z => hY _ _ _ _ (h.2.2.2 z)⟩)
theorem m_goto (tgt : Nat) : FMono (f_goto tgt) := by
  intro C hC d Q Y Y' hY pc ls st M h
  unfold f_goto at h ⊢
  first
    | exact h
    | exact hY _ _ _ _ h
    | (split at h <;> first | exact h.elim | exact hY _ _ _ _ h | exact ⟨h.1, hY _ _ _ _ h.2⟩ | exact ⟨h.1, h.2.1, hY _ _ _ _ h.2.2⟩ | exact ⟨h.1, h.2.1, h.2.2.1, hY _ _ _ _ h.2.2.2⟩ | exact ⟨h.1, fun z => hY _ _ _ _ (h.2.1 z), fun z => hY _ _ _ _ (h.2.2 z)⟩ | exact ⟨h.1, h.2.1, fun z => hY _ _ _ _ (h.2.2.1 z), fun z => hY _ _ _ _ (h.2.2.2 z)⟩ | exact ⟨h.1, fun z => hY _ _ _ _ (h.2.1 z), fun z => hY _ _ _ _ (h.2.2.1 z), fun z => hY _ _ _ _ (h.2.2.2 z)⟩)
theorem m_getI (ci k : Nat) : FMono (f_getI ci k) := by
  intro C hC d Q Y Y' hY pc ls st M h
  unfold f_getI at h ⊢
  first
    | exact h
    | exact hY _ _ _ _ h
    | (split at h <;> first | exact h.elim | exact hY _ _ _ _ h | exact ⟨h.1, hY _ _ _ _ h.2⟩ | exact ⟨h.1, h.2.1, hY _ _ _ _ h.2.2⟩ | exact ⟨h.1, h.2.1, h.2.2.1, hY _ _ _ _ h.2.2.2⟩ | exact ⟨h.1, fun z => hY _ _ _ _ (h.2.1 z), fun z => hY _ _ _ _ (h.2.2 z)⟩ | exact ⟨h.1, h.2.1, fun z => hY _ _ _ _ (h.2.2.1 z), fun z => hY _ _ _ _ (h.2.2.2 z)⟩ | exact ⟨h.1, fun z => hY _ _ _ _ (h.2.1 z), fun z => hY _ _ _ _ (h.2.2.1 z), fun z => hY _ _ _ _ (h.2.2.2 z)⟩)
theorem m_getR (ci k : Nat) (tg : Nat → Nat) : FMono (f_getR ci k tg) := by
  intro C hC d Q Y Y' hY pc ls st M h
  unfold f_getR at h ⊢
  first
    | exact h
    | exact hY _ _ _ _ h
    | (split at h <;> first | exact h.elim | exact hY _ _ _ _ h | exact ⟨h.1, hY _ _ _ _ h.2⟩ | exact ⟨h.1, h.2.1, hY _ _ _ _ h.2.2⟩ | exact ⟨h.1, h.2.1, h.2.2.1, hY _ _ _ _ h.2.2.2⟩ | exact ⟨h.1, fun z => hY _ _ _ _ (h.2.1 z), fun z => hY _ _ _ _ (h.2.2 z)⟩ | exact ⟨h.1, h.2.1, fun z => hY _ _ _ _ (h.2.2.1 z), fun z => hY _ _ _ _ (h.2.2.2 z)⟩ | exact ⟨h.1, fun z => hY _ _ _ _ (h.2.1 z), fun z => hY _ _ _ _ (h.2.2.1 z), fun z => hY _ _ _ _ (h.2.2.2 z)⟩)
theorem m_putI (ci k : Nat) : FMono (f_putI ci k) := by
  intro C hC d Q Y Y' hY pc ls st M h
  unfold f_putI at h ⊢
  first
    | exact h
    | exact hY _ _ _ _ h
    | (split at h <;> first | exact h.elim | exact hY _ _ _ _ h | exact ⟨h.1, hY _ _ _ _ h.2⟩ | exact ⟨h.1, h.2.1, hY _ _ _ _ h.2.2⟩ | exact ⟨h.1, h.2.1, h.2.2.1, hY _ _ _ _ h.2.2.2⟩ | exact ⟨h.1, fun z => hY _ _ _ _ (h.2.1 z), fun z => hY _ _ _ _ (h.2.2 z)⟩ | exact ⟨h.1, h.2.1, fun z => hY _ _ _ _ (h.2.2.1 z), fun z => hY _ _ _ _ (h.2.2.2 z)⟩ | exact ⟨h.1, fun z => hY _ _ _ _ (h.2.1 z), fun z => hY _ _ _ _ (h.2.2.1 z), fun z => hY _ _ _ _ (h.2.2.2 z)⟩)
theorem m_putZ (ci k : Nat) : FMono (f_putZ ci k) := by
  intro C hC d Q Y Y' hY pc ls st M h
  unfold f_putZ at h ⊢
  first
    | exact h
    | exact hY _ _ _ _ h
    | (split at h <;> first | exact h.elim | exact hY _ _ _ _ h | exact ⟨h.1, hY _ _ _ _ h.2⟩ | exact ⟨h.1, h.2.1, hY _ _ _ _ h.2.2⟩ | exact ⟨h.1, h.2.1, h.2.2.1, hY _ _ _ _ h.2.2.2⟩ | exact ⟨h.1, fun z => hY _ _ _ _ (h.2.1 z), fun z => hY _ _ _ _ (h.2.2 z)⟩ | exact ⟨h.1, h.2.1, fun z => hY _ _ _ _ (h.2.2.1 z), fun z => hY _ _ _ _ (h.2.2.2 z)⟩ | exact ⟨h.1, fun z => hY _ _ _ _ (h.2.1 z), fun z => hY _ _ _ _ (h.2.2.1 z), fun z => hY _ _ _ _ (h.2.2.2 z)⟩)
theorem m_iald  : FMono (f_iald) := by
  intro C hC d Q Y Y' hY pc ls st M h
  unfold f_iald at h ⊢
  first
    | exact h
    | exact hY _ _ _ _ h
    | (split at h <;> first | exact h.elim | exact hY _ _ _ _ h | exact ⟨h.1, hY _ _ _ _ h.2⟩ | exact ⟨h.1, h.2.1, hY _ _ _ _ h.2.2⟩ | exact ⟨h.1, h.2.1, h.2.2.1, hY _ _ _ _ h.2.2.2⟩ | exact ⟨h.1, fun z => hY _ _ _ _ (h.2.1 z), fun z => hY _ _ _ _ (h.2.2 z)⟩ | exact ⟨h.1, h.2.1, fun z => hY _ _ _ _ (h.2.2.1 z), fun z => hY _ _ _ _ (h.2.2.2 z)⟩ | exact ⟨h.1, fun z => hY _ _ _ _ (h.2.1 z), fun z => hY _ _ _ _ (h.2.2.1 z), fun z => hY _ _ _ _ (h.2.2.2 z)⟩)
theorem m_zald  : FMono (f_zald) := by
  intro C hC d Q Y Y' hY pc ls st M h
  unfold f_zald at h ⊢
  first
    | exact h
    | exact hY _ _ _ _ h
    | (split at h <;> first | exact h.elim | exact hY _ _ _ _ h | exact ⟨h.1, hY _ _ _ _ h.2⟩ | exact ⟨h.1, h.2.1, hY _ _ _ _ h.2.2⟩ | exact ⟨h.1, h.2.1, h.2.2.1, hY _ _ _ _ h.2.2.2⟩ | exact ⟨h.1, fun z => hY _ _ _ _ (h.2.1 z), fun z => hY _ _ _ _ (h.2.2 z)⟩ | exact ⟨h.1, h.2.1, fun z => hY _ _ _ _ (h.2.2.1 z), fun z => hY _ _ _ _ (h.2.2.2 z)⟩ | exact ⟨h.1, fun z => hY _ _ _ _ (h.2.1 z), fun z => hY _ _ _ _ (h.2.2.1 z), fun z => hY _ _ _ _ (h.2.2.2 z)⟩)
theorem m_iast  : FMono (f_iast) := by
  intro C hC d Q Y Y' hY pc ls st M h
  unfold f_iast at h ⊢
  first
    | exact h
    | exact hY _ _ _ _ h
    | (split at h <;> first | exact h.elim | exact hY _ _ _ _ h | exact ⟨h.1, hY _ _ _ _ h.2⟩ | exact ⟨h.1, h.2.1, hY _ _ _ _ h.2.2⟩ | exact ⟨h.1, h.2.1, h.2.2.1, hY _ _ _ _ h.2.2.2⟩ | exact ⟨h.1, fun z => hY _ _ _ _ (h.2.1 z), fun z => hY _ _ _ _ (h.2.2 z)⟩ | exact ⟨h.1, h.2.1, fun z => hY _ _ _ _ (h.2.2.1 z), fun z => hY _ _ _ _ (h.2.2.2 z)⟩ | exact ⟨h.1, fun z => hY _ _ _ _ (h.2.1 z), fun z => hY _ _ _ _ (h.2.2.1 z), fun z => hY _ _ _ _ (h.2.2.2 z)⟩)
theorem m_zast  : FMono (f_zast) := by
  intro C hC d Q Y Y' hY pc ls st M h
  unfold f_zast at h ⊢
  first
    | exact h
    | exact hY _ _ _ _ h
    | (split at h <;> first | exact h.elim | exact hY _ _ _ _ h | exact ⟨h.1, hY _ _ _ _ h.2⟩ | exact ⟨h.1, h.2.1, hY _ _ _ _ h.2.2⟩ | exact ⟨h.1, h.2.1, h.2.2.1, hY _ _ _ _ h.2.2.2⟩ | exact ⟨h.1, fun z => hY _ _ _ _ (h.2.1 z), fun z => hY _ _ _ _ (h.2.2 z)⟩ | exact ⟨h.1, h.2.1, fun z => hY _ _ _ _ (h.2.2.1 z), fun z => hY _ _ _ _ (h.2.2.2 z)⟩ | exact ⟨h.1, fun z => hY _ _ _ _ (h.2.1 z), fun z => hY _ _ _ _ (h.2.2.1 z), fun z => hY _ _ _ _ (h.2.2.2 z)⟩)
theorem m_aald  : FMono (f_aald) := by
  intro C hC d Q Y Y' hY pc ls st M h
  unfold f_aald at h ⊢
  first
    | exact h
    | exact hY _ _ _ _ h
    | (split at h <;> first | exact h.elim | exact hY _ _ _ _ h | exact ⟨h.1, hY _ _ _ _ h.2⟩ | exact ⟨h.1, h.2.1, hY _ _ _ _ h.2.2⟩ | exact ⟨h.1, h.2.1, h.2.2.1, hY _ _ _ _ h.2.2.2⟩ | exact ⟨h.1, fun z => hY _ _ _ _ (h.2.1 z), fun z => hY _ _ _ _ (h.2.2 z)⟩ | exact ⟨h.1, h.2.1, fun z => hY _ _ _ _ (h.2.2.1 z), fun z => hY _ _ _ _ (h.2.2.2 z)⟩ | exact ⟨h.1, fun z => hY _ _ _ _ (h.2.1 z), fun z => hY _ _ _ _ (h.2.2.1 z), fun z => hY _ _ _ _ (h.2.2.2 z)⟩)
theorem m_iret  : FMono (f_iret) := by
  intro C hC d Q Y Y' hY pc ls st M h
  unfold f_iret at h ⊢
  first
    | exact h
    | exact hY _ _ _ _ h
    | (split at h <;> first | exact h.elim | exact hY _ _ _ _ h | exact ⟨h.1, hY _ _ _ _ h.2⟩ | exact ⟨h.1, h.2.1, hY _ _ _ _ h.2.2⟩ | exact ⟨h.1, h.2.1, h.2.2.1, hY _ _ _ _ h.2.2.2⟩ | exact ⟨h.1, fun z => hY _ _ _ _ (h.2.1 z), fun z => hY _ _ _ _ (h.2.2 z)⟩ | exact ⟨h.1, h.2.1, fun z => hY _ _ _ _ (h.2.2.1 z), fun z => hY _ _ _ _ (h.2.2.2 z)⟩ | exact ⟨h.1, fun z => hY _ _ _ _ (h.2.1 z), fun z => hY _ _ _ _ (h.2.2.1 z), fun z => hY _ _ _ _ (h.2.2.2 z)⟩)
theorem m_zret  : FMono (f_zret) := by
  intro C hC d Q Y Y' hY pc ls st M h
  unfold f_zret at h ⊢
  first
    | exact h
    | exact hY _ _ _ _ h
    | (split at h <;> first | exact h.elim | exact hY _ _ _ _ h | exact ⟨h.1, hY _ _ _ _ h.2⟩ | exact ⟨h.1, h.2.1, hY _ _ _ _ h.2.2⟩ | exact ⟨h.1, h.2.1, h.2.2.1, hY _ _ _ _ h.2.2.2⟩ | exact ⟨h.1, fun z => hY _ _ _ _ (h.2.1 z), fun z => hY _ _ _ _ (h.2.2 z)⟩ | exact ⟨h.1, h.2.1, fun z => hY _ _ _ _ (h.2.2.1 z), fun z => hY _ _ _ _ (h.2.2.2 z)⟩ | exact ⟨h.1, fun z => hY _ _ _ _ (h.2.1 z), fun z => hY _ _ _ _ (h.2.2.1 z), fun z => hY _ _ _ _ (h.2.2.2 z)⟩)
theorem m_lret  : FMono (f_lret) := by
  intro C hC d Q Y Y' hY pc ls st M h
  unfold f_lret at h ⊢
  first
    | exact h
    | exact hY _ _ _ _ h
    | (split at h <;> first | exact h.elim | exact hY _ _ _ _ h | exact ⟨h.1, hY _ _ _ _ h.2⟩ | exact ⟨h.1, h.2.1, hY _ _ _ _ h.2.2⟩ | exact ⟨h.1, h.2.1, h.2.2.1, hY _ _ _ _ h.2.2.2⟩ | exact ⟨h.1, fun z => hY _ _ _ _ (h.2.1 z), fun z => hY _ _ _ _ (h.2.2 z)⟩ | exact ⟨h.1, h.2.1, fun z => hY _ _ _ _ (h.2.2.1 z), fun z => hY _ _ _ _ (h.2.2.2 z)⟩ | exact ⟨h.1, fun z => hY _ _ _ _ (h.2.1 z), fun z => hY _ _ _ _ (h.2.2.1 z), fun z => hY _ _ _ _ (h.2.2.2 z)⟩)
theorem m_vret  : FMono (f_vret) := by
  intro C hC d Q Y Y' hY pc ls st M h
  unfold f_vret at h ⊢
  first
    | exact h
    | exact hY _ _ _ _ h
    | (split at h <;> first | exact h.elim | exact hY _ _ _ _ h | exact ⟨h.1, hY _ _ _ _ h.2⟩ | exact ⟨h.1, h.2.1, hY _ _ _ _ h.2.2⟩ | exact ⟨h.1, h.2.1, h.2.2.1, hY _ _ _ _ h.2.2.2⟩ | exact ⟨h.1, fun z => hY _ _ _ _ (h.2.1 z), fun z => hY _ _ _ _ (h.2.2 z)⟩ | exact ⟨h.1, h.2.1, fun z => hY _ _ _ _ (h.2.2.1 z), fun z => hY _ _ _ _ (h.2.2.2 z)⟩ | exact ⟨h.1, fun z => hY _ _ _ _ (h.2.1 z), fun z => hY _ _ _ _ (h.2.2.1 z), fun z => hY _ _ _ _ (h.2.2.2 z)⟩)
theorem m_lsw2 (a b : Int) (ta tb dflt : Nat) : FMono (f_lsw2 a b ta tb dflt) := by
  intro C hC d Q Y Y' hY pc ls st M h
  unfold f_lsw2 at h ⊢
  first
    | exact h
    | exact hY _ _ _ _ h
    | (split at h <;> first | exact h.elim | exact hY _ _ _ _ h | exact ⟨h.1, hY _ _ _ _ h.2⟩ | exact ⟨h.1, h.2.1, hY _ _ _ _ h.2.2⟩ | exact ⟨h.1, h.2.1, h.2.2.1, hY _ _ _ _ h.2.2.2⟩ | exact ⟨h.1, fun z => hY _ _ _ _ (h.2.1 z), fun z => hY _ _ _ _ (h.2.2 z)⟩ | exact ⟨h.1, h.2.1, fun z => hY _ _ _ _ (h.2.2.1 z), fun z => hY _ _ _ _ (h.2.2.2 z)⟩ | exact ⟨h.1, fun z => hY _ _ _ _ (h.2.1 z), fun z => hY _ _ _ _ (h.2.2.1 z), fun z => hY _ _ _ _ (h.2.2.2 z)⟩)
theorem swL.mono {x : Int} {Y Y' : Nat → Prop} (hY : ∀ t, Y t → Y' t) : ∀ (v : Int) (ts : List Nat), swL x Y v ts → swL x Y' v ts
  | _, [], h => h
  | v, _ :: ts, h => ⟨fun e => hY _ (h.1 e), swL.mono hY (v + 1) ts h.2⟩
theorem m_tsw (lo hi : Int) (ts : List Nat) (dflt : Nat) : FMono (f_tsw lo hi ts dflt) := by
  intro C hC d Q Y Y' hY pc ls st M h
  unfold f_tsw at h ⊢
  split at h <;> first | exact h.elim | exact ⟨h.1, fun z => hY _ _ _ _ (h.2.1 z), swL.mono (fun t => hY _ _ _ _) _ _ h.2.2⟩
theorem m_callS (k n : Nat) : FMono (f_callS k n) := by
  intro C hC d Q Y Y' hY pc ls st M h
  unfold f_callS at h ⊢
  cases d with
  | zero => exact h
  | succ d => exact ⟨h.1, hC _ _ _ _ _ _ (fun r M2 z => hY _ _ _ _ z) h.2⟩
theorem m_callV (ci k n : Nat) : FMono (f_callV ci k n) := by
  intro C hC d Q Y Y' hY pc ls st M h
  unfold f_callV at h ⊢
  cases d with
  | zero => exact h
  | succ d =>
    refine ⟨h.1, ?_⟩
    have h2 := h.2
    try dsimp only at h2 ⊢
    split at h2
    · exact ⟨h2.1, hC _ _ _ _ _ _ (fun r M2 z => hY _ _ _ _ z) h2.2⟩
    · exact h2.elim
end
section
/-! THE WORLD: the cells of the system, as a function of the small machine's memory; an instruction's row -/
abbrev iN (x : Int) : Int32 := Int32.ofInt x
abbrev lI (x : Int) : Int64 := Int64.ofInt x
def toV (L : Nat → Nat) : tV → Value
  | .inl x => .int (iN x)
  | .inr (.inl i) => .ref (L i)
  | .inr (.inr x) => .long (lI x)
def flds (L : Nat → Nat) (ci i : Nat) (f : Nat → Int) : List Value := match ci with
  | 0 => [.ref (L 10), .ref (L 11), .int (iN (f 2))]
  | 1 => [.ref (L 2), .ref (L 3)]
  | 2 => [.int (iN (f 0)), .int (iN (f 1)), .ref (L 1), .int (iN (f 3)), .ref (L 5), .ref (L 6), .ref (L 7), .ref (L 8)]
  | 3 => [.int (iN (f 0)), .int (iN (f 1)), .ref (L (i + 24)), .ref (L (i + 48)), .int (iN (f 4))]
  | 4 => [.ref (L 1), .ref (L 4), .ref (L 9), .ref (L 12), .ref (L 13), .int (iN (f 5))]
  | _ => [.int (iN (f 0)), .int (iN (f 1)), .int (iN (f 2)), .int (iN (f 3)), .ref (L 87), .ref (L 88), .ref (L 89), .ref (L 90), .ref (L 91), .ref (L 92), .int (iN (f 10)), .ref (L 93), .ref (L 94), .ref (L 95), .int (iN (f 14)), .ref (L 96), .ref (L 97), .ref (L 98), .ref (L 99), .ref (L 100)]
def cE (L : Nat → Nat) (cI cZ cR : ClassId) (i : Nat) (f : Nat → Int) : va_E :=
  if clsOf i = 9 then (if i = 12 then .inl (cR, 24, .inr (.inr (.inr (.inr (fun j => some (L (14 + j))))))) else if i = 89 then .inl (cZ, 24, .inl (fun j => iN (f j))) else .inl (cI, (alen i).toNat, .inl (fun j => iN (f j))))
  else .inr (clsOf i, flds L (clsOf i) i f)
def wW (L : Nat → Nat) (cI cZ cR : ClassId) (M : tM) : va_W := (List.range 101).map (fun i => (L i, cE L cI cZ cR i (M i)))
abbrev tyL (cI cZ cR : ClassId) : List (ClassId × FieldType) := [(cI, .int), (cZ, .boolean), (cR, .object "RowFinder$Row")]
abbrev vwCl : List vw_C := [(RX0, TX0, 3), (RX1, TX1, 2), (RX2, TX2, 8), (RX4, TX4, 5), (RX5, TX5, 6), (RX6, TX6, 20)]
def TB : List Cond := lw_tbl.filter goodWord
theorem TB.mem {w : Cond} (h : w ∈ lw_tbl) (g : goodWord w = true) : w ∈ TB := List.mem_filter.mpr ⟨h, g⟩
theorem TB.good {ws : List Cond} (h : ∀ w ∈ ws, w ∈ TB) : GoodIn TB ws := fun w hw => ⟨h w hw, good_of_word (List.mem_filter.mp (h w hw)).2⟩
abbrev AL (L : Nat → Nat) : Nat → Prop := fun q => ∃ i, i < 101 ∧ L i = q
def iL (L : Nat → Nat) : Prop := ∀ i j, i < 101 → j < 101 → L i = L j → i = j
/-! pure rows -/
theorem wW.at {L : Nat → Nat} {cI cZ cR : ClassId} {M : tM} {i : Nat} (h : i < 101) : (wW L cI cZ cR M)[i]? = some (L i, cE L cI cZ cR i (M i)) := by
  unfold wW
  rw [List.getElem?_map, List.getElem?_range h]
  rfl
theorem wW.len {L : Nat → Nat} {cI cZ cR : ClassId} {M : tM} : (wW L cI cZ cR M).length = 101 := by
  unfold wW
  rw [List.length_map, List.length_range]
theorem wW.of {L : Nat → Nat} {cI cZ cR : ClassId} {M : tM} {k : Nat} {q : Nat × va_E} (h : (wW L cI cZ cR M)[k]? = some q) : k < 101 ∧ q = (L k, cE L cI cZ cR k (M k)) := by
  have h1 : k < 101 := by
    have := (List.getElem?_eq_some_iff.mp h).1
    rwa [wW.len] at this
  rw [wW.at h1] at h
  exact ⟨h1, (Option.some.inj h).symm⟩
theorem wW.D {L : Nat → Nat} {cI cZ cR : ClassId} {M : tM} {A : Nat → Prop} (hi : iL L) (hA : ∀ i, i < 101 → A (L i)) : va_D A (wW L cI cZ cR M) := by
  refine ⟨fun i j x y hx hy hxy => ?_, fun k q hk => ?_⟩
  · obtain ⟨h1, rfl⟩ := wW.of hx
    obtain ⟨h2, rfl⟩ := wW.of hy
    exact hi i j h1 h2 hxy
  · obtain ⟨h1, rfl⟩ := wW.of hk
    exact hA k h1
theorem wW.set {L : Nat → Nat} {cI cZ cR : ClassId} {M M2 : tM} {i : Nat} (h : i < 101) (ho : ∀ a, a ≠ i → M2 a = M a) : (wW L cI cZ cR M).set i (L i, cE L cI cZ cR i (M2 i)) = wW L cI cZ cR M2 := by
  apply List.ext_getElem?
  intro k
  by_cases hk : k = i
  · subst hk
    rw [List.getElem?_set_self (by rw [wW.len]; exact h), wW.at h]
  · rw [List.getElem?_set_ne (Ne.symm hk)]
    by_cases h2 : k < 101
    · rw [wW.at h2, wW.at h2, ho k hk]
    · rw [List.getElem?_eq_none (by rw [wW.len]; omega), List.getElem?_eq_none (by rw [wW.len]; omega)]
theorem upM_o {M : tM} {i j : Nat} {x : Int} {a : Nat} (h : a ≠ i) : upM M i j x a = M a := by
  funext b
  simp [upM, h]
theorem upM_i {M : tM} {i j : Nat} {x : Int} {b : Nat} : upM M i j x i b = if b = j then x else M i b := by
  simp [upM]
theorem clsOf_lt {i ci : Nat} (h : clsOf i = ci) (h9 : ci ≠ 9) : i < 101 := by
  refine Nat.lt_of_not_le fun hh => h9 (h ▸ ?_)
  unfold clsOf
  repeat (first | rw [if_neg (by omega)] | rfl)
theorem clsOf_cE {L : Nat → Nat} {cI cZ cR : ClassId} {i ci : Nat} {f : Nat → Int} (h : clsOf i = ci) (h9 : ci ≠ 9) : cE L cI cZ cR i f = .inr (ci, flds L ci i f) := by
  unfold cE
  rw [if_neg (by rw [h]; exact h9), h]
theorem alen_small : ∀ i, i < 101 → 0 < alen i → clsOf i = 9 ∧ i ≠ 12 ∧ i ≠ 89 ∧ alen i ≤ 8000 := by decide +kernel
theorem alen_big {i : Nat} (h : 101 ≤ i) : alen i = 0 := by
  unfold alen
  repeat (first | rw [if_neg (by omega)] | rfl)
theorem alen_ok {i : Nat} (h : 0 < alen i) : i < 101 ∧ clsOf i = 9 ∧ i ≠ 12 ∧ i ≠ 89 ∧ alen i ≤ 8000 := by
  have h1 : i < 101 := Nat.lt_of_not_le fun hh => by rw [alen_big hh] at h; omega
  exact ⟨h1, alen_small i h1 h⟩
theorem alen_cE {L : Nat → Nat} {cI cZ cR : ClassId} {i : Nat} {f : Nat → Int} (h : 0 < alen i) : cE L cI cZ cR i f = .inl (cI, (alen i).toNat, .inl (fun j => iN (f j))) := by
  obtain ⟨-, h1, h2, h3, -⟩ := alen_ok h
  unfold cE
  rw [if_pos h1, if_neg h2, if_neg h3]
theorem iN_toInt {x : Int} (h : iR x) : (iN x).toInt = x := Int32.toInt_ofInt_of_le h.1 h.2
theorem lI_toInt {x : Int} (h : lR x) : (lI x).toInt = x := Int64.toInt_ofInt_of_le h.1 h.2
theorem iN_lt {x y : Int} (hx : iR x) (hy : iR y) : iN x < iN y ↔ x < y := by rw [Int32.lt_iff_toInt_lt, iN_toInt hx, iN_toInt hy]
theorem iN_le {x y : Int} (hx : iR x) (hy : iR y) : iN x ≤ iN y ↔ x ≤ y := by rw [Int32.le_iff_toInt_le, iN_toInt hx, iN_toInt hy]
theorem iN_eq {x y : Int} (hx : iR x) (hy : iR y) : iN x = iN y ↔ x = y := by rw [← Int32.toInt_inj, iN_toInt hx, iN_toInt hy]
theorem iN_0 : iN 0 = 0 := rfl
theorem iR_0 : iR 0 := by unfold iR; omega
theorem iN_in {x : Int} {n : Nat} (h0 : 0 ≤ x) (h : x < n) (hn : n ≤ 100000) : vp_in (iN x) n ∧ (iN x).toNatClampNeg = x.toNat := by
  have hr : iR x := ⟨by omega, by omega⟩
  refine ⟨vp_in_iff.mpr ?_, ?_⟩
  · rw [iN_toInt hr]
    exact ⟨h0, h⟩
  · show (iN x).toInt.toNat = _
    rw [iN_toInt hr]
theorem iN_of (x : Int32) : iN x.toInt = x := Int32.ofInt_toInt x
theorem iN_rt (x : Int32) : iR x.toInt := ⟨by have := x.le_toInt; omega, by have := x.toInt_lt; omega⟩
theorem bAnd_iN (x y : Int) : iN (bAnd x y) = iN x &&& iN y := iN_of _
theorem bOr_iN (x y : Int) : iN (bOr x y) = iN x ||| iN y := iN_of _
theorem bXor_iN (x y : Int) : iN (bXor x y) = iN x ^^^ iN y := iN_of _
theorem nI_iN (n : Nat) : nI n = iN (n : Int) := by
  unfold nI
  exact (Int32.ofInt_eq_ofNat).symm
theorem sh_cnt : ∀ n : Nat, n < 32 → ((iN (n : Int) &&& 31).toBitVec.smod 32).toNat = n := by decide +kernel
theorem ush_cnt : ∀ n : Nat, n < 32 → (((iN (n : Int)).toUInt32 &&& Int32.toUInt32 31).toBitVec % 32).toNat = n := by decide +kernel
theorem iN_shl {x y : Int} (h : 0 ≤ y ∧ y < 32) : iN x <<< (iN y &&& 31) = iN (x * 2 ^ y.toNat) := by
  obtain ⟨n, rfl⟩ : ∃ n : Nat, y = n := ⟨y.toNat, by omega⟩
  have hn : n < 32 := by omega
  have e := pk_shl (iN x) (iN (n : Int) &&& 31) n (sh_cnt n hn)
  rw [Int.toNat_natCast]
  show _ = Int32.ofInt (x * 2 ^ n)
  rw [Int32.ofInt_mul]
  apply Int32.toBitVec_inj.mp
  apply BitVec.eq_of_toNat_eq
  rw [e, Int32.toBitVec_mul, BitVec.toNat_mul]
  have e2 : (iN ((2 : Int) ^ n)).toBitVec.toNat = 2 ^ n % 2 ^ 32 := by
    have : ((2 : Int) ^ n) = ((2 ^ n : Nat) : Int) := by rw [Int.natCast_pow]; rfl
    rw [this, ← nI_iN]
    show (BitVec.ofNat 32 (2 ^ n)).toNat = _
    rw [BitVec.toNat_ofNat]
  rw [e2, Nat.mul_mod_mod]
theorem iN_shr {x y : Int} (hx : iR x) (h : 0 ≤ y ∧ y < 32) : iN x >>> (iN y &&& 31) = iN (x / 2 ^ y.toNat) := by
  obtain ⟨n, rfl⟩ : ∃ n : Nat, y = n := ⟨y.toNat, by omega⟩
  have hn : n < 32 := by omega
  have e := pk_shr (iN x) (iN (n : Int) &&& 31) n (sh_cnt n hn)
  rw [iN_toInt hx, Int.shiftRight_eq_div_pow] at e
  rw [Int.toNat_natCast]
  apply Int32.toInt_inj.mp
  have hp : (0 : Int) < 2 ^ n := Int.pow_pos (by omega)
  have hq : (((2 ^ n : Nat)) : Int) = 2 ^ n := by rw [Int.natCast_pow]; rfl
  rw [hq] at e
  rw [e, iN_toInt]
  have hp1 : (1 : Int) ≤ 2 ^ n := hp
  refine ⟨?_, ?_⟩
  · apply Int.le_ediv_of_mul_le hp
    have := hx.1
    have h3 : (-2147483648 : Int) * 2 ^ n ≤ -2147483648 * 1 := Int.mul_le_mul_of_nonpos_left (by omega) hp1
    omega
  · apply Int.ediv_lt_of_lt_mul hp
    have := hx.2
    have h3 : (2147483648 : Int) * 1 ≤ 2147483648 * 2 ^ n := Int.mul_le_mul_of_nonneg_left hp1 (by omega)
    omega
theorem iN_ushr {x y : Int} (hx : 0 ≤ x ∧ x < 2147483648) (h : 0 ≤ y ∧ y < 32) : ((iN x).toUInt32 >>> ((iN y).toUInt32 &&& Int32.toUInt32 31)).toInt32 = iN (x / 2 ^ y.toNat) := by
  obtain ⟨n, rfl⟩ : ∃ n : Nat, y = n := ⟨y.toNat, by omega⟩
  obtain ⟨k, rfl⟩ : ∃ k : Nat, x = k := ⟨x.toNat, by omega⟩
  have hn : n < 32 := by omega
  rw [← nI_iN k, pk_ushrN (by omega) (iN (n : Int)) n (ush_cnt n hn), nI_iN, Int.toNat_natCast]
  congr 1
theorem iN_div {x y : Int} (hx : 0 ≤ x ∧ x < 2147483648) (hy : 0 < y ∧ y < 2147483648) : iN x / iN y = iN (x / y) := by
  obtain ⟨a, rfl⟩ : ∃ n : Nat, x = n := ⟨x.toNat, by omega⟩
  obtain ⟨b, rfl⟩ : ∃ n : Nat, y = n := ⟨y.toNat, by omega⟩
  rw [← nI_iN, ← nI_iN, pk_div (by omega) (by omega) (by omega), nI_iN, Int.natCast_ediv]
theorem lN_lI (n : Nat) : lN n = lI (n : Int) := by
  unfold lN
  exact (Int64.ofInt_eq_ofNat).symm
theorem lI_div {x y : Int} (hx : 0 ≤ x ∧ x < 9223372036854775808) (hy : 0 < y ∧ y < 9223372036854775808) : lI x / lI y = lI (x / y) := by
  obtain ⟨a, rfl⟩ : ∃ n : Nat, x = n := ⟨x.toNat, by omega⟩
  obtain ⟨b, rfl⟩ : ∃ n : Nat, y = n := ⟨y.toNat, by omega⟩
  rw [← lN_lI, ← lN_lI, pk_lDiv (by omega) (by omega) (by omega), lN_lI, Int.natCast_ediv]
theorem lI_cmp {x y : Int} (hx : lR x) (hy : lR y) : lg_cmp (lI x) (lI y) = iN (cmpL x y) := by
  unfold lg_cmp cmpL
  have h1 : lI x > lI y ↔ y < x := by rw [gt_iff_lt, Int64.lt_iff_toInt_lt, lI_toInt hx, lI_toInt hy]
  have h2 : lI x = lI y ↔ x = y := by rw [← Int64.toInt_inj, lI_toInt hx, lI_toInt hy]
  by_cases q : y < x
  · rw [if_pos q, if_pos (h1.mpr q)]
    rfl
  · rw [if_neg q, if_neg (fun z => q (h1.mp z))]
    by_cases q2 : x = y
    · rw [if_pos q2, if_pos (h2.mpr q2)]
      rfl
    · rw [if_neg q2, if_neg (fun z => q2 (h2.mp z))]
      rfl
theorem iN_i2l {x : Int} (hx : iR x) : (iN x).toInt64 = lI x := Int32.toInt64_ofInt (by have := hx.1; rw [Int32.toInt_minValue]; omega) (by have := hx.2; rw [Int32.toInt_maxValue]; omega)
/-! locals -/
def tp (L : Nat → Nat) : Nat → tLs → List (Nat × Value)
  | _, [] => []
  | o, none :: l => tp L (o + 1) l
  | o, some v :: l => (o, toV L v) :: tp L (o + 1) l
theorem tp.mem {L : Nat → Nat} : ∀ (l : tLs) (o : Nat) (q : Nat × Value), q ∈ tp L o l ↔ ∃ j v, lget l j = some v ∧ q = (o + j, toV L v)
  | [], o, q => by simp [tp, lget]
  | none :: l, o, q => by
    unfold tp
    rw [tp.mem l (o + 1) q]
    constructor
    · rintro ⟨j, v, h1, h2⟩
      exact ⟨j + 1, v, h1, by rw [h2]; congr 1; omega⟩
    · rintro ⟨j, v, h1, h2⟩
      cases j with
      | zero => simp [lget] at h1
      | succ j => exact ⟨j, v, h1, by rw [h2]; congr 1; omega⟩
  | some w :: l, o, q => by
    unfold tp
    rw [List.mem_cons, tp.mem l (o + 1) q]
    constructor
    · rintro (h | ⟨j, v, h1, h2⟩)
      · exact ⟨0, w, rfl, h⟩
      · exact ⟨j + 1, v, h1, by rw [h2]; congr 1; omega⟩
    · rintro ⟨j, v, h1, h2⟩
      cases j with
      | zero => left; simp [lget] at h1; rw [h2, h1]; rfl
      | succ j => right; exact ⟨j, v, h1, by rw [h2]; congr 1; omega⟩
theorem tp.at {L : Nat → Nat} {ls : tLs} {lsA : Array Slot} {n j : Nat} {v : tV} (h : lv_has lsA n (tp L 0 ls)) (hj : lget ls j = some v) : lsA[j]? = some (.val (toV L v)) := by
  have := h.2.2 (j, toV L v) ((tp.mem ls 0 _).mpr ⟨j, v, hj, by rw [Nat.zero_add]⟩)
  exact this
theorem lget_lput : ∀ (l : tLs) (i j : Nat) (v w : tV), lget (lput l i v) j = some w → (j = i ∧ w = v) ∨ (j ≠ i ∧ lget l j = some w ∧ (j + 1 = i → ∀ x, w ≠ .inr (.inr x)))
  | [], i, j, v, w, h => by simp [lput, lget] at h
  | a :: l, 0, j, v, w, h => by
    cases j with
    | zero => simp [lput, lget] at h; exact Or.inl ⟨rfl, h.symm⟩
    | succ j => exact Or.inr ⟨by omega, h, by omega⟩
  | a :: l, 1, j, v, w, h => by
    cases j with
    | zero =>
      right
      refine ⟨by omega, ?_, fun _ x hx => ?_⟩
      · simp only [lput, lget] at h ⊢
        unfold clrL at h
        split at h
        · cases h
        · exact h
      · subst hx
        simp only [lput, lget] at h
        unfold clrL at h
        split at h
        · cases h
        · rename_i z
          exact z _ h
    | succ j =>
      rcases lget_lput l 0 j v w h with ⟨h1, h2⟩ | ⟨h1, h2, h3⟩
      · exact Or.inl ⟨by omega, h2⟩
      · exact Or.inr ⟨by omega, h2, by omega⟩
  | a :: l, n + 2, j, v, w, h => by
    cases j with
    | zero => exact Or.inr ⟨by omega, h, by omega⟩
    | succ j =>
      rcases lget_lput l (n + 1) j v w h with ⟨h1, h2⟩ | ⟨h1, h2, h3⟩
      · exact Or.inl ⟨by omega, h2⟩
      · exact Or.inr ⟨by omega, h2, fun e => h3 (by omega)⟩
theorem lget_lputL : ∀ (l : tLs) (i j : Nat) (v w : tV), lget (lputL l i v) j = some w → (j = i ∧ w = v) ∨ (j ≠ i ∧ j ≠ i + 1 ∧ lget l j = some w ∧ (j + 1 = i → ∀ x, w ≠ .inr (.inr x)))
  | [], i, j, v, w, h => by simp [lputL, lget] at h
  | [a], 0, j, v, w, h => by
    cases j with
    | zero => simp [lputL, lget] at h; exact Or.inl ⟨rfl, h.symm⟩
    | succ j => simp [lputL, lget] at h
  | a :: b :: l, 0, j, v, w, h => by
    match j, h with
    | 0, h => simp [lputL, lget] at h; exact Or.inl ⟨rfl, h.symm⟩
    | 1, h => simp [lputL, lget] at h
    | j + 2, h => exact Or.inr ⟨by omega, by omega, h, by omega⟩
  | a :: l, 1, j, v, w, h => by
    cases j with
    | zero =>
      right
      refine ⟨by omega, by omega, ?_, fun _ x hx => ?_⟩
      · simp only [lputL, lget] at h ⊢
        unfold clrL at h
        split at h
        · cases h
        · exact h
      · subst hx
        simp only [lputL, lget] at h
        unfold clrL at h
        split at h
        · cases h
        · rename_i z
          exact z _ h
    | succ j =>
      simp only [lputL] at h
      rcases lget_lputL l 0 j v w h with ⟨h1, h2⟩ | ⟨h1, h0, h2, h3⟩
      · exact Or.inl ⟨by omega, h2⟩
      · exact Or.inr ⟨by omega, by omega, h2, by omega⟩
  | a :: l, n + 2, j, v, w, h => by
    simp only [lputL] at h
    cases j with
    | zero => exact Or.inr ⟨by omega, by omega, h, by omega⟩
    | succ j =>
      rcases lget_lputL l (n + 1) j v w h with ⟨h1, h2⟩ | ⟨h1, h0, h2, h3⟩
      · exact Or.inl ⟨by omega, h2⟩
      · exact Or.inr ⟨by omega, by omega, h2, fun e => h3 (by omega)⟩
theorem toV_cat {L : Nat → Nat} {v : tV} (h : ∀ x, v ≠ .inr (.inr x)) : ((toV L v).category == 2) = false := by
  rcases v with x | i | x
  · rfl
  · rfl
  · exact absurd rfl (h x)
theorem tp.put {L : Nat → Nat} {ls : tLs} {lsA : Array Slot} {n i : Nat} {v : tV} (h : lv_has lsA n ((i, toV L v) :: (tp L 0 ls).filter (fun q => !(q.1 == i) && !(q.1 + 1 == i && q.2.category == 2)))) : lv_has lsA n (tp L 0 (lput ls i v)) := by
  refine ⟨h.1, h.2.1, fun q hq => ?_⟩
  obtain ⟨j, w, h1, rfl⟩ := (tp.mem _ _ _).mp hq
  rw [Nat.zero_add]
  rcases lget_lput ls i j v w h1 with ⟨rfl, rfl⟩ | ⟨h2, h3, h4⟩
  · exact h.2.2 _ List.mem_cons_self
  · refine h.2.2 (j, toV L w) (List.mem_cons_of_mem _ (List.mem_filter.mpr ⟨(tp.mem _ _ _).mpr ⟨j, w, h3, by rw [Nat.zero_add]⟩, ?_⟩))
    by_cases e : j + 1 = i
    · have := toV_cat (L := L) (h4 e)
      simp [h2, this]
    · simp [h2, e]
theorem tp.putL {L : Nat → Nat} {ls : tLs} {lsA : Array Slot} {n i : Nat} {v : tV} (h : lv_has lsA n ((i, toV L v) :: (tp L 0 ls).filter (fun q => !(q.1 == i) && (!(q.1 == i + 1) && !(q.1 + 1 == i && q.2.category == 2))))) : lv_has lsA n (tp L 0 (lputL ls i v)) := by
  refine ⟨h.1, h.2.1, fun q hq => ?_⟩
  obtain ⟨j, w, h1, rfl⟩ := (tp.mem _ _ _).mp hq
  rw [Nat.zero_add]
  rcases lget_lputL ls i j v w h1 with ⟨rfl, rfl⟩ | ⟨h2, h0, h3, h4⟩
  · exact h.2.2 _ List.mem_cons_self
  · refine h.2.2 (j, toV L w) (List.mem_cons_of_mem _ (List.mem_filter.mpr ⟨(tp.mem _ _ _).mpr ⟨j, w, h3, by rw [Nat.zero_add]⟩, ?_⟩))
    by_cases e : j + 1 = i
    · have := toV_cat (L := L) (h4 e)
      simp [h2, h0, this]
    · simp [h2, h0, e]
end
section
/-! EACH INSTRUCTION'S ROW: the small machine's step is the machine's -/
def rmD (d : Nat) : Room := { frames := d, cells := 0, slots := 0, locals := 31 * d }
def Fx (p : Program) (R : Room) (s : State) (m : MethodId) (args : Array Value) (c : Code) (cells slots : Nat) (cc : ByteArray) (nL : Nat) (own : String) (A : Nat → Prop) (L : Nat → Nat) (D : va_G) (cI cZ cR : ClassId) (d : Nat) : Prop :=
  p.tables.exec = Jvm.exec ∧ c.code = cc ∧ c.maxLocals = nL ∧ s.vm.findClass own = some m.cls ∧ (∀ w ∈ TB, w.before args s = true) ∧ va_K D vwCl (tyL cI cZ cR) s ∧ iL L ∧ (∀ i, i < 101 → A (L i)) ∧ (d ≤ R.frames ∧ 31 * d ≤ R.locals) ∧ (cells ≤ R.cells ∧ slots ≤ R.slots) ∧ va_Nw (.methodLinkNest RX3 9 yX5_isKind RX5) s
def sY (p : Program) (l : Launch) (e : Env) (R : Room) (s : State) (m : MethodId) (args : Array Value) (below : List Frame) (meth : Method) (c : Code) (cells slots : Nat) (QQ : State → Prop) (nL : Nat) (A : Nat → Prop) (L : Nat → Nat) (D : va_G) (cI cZ cR : ClassId) : tY :=
  fun pc ls st M => ∀ (H : Heap) (locs : List Loc) (lsA : Array Slot), va_P D vwCl (wW L cI cZ cR M) H → va_S A s.heap H locs → lv_has lsA nL (tp L 0 ls) → W p l e R s m args below meth c H locs cells slots QQ (F0 m pc lsA (st.map (toV L)))
def qc (L : Nat → Nat) (D : va_G) (cI cZ cR : ClassId) (Q : tQ) : Array Value → State → Outcome → State → Prop := fun _ st oc t => (∃ (r : Option tV) (M2 : tM), oc = .returned (r.map (toV L)) ∧ Q r M2 ∧ va_P D vwCl (wW L cI cZ cR M2) t.heap ∧ va_K D vwCl (tyL cI cZ cR) t) ∧ va_F (AL L) st t
theorem i_X0 : ∀ w ∈ u_ws RX0 TX0 3, w ∈ TB := by decide +kernel
theorem i_X1 : ∀ w ∈ u_ws RX1 TX1 2, w ∈ TB := by decide +kernel
theorem i_X2 : ∀ w ∈ u_ws RX2 TX2 8, w ∈ TB := by decide +kernel
theorem i_X4 : ∀ w ∈ u_ws RX4 TX4 5, w ∈ TB := by decide +kernel
theorem i_X5 : ∀ w ∈ u_ws RX5 TX5 6, w ∈ TB := by decide +kernel
theorem i_X6 : ∀ w ∈ u_ws RX6 TX6 20, w ∈ TB := by decide +kernel
theorem swL.get {x : Int} {Y : Nat → Prop} : ∀ {ts : List Nat} {v : Int}, swL x Y v ts → ∀ (n : Nat), x = v + n → n < ts.length → ∃ t, ts[n]? = some t ∧ Y t
  | [], v, h, n, e, hn => by simp at hn
  | t :: ts, v, h, 0, e, hn => ⟨t, rfl, h.1 (by omega)⟩
  | t :: ts, v, h, n + 1, e, hn => by
    obtain ⟨t2, h1, h2⟩ := swL.get h.2 n (by omega) (by simpa using hn)
    exact ⟨t2, h1, h2⟩
theorem nar_z {x : Int} (h : x = 0 ∨ x = 1) : narrow .boolean (.int (iN x)) = .int (iN x) := by
  rcases h with rfl | rfl <;> rfl
theorem fit_z {x : Int} (h : x = 0 ∨ x = 1) : fits .boolean (.int (iN x)) = true := by
  rcases h with rfl | rfl <;> rfl
theorem nar_zz {x : Int} (h : x = 0 ∨ x = 1) : vp_nar .boolean (iN x) = iN x := by
  rcases h with rfl | rfl <;> rfl
section RR
variable {p : Program} {l : Launch} {e : Env} {R : Room} {s : State} {m : MethodId} {args : Array Value} {below : List Frame} {meth : Method} {c : Code} {cells slots : Nat} {QQ : State → Prop} {cc : ByteArray} {nL : Nat} {own : String} {A : Nat → Prop} {L : Nat → Nat} {D : va_G} {cI cZ cR : ClassId} {d : Nat} {C : tC} {Q : tQ} {pc : Nat}
theorem r_iconst (F : Fx p R s m args c cells slots cc nL own A L D cI cZ cR d) {n : Int} (hd : decode cc pc = .ok (.iconst n, 1)) : ∀ ls st M, (f_push n 1) C d Q (sY p l e R s m args below meth c cells slots QQ nL A L D cI cZ cR) pc ls st M → (sY p l e R s m args below meth c cells slots QQ nL A L D cI cZ cR) pc ls st M := by
  intro ls st M h H locs lsA hP hS hl
  obtain ⟨hx, hb, hml, hown, hts, hK, hi, hA, hR, hcs, hNw⟩ := F
  exact lv_iconst hx hb hd rfl (h H locs lsA hP hS hl)
theorem r_bipush (F : Fx p R s m args c cells slots cc nL own A L D cI cZ cR d) {n : Int} (hd : decode cc pc = .ok (.bipush n, 2)) (hn : (Int8.ofInt n).toInt32 = iN n) : ∀ ls st M, (f_push n 2) C d Q (sY p l e R s m args below meth c cells slots QQ nL A L D cI cZ cR) pc ls st M → (sY p l e R s m args below meth c cells slots QQ nL A L D cI cZ cR) pc ls st M := by
  intro ls st M h H locs lsA hP hS hl
  obtain ⟨hx, hb, hml, hown, hts, hK, hi, hA, hR, hcs, hNw⟩ := F
  exact lv_bipush hx hb hd hn (h H locs lsA hP hS hl)
theorem r_sipush (F : Fx p R s m args c cells slots cc nL own A L D cI cZ cR d) {n : Int} (hd : decode cc pc = .ok (.sipush n, 3)) (hn : (Int16.ofInt n).toInt32 = iN n) : ∀ ls st M, (f_push n 3) C d Q (sY p l e R s m args below meth c cells slots QQ nL A L D cI cZ cR) pc ls st M → (sY p l e R s m args below meth c cells slots QQ nL A L D cI cZ cR) pc ls st M := by
  intro ls st M h H locs lsA hP hS hl
  obtain ⟨hx, hb, hml, hown, hts, hK, hi, hA, hR, hcs, hNw⟩ := F
  exact lv_sipush hx hb hd hn (h H locs lsA hP hS hl)
theorem r_ldc (F : Fx p R s m args c cells slots cc nL own A L D cI cZ cR d) {n : Int} {k : Nat} {v : Int32} (hd : decode cc pc = .ok (.ldc k, 2)) (hw : Cond.constant own k v ∈ TB) (hn : v = iN n) : ∀ ls st M, (f_push n 2) C d Q (sY p l e R s m args below meth c cells slots QQ nL A L D cI cZ cR) pc ls st M → (sY p l e R s m args below meth c cells slots QQ nL A L D cI cZ cR) pc ls st M := by
  intro ls st M h H locs lsA hP hS hl
  obtain ⟨hx, hb, hml, hown, hts, hK, hi, hA, hR, hcs, hNw⟩ := F
  subst hn
  exact lv_ldc hx hb hown (hts _ hw) hd (h H locs lsA hP hS hl)
theorem r_ldcw (F : Fx p R s m args c cells slots cc nL own A L D cI cZ cR d) {n : Int} {k : Nat} {v : Int32} (hd : decode cc pc = .ok (.ldc_w k, 3)) (hw : Cond.constant own k v ∈ TB) (hn : v = iN n) : ∀ ls st M, (f_push n 3) C d Q (sY p l e R s m args below meth c cells slots QQ nL A L D cI cZ cR) pc ls st M → (sY p l e R s m args below meth c cells slots QQ nL A L D cI cZ cR) pc ls st M := by
  intro ls st M h H locs lsA hP hS hl
  obtain ⟨hx, hb, hml, hown, hts, hK, hi, hA, hR, hcs, hNw⟩ := F
  subst hn
  exact lv_ldcw hx hb hown (hts _ hw) hd (h H locs lsA hP hS hl)
theorem r_ldc2 (F : Fx p R s m args c cells slots cc nL own A L D cI cZ cR d) {n : Int} {k : Nat} {v : Int64} (hd : decode cc pc = .ok (.ldc2_w k, 3)) (hw : Cond.constantLong own k v ∈ TB) (hn : v = lI n) : ∀ ls st M, (f_pushL n 3) C d Q (sY p l e R s m args below meth c cells slots QQ nL A L D cI cZ cR) pc ls st M → (sY p l e R s m args below meth c cells slots QQ nL A L D cI cZ cR) pc ls st M := by
  intro ls st M h H locs lsA hP hS hl
  obtain ⟨hx, hb, hml, hown, hts, hK, hi, hA, hR, hcs, hNw⟩ := F
  subst hn
  exact lv_ldc2 hx hb hown (hts _ hw) hd (h H locs lsA hP hS hl)
theorem r_lconst (F : Fx p R s m args c cells slots cc nL own A L D cI cZ cR d) {n : Int} {k : Fin 2} (hd : decode cc pc = .ok (.lconst k, 1)) (hn : Int64.ofNat (k : Nat) = lI n) : ∀ ls st M, (f_pushL n 1) C d Q (sY p l e R s m args below meth c cells slots QQ nL A L D cI cZ cR) pc ls st M → (sY p l e R s m args below meth c cells slots QQ nL A L D cI cZ cR) pc ls st M := by
  intro ls st M h H locs lsA hP hS hl
  obtain ⟨hx, hb, hml, hown, hts, hK, hi, hA, hR, hcs, hNw⟩ := F
  exact lv_lconst hx hb hd hn (h H locs lsA hP hS hl)
theorem r_iload_n (F : Fx p R s m args c cells slots cc nL own A L D cI cZ cR d) {i : Nat} {k : Fin 4} (hd : decode cc pc = .ok (.iload_n k, 1)) (hk : (k : Nat) = i) : ∀ ls st M, (f_loadI i 1) C d Q (sY p l e R s m args below meth c cells slots QQ nL A L D cI cZ cR) pc ls st M → (sY p l e R s m args below meth c cells slots QQ nL A L D cI cZ cR) pc ls st M := by
  intro ls st M h H locs lsA hP hS hl
  obtain ⟨hx, hb, hml, hown, hts, hK, hi, hA, hR, hcs, hNw⟩ := F
  unfold f_loadI at h
  split at h
  · rename_i x hv
    exact lv_iload_n hx hb hd hk (tp.at hl hv) (h H locs lsA hP hS hl)
  · exact h.elim
theorem r_aload_n (F : Fx p R s m args c cells slots cc nL own A L D cI cZ cR d) {i : Nat} {k : Fin 4} (hd : decode cc pc = .ok (.aload_n k, 1)) (hk : (k : Nat) = i) : ∀ ls st M, (f_loadR i 1) C d Q (sY p l e R s m args below meth c cells slots QQ nL A L D cI cZ cR) pc ls st M → (sY p l e R s m args below meth c cells slots QQ nL A L D cI cZ cR) pc ls st M := by
  intro ls st M h H locs lsA hP hS hl
  obtain ⟨hx, hb, hml, hown, hts, hK, hi, hA, hR, hcs, hNw⟩ := F
  unfold f_loadR at h
  split at h
  · rename_i x hv
    exact lv_aload_n hx hb hd hk (tp.at hl hv) (h H locs lsA hP hS hl)
  · exact h.elim
theorem r_lload_n (F : Fx p R s m args c cells slots cc nL own A L D cI cZ cR d) {i : Nat} {k : Fin 4} (hd : decode cc pc = .ok (.lload_n k, 1)) (hk : (k : Nat) = i) : ∀ ls st M, (f_loadL i 1) C d Q (sY p l e R s m args below meth c cells slots QQ nL A L D cI cZ cR) pc ls st M → (sY p l e R s m args below meth c cells slots QQ nL A L D cI cZ cR) pc ls st M := by
  intro ls st M h H locs lsA hP hS hl
  obtain ⟨hx, hb, hml, hown, hts, hK, hi, hA, hR, hcs, hNw⟩ := F
  unfold f_loadL at h
  split at h
  · rename_i x hv
    exact lv_lload_n hx hb hd hk (tp.at hl hv) (h H locs lsA hP hS hl)
  · exact h.elim
theorem r_iload (F : Fx p R s m args c cells slots cc nL own A L D cI cZ cR d) {i : Nat} (hd : decode cc pc = .ok (.iload i, 2)) : ∀ ls st M, (f_loadI i 2) C d Q (sY p l e R s m args below meth c cells slots QQ nL A L D cI cZ cR) pc ls st M → (sY p l e R s m args below meth c cells slots QQ nL A L D cI cZ cR) pc ls st M := by
  intro ls st M h H locs lsA hP hS hl
  obtain ⟨hx, hb, hml, hown, hts, hK, hi, hA, hR, hcs, hNw⟩ := F
  unfold f_loadI at h
  split at h
  · rename_i x hv
    exact lv_iload hx hb hd (tp.at hl hv) (h H locs lsA hP hS hl)
  · exact h.elim
theorem r_aload (F : Fx p R s m args c cells slots cc nL own A L D cI cZ cR d) {i : Nat} (hd : decode cc pc = .ok (.aload i, 2)) : ∀ ls st M, (f_loadR i 2) C d Q (sY p l e R s m args below meth c cells slots QQ nL A L D cI cZ cR) pc ls st M → (sY p l e R s m args below meth c cells slots QQ nL A L D cI cZ cR) pc ls st M := by
  intro ls st M h H locs lsA hP hS hl
  obtain ⟨hx, hb, hml, hown, hts, hK, hi, hA, hR, hcs, hNw⟩ := F
  unfold f_loadR at h
  split at h
  · rename_i x hv
    exact lv_aload hx hb hd (tp.at hl hv) (h H locs lsA hP hS hl)
  · exact h.elim
theorem r_lload (F : Fx p R s m args c cells slots cc nL own A L D cI cZ cR d) {i : Nat} (hd : decode cc pc = .ok (.lload i, 2)) : ∀ ls st M, (f_loadL i 2) C d Q (sY p l e R s m args below meth c cells slots QQ nL A L D cI cZ cR) pc ls st M → (sY p l e R s m args below meth c cells slots QQ nL A L D cI cZ cR) pc ls st M := by
  intro ls st M h H locs lsA hP hS hl
  obtain ⟨hx, hb, hml, hown, hts, hK, hi, hA, hR, hcs, hNw⟩ := F
  unfold f_loadL at h
  split at h
  · rename_i x hv
    exact lv_lload hx hb hd (tp.at hl hv) (h H locs lsA hP hS hl)
  · exact h.elim
theorem r_istore_n (F : Fx p R s m args c cells slots cc nL own A L D cI cZ cR d) {i : Nat} {k : Fin 4} (hd : decode cc pc = .ok (.istore_n k, 1)) (hk : (k : Nat) = i) (hn : i < nL) : ∀ ls st M, (f_storeI i 1) C d Q (sY p l e R s m args below meth c cells slots QQ nL A L D cI cZ cR) pc ls st M → (sY p l e R s m args below meth c cells slots QQ nL A L D cI cZ cR) pc ls st M := by
  intro ls st M h H locs lsA hP hS hl
  obtain ⟨hx, hb, hml, hown, hts, hK, hi, hA, hR, hcs, hNw⟩ := F
  unfold f_storeI at h
  split at h
  · rename_i x st
    exact lv_istore_n hx hb hd hk hl hn rfl (fun ls2 hl2 => h H locs ls2 hP hS (tp.put (v := vI x) hl2))
  · exact h.elim
theorem r_istore (F : Fx p R s m args c cells slots cc nL own A L D cI cZ cR d) {i : Nat} (hd : decode cc pc = .ok (.istore i, 2)) (hn : i < nL) : ∀ ls st M, (f_storeI i 2) C d Q (sY p l e R s m args below meth c cells slots QQ nL A L D cI cZ cR) pc ls st M → (sY p l e R s m args below meth c cells slots QQ nL A L D cI cZ cR) pc ls st M := by
  intro ls st M h H locs lsA hP hS hl
  obtain ⟨hx, hb, hml, hown, hts, hK, hi, hA, hR, hcs, hNw⟩ := F
  unfold f_storeI at h
  split at h
  · rename_i x st
    exact lv_istore hx hb hd hl hn rfl (fun ls2 hl2 => h H locs ls2 hP hS (tp.put (v := vI x) hl2))
  · exact h.elim
theorem r_astore_n (F : Fx p R s m args c cells slots cc nL own A L D cI cZ cR d) {i : Nat} {k : Fin 4} (hd : decode cc pc = .ok (.astore_n k, 1)) (hk : (k : Nat) = i) (hn : i < nL) : ∀ ls st M, (f_storeR i 1) C d Q (sY p l e R s m args below meth c cells slots QQ nL A L D cI cZ cR) pc ls st M → (sY p l e R s m args below meth c cells slots QQ nL A L D cI cZ cR) pc ls st M := by
  intro ls st M h H locs lsA hP hS hl
  obtain ⟨hx, hb, hml, hown, hts, hK, hi, hA, hR, hcs, hNw⟩ := F
  unfold f_storeR at h
  split at h
  · rename_i x st
    exact lv_astore_n hx hb hd hk hl hn rfl (fun ls2 hl2 => h H locs ls2 hP hS (tp.put (v := vR x) hl2))
  · exact h.elim
theorem r_astore (F : Fx p R s m args c cells slots cc nL own A L D cI cZ cR d) {i : Nat} (hd : decode cc pc = .ok (.astore i, 2)) (hn : i < nL) : ∀ ls st M, (f_storeR i 2) C d Q (sY p l e R s m args below meth c cells slots QQ nL A L D cI cZ cR) pc ls st M → (sY p l e R s m args below meth c cells slots QQ nL A L D cI cZ cR) pc ls st M := by
  intro ls st M h H locs lsA hP hS hl
  obtain ⟨hx, hb, hml, hown, hts, hK, hi, hA, hR, hcs, hNw⟩ := F
  unfold f_storeR at h
  split at h
  · rename_i x st
    exact lv_astore hx hb hd hl hn rfl (fun ls2 hl2 => h H locs ls2 hP hS (tp.put (v := vR x) hl2))
  · exact h.elim
theorem r_lstore_n (F : Fx p R s m args c cells slots cc nL own A L D cI cZ cR d) {i : Nat} {k : Fin 4} (hd : decode cc pc = .ok (.lstore_n k, 1)) (hk : (k : Nat) = i) (hn : i + 1 < nL) : ∀ ls st M, (f_storeL i 1) C d Q (sY p l e R s m args below meth c cells slots QQ nL A L D cI cZ cR) pc ls st M → (sY p l e R s m args below meth c cells slots QQ nL A L D cI cZ cR) pc ls st M := by
  intro ls st M h H locs lsA hP hS hl
  obtain ⟨hx, hb, hml, hown, hts, hK, hi, hA, hR, hcs, hNw⟩ := F
  unfold f_storeL at h
  split at h
  · rename_i x st
    exact lv_lstore_n hx hb hd hk hl hn rfl (fun ls2 hl2 => h H locs ls2 hP hS (tp.putL (v := vL x) hl2))
  · exact h.elim
theorem r_lstore (F : Fx p R s m args c cells slots cc nL own A L D cI cZ cR d) {i : Nat} (hd : decode cc pc = .ok (.lstore i, 2)) (hn : i + 1 < nL) : ∀ ls st M, (f_storeL i 2) C d Q (sY p l e R s m args below meth c cells slots QQ nL A L D cI cZ cR) pc ls st M → (sY p l e R s m args below meth c cells slots QQ nL A L D cI cZ cR) pc ls st M := by
  intro ls st M h H locs lsA hP hS hl
  obtain ⟨hx, hb, hml, hown, hts, hK, hi, hA, hR, hcs, hNw⟩ := F
  unfold f_storeL at h
  split at h
  · rename_i x st
    exact lv_lstore hx hb hd hl hn rfl (fun ls2 hl2 => h H locs ls2 hP hS (tp.putL (v := vL x) hl2))
  · exact h.elim
theorem r_iinc (F : Fx p R s m args c cells slots cc nL own A L D cI cZ cR d) {i : Nat} {n : Int} (hd : decode cc pc = .ok (.iinc i n, 3)) (hn : i < nL) : ∀ ls st M, (f_iinc i n) C d Q (sY p l e R s m args below meth c cells slots QQ nL A L D cI cZ cR) pc ls st M → (sY p l e R s m args below meth c cells slots QQ nL A L D cI cZ cR) pc ls st M := by
  intro ls st M h H locs lsA hP hS hl
  obtain ⟨hx, hb, hml, hown, hts, hK, hi, hA, hR, hcs, hNw⟩ := F
  unfold f_iinc at h
  split at h
  · rename_i x hv
    obtain ⟨k, hk⟩ := List.getElem?_of_mem ((tp.mem ls 0 (i, toV L (vI x))).mpr ⟨i, vI x, hv, by rw [Nat.zero_add]⟩)
    exact lv_iinc hx hb hd hl hk rfl hn rfl (fun ls2 hl2 => h H locs ls2 hP hS (tp.put (v := vI (x + n)) (by rw [show toV L (vI (x + n)) = .int (iN x + Int32.ofInt n) by show Value.int (Int32.ofInt (x + n)) = _; rw [Int32.ofInt_add]]; exact hl2)))
  · exact h.elim
theorem r_iadd (F : Fx p R s m args c cells slots cc nL own A L D cI cZ cR d)  (hd : decode cc pc = .ok (.iadd, 1)) : ∀ ls st M, f_add C d Q (sY p l e R s m args below meth c cells slots QQ nL A L D cI cZ cR) pc ls st M → (sY p l e R s m args below meth c cells slots QQ nL A L D cI cZ cR) pc ls st M := by
  intro ls st M h H locs lsA hP hS hl
  obtain ⟨hx, hb, hml, hown, hts, hK, hi, hA, hR, hcs, hNw⟩ := F
  unfold f_add at h
  split at h
  · rename_i y x st
    have k := h H locs lsA hP hS hl
    rw [List.map_cons, show toV L (vI (x + y)) = .int (Int32.ofInt (x + y)) from rfl, Int32.ofInt_add] at k
    exact lv_iadd hx hb hd k
  · exact h.elim
theorem r_isub (F : Fx p R s m args c cells slots cc nL own A L D cI cZ cR d)  (hd : decode cc pc = .ok (.isub, 1)) : ∀ ls st M, f_sub C d Q (sY p l e R s m args below meth c cells slots QQ nL A L D cI cZ cR) pc ls st M → (sY p l e R s m args below meth c cells slots QQ nL A L D cI cZ cR) pc ls st M := by
  intro ls st M h H locs lsA hP hS hl
  obtain ⟨hx, hb, hml, hown, hts, hK, hi, hA, hR, hcs, hNw⟩ := F
  unfold f_sub at h
  split at h
  · rename_i y x st
    have k := h H locs lsA hP hS hl
    rw [List.map_cons, show toV L (vI (x - y)) = .int (Int32.ofInt (x - y)) from rfl, Int32.ofInt_sub] at k
    exact lv_isub hx hb hd k
  · exact h.elim
theorem r_imul (F : Fx p R s m args c cells slots cc nL own A L D cI cZ cR d)  (hd : decode cc pc = .ok (.imul, 1)) : ∀ ls st M, f_mul C d Q (sY p l e R s m args below meth c cells slots QQ nL A L D cI cZ cR) pc ls st M → (sY p l e R s m args below meth c cells slots QQ nL A L D cI cZ cR) pc ls st M := by
  intro ls st M h H locs lsA hP hS hl
  obtain ⟨hx, hb, hml, hown, hts, hK, hi, hA, hR, hcs, hNw⟩ := F
  unfold f_mul at h
  split at h
  · rename_i y x st
    have k := h H locs lsA hP hS hl
    rw [List.map_cons, show toV L (vI (x * y)) = .int (Int32.ofInt (x * y)) from rfl, Int32.ofInt_mul] at k
    exact lv_imul hx hb hd k
  · exact h.elim
theorem r_iand (F : Fx p R s m args c cells slots cc nL own A L D cI cZ cR d)  (hd : decode cc pc = .ok (.iand, 1)) : ∀ ls st M, f_and C d Q (sY p l e R s m args below meth c cells slots QQ nL A L D cI cZ cR) pc ls st M → (sY p l e R s m args below meth c cells slots QQ nL A L D cI cZ cR) pc ls st M := by
  intro ls st M h H locs lsA hP hS hl
  obtain ⟨hx, hb, hml, hown, hts, hK, hi, hA, hR, hcs, hNw⟩ := F
  unfold f_and at h
  split at h
  · rename_i y x st
    have k := h H locs lsA hP hS hl
    rw [List.map_cons, show toV L (vI (bAnd x y)) = .int (iN (bAnd x y)) from rfl, bAnd_iN] at k
    exact lv_iand hx hb hd k
  · exact h.elim
theorem r_ior (F : Fx p R s m args c cells slots cc nL own A L D cI cZ cR d)  (hd : decode cc pc = .ok (.ior, 1)) : ∀ ls st M, f_or C d Q (sY p l e R s m args below meth c cells slots QQ nL A L D cI cZ cR) pc ls st M → (sY p l e R s m args below meth c cells slots QQ nL A L D cI cZ cR) pc ls st M := by
  intro ls st M h H locs lsA hP hS hl
  obtain ⟨hx, hb, hml, hown, hts, hK, hi, hA, hR, hcs, hNw⟩ := F
  unfold f_or at h
  split at h
  · rename_i y x st
    have k := h H locs lsA hP hS hl
    rw [List.map_cons, show toV L (vI (bOr x y)) = .int (iN (bOr x y)) from rfl, bOr_iN] at k
    exact lv_ior hx hb hd k
  · exact h.elim
theorem r_ixor (F : Fx p R s m args c cells slots cc nL own A L D cI cZ cR d)  (hd : decode cc pc = .ok (.ixor, 1)) : ∀ ls st M, f_xor C d Q (sY p l e R s m args below meth c cells slots QQ nL A L D cI cZ cR) pc ls st M → (sY p l e R s m args below meth c cells slots QQ nL A L D cI cZ cR) pc ls st M := by
  intro ls st M h H locs lsA hP hS hl
  obtain ⟨hx, hb, hml, hown, hts, hK, hi, hA, hR, hcs, hNw⟩ := F
  unfold f_xor at h
  split at h
  · rename_i y x st
    have k := h H locs lsA hP hS hl
    rw [List.map_cons, show toV L (vI (bXor x y)) = .int (iN (bXor x y)) from rfl, bXor_iN] at k
    exact lv_ixor hx hb hd k
  · exact h.elim
theorem r_ineg (F : Fx p R s m args c cells slots cc nL own A L D cI cZ cR d)  (hd : decode cc pc = .ok (.ineg, 1)) : ∀ ls st M, f_neg C d Q (sY p l e R s m args below meth c cells slots QQ nL A L D cI cZ cR) pc ls st M → (sY p l e R s m args below meth c cells slots QQ nL A L D cI cZ cR) pc ls st M := by
  intro ls st M h H locs lsA hP hS hl
  obtain ⟨hx, hb, hml, hown, hts, hK, hi, hA, hR, hcs, hNw⟩ := F
  unfold f_neg at h
  split at h
  · rename_i x st
    have k := h H locs lsA hP hS hl
    rw [List.map_cons, show toV L (vI (-x)) = .int (Int32.ofInt (-x)) from rfl, Int32.ofInt_neg] at k
    exact lv_ineg hx hb hd k
  · exact h.elim
theorem r_ishl (F : Fx p R s m args c cells slots cc nL own A L D cI cZ cR d)  (hd : decode cc pc = .ok (.ishl, 1)) : ∀ ls st M, f_shl C d Q (sY p l e R s m args below meth c cells slots QQ nL A L D cI cZ cR) pc ls st M → (sY p l e R s m args below meth c cells slots QQ nL A L D cI cZ cR) pc ls st M := by
  intro ls st M h H locs lsA hP hS hl
  obtain ⟨hx, hb, hml, hown, hts, hK, hi, hA, hR, hcs, hNw⟩ := F
  unfold f_shl at h
  split at h
  · rename_i y x st
    have k := h.2 H locs lsA hP hS hl
    rw [List.map_cons, show toV L (vI (x * 2 ^ y.toNat)) = .int (iN (x * 2 ^ y.toNat)) from rfl, ← iN_shl h.1] at k
    exact lv_ishl hx hb hd k
  · exact h.elim
theorem r_ishr (F : Fx p R s m args c cells slots cc nL own A L D cI cZ cR d)  (hd : decode cc pc = .ok (.ishr, 1)) : ∀ ls st M, f_shr C d Q (sY p l e R s m args below meth c cells slots QQ nL A L D cI cZ cR) pc ls st M → (sY p l e R s m args below meth c cells slots QQ nL A L D cI cZ cR) pc ls st M := by
  intro ls st M h H locs lsA hP hS hl
  obtain ⟨hx, hb, hml, hown, hts, hK, hi, hA, hR, hcs, hNw⟩ := F
  unfold f_shr at h
  split at h
  · rename_i y x st
    have k := h.2.2 H locs lsA hP hS hl
    rw [List.map_cons, show toV L (vI (x / 2 ^ y.toNat)) = .int (iN (x / 2 ^ y.toNat)) from rfl, ← iN_shr h.1 h.2.1] at k
    exact lv_ishr hx hb hd k
  · exact h.elim
theorem r_iushr (F : Fx p R s m args c cells slots cc nL own A L D cI cZ cR d)  (hd : decode cc pc = .ok (.iushr, 1)) : ∀ ls st M, f_ushr C d Q (sY p l e R s m args below meth c cells slots QQ nL A L D cI cZ cR) pc ls st M → (sY p l e R s m args below meth c cells slots QQ nL A L D cI cZ cR) pc ls st M := by
  intro ls st M h H locs lsA hP hS hl
  obtain ⟨hx, hb, hml, hown, hts, hK, hi, hA, hR, hcs, hNw⟩ := F
  unfold f_ushr at h
  split at h
  · rename_i y x st
    exact lv_iushr hx hb hd (iN_ushr h.1 h.2.1) (h.2.2 H locs lsA hP hS hl)
  · exact h.elim
theorem r_idiv (F : Fx p R s m args c cells slots cc nL own A L D cI cZ cR d)  (hd : decode cc pc = .ok (.idiv, 1)) : ∀ ls st M, f_div C d Q (sY p l e R s m args below meth c cells slots QQ nL A L D cI cZ cR) pc ls st M → (sY p l e R s m args below meth c cells slots QQ nL A L D cI cZ cR) pc ls st M := by
  intro ls st M h H locs lsA hP hS hl
  obtain ⟨hx, hb, hml, hown, hts, hK, hi, hA, hR, hcs, hNw⟩ := F
  unfold f_div at h
  split at h
  · rename_i y x st
    have k := h.2.2 H locs lsA hP hS hl
    rw [List.map_cons, show toV L (vI (x / y)) = .int (iN (x / y)) from rfl, ← iN_div h.1 h.2.1] at k
    refine lv_idiv hx hb hd (fun z => ?_) k
    have := (iN_eq (x := y) (y := 0) ⟨by omega, by omega⟩ iR_0).mp z
    omega
  · exact h.elim
theorem r_ladd (F : Fx p R s m args c cells slots cc nL own A L D cI cZ cR d)  (hd : decode cc pc = .ok (.ladd, 1)) : ∀ ls st M, f_ladd C d Q (sY p l e R s m args below meth c cells slots QQ nL A L D cI cZ cR) pc ls st M → (sY p l e R s m args below meth c cells slots QQ nL A L D cI cZ cR) pc ls st M := by
  intro ls st M h H locs lsA hP hS hl
  obtain ⟨hx, hb, hml, hown, hts, hK, hi, hA, hR, hcs, hNw⟩ := F
  unfold f_ladd at h
  split at h
  · rename_i y x st
    have k := h H locs lsA hP hS hl
    rw [List.map_cons, show toV L (vL (x + y)) = .long (Int64.ofInt (x + y)) from rfl, Int64.ofInt_add] at k
    exact lv_ladd hx hb hd k
  · exact h.elim
theorem r_lsub (F : Fx p R s m args c cells slots cc nL own A L D cI cZ cR d)  (hd : decode cc pc = .ok (.lsub, 1)) : ∀ ls st M, f_lsub C d Q (sY p l e R s m args below meth c cells slots QQ nL A L D cI cZ cR) pc ls st M → (sY p l e R s m args below meth c cells slots QQ nL A L D cI cZ cR) pc ls st M := by
  intro ls st M h H locs lsA hP hS hl
  obtain ⟨hx, hb, hml, hown, hts, hK, hi, hA, hR, hcs, hNw⟩ := F
  unfold f_lsub at h
  split at h
  · rename_i y x st
    have k := h H locs lsA hP hS hl
    rw [List.map_cons, show toV L (vL (x - y)) = .long (Int64.ofInt (x - y)) from rfl, Int64.ofInt_sub] at k
    exact lv_lsub hx hb hd k
  · exact h.elim
theorem r_lmul (F : Fx p R s m args c cells slots cc nL own A L D cI cZ cR d)  (hd : decode cc pc = .ok (.lmul, 1)) : ∀ ls st M, f_lmul C d Q (sY p l e R s m args below meth c cells slots QQ nL A L D cI cZ cR) pc ls st M → (sY p l e R s m args below meth c cells slots QQ nL A L D cI cZ cR) pc ls st M := by
  intro ls st M h H locs lsA hP hS hl
  obtain ⟨hx, hb, hml, hown, hts, hK, hi, hA, hR, hcs, hNw⟩ := F
  unfold f_lmul at h
  split at h
  · rename_i y x st
    have k := h H locs lsA hP hS hl
    rw [List.map_cons, show toV L (vL (x * y)) = .long (Int64.ofInt (x * y)) from rfl, Int64.ofInt_mul] at k
    exact lv_lmul hx hb hd k
  · exact h.elim
theorem r_ldiv (F : Fx p R s m args c cells slots cc nL own A L D cI cZ cR d)  (hd : decode cc pc = .ok (.ldiv, 1)) : ∀ ls st M, f_ldiv C d Q (sY p l e R s m args below meth c cells slots QQ nL A L D cI cZ cR) pc ls st M → (sY p l e R s m args below meth c cells slots QQ nL A L D cI cZ cR) pc ls st M := by
  intro ls st M h H locs lsA hP hS hl
  obtain ⟨hx, hb, hml, hown, hts, hK, hi, hA, hR, hcs, hNw⟩ := F
  unfold f_ldiv at h
  split at h
  · rename_i y x st
    have k := h.2.2 H locs lsA hP hS hl
    rw [List.map_cons, show toV L (vL (x / y)) = .long (lI (x / y)) from rfl, ← lI_div h.1 h.2.1] at k
    refine lv_ldiv hx hb hd (fun z => ?_) k
    have h2 := congrArg Int64.toInt z
    rw [lI_toInt (by unfold lR; omega)] at h2
    have h3 : (0 : Int64).toInt = 0 := rfl
    omega
  · exact h.elim
theorem r_lcmp (F : Fx p R s m args c cells slots cc nL own A L D cI cZ cR d)  (hd : decode cc pc = .ok (.lcmp, 1)) : ∀ ls st M, f_lcmp C d Q (sY p l e R s m args below meth c cells slots QQ nL A L D cI cZ cR) pc ls st M → (sY p l e R s m args below meth c cells slots QQ nL A L D cI cZ cR) pc ls st M := by
  intro ls st M h H locs lsA hP hS hl
  obtain ⟨hx, hb, hml, hown, hts, hK, hi, hA, hR, hcs, hNw⟩ := F
  unfold f_lcmp at h
  split at h
  · rename_i y x st
    have k := h.2.2 H locs lsA hP hS hl
    rw [List.map_cons, show toV L (vI (cmpL x y)) = .int (iN (cmpL x y)) from rfl, ← lI_cmp h.1 h.2.1] at k
    exact W.lcmp hx hb hd k
  · exact h.elim
theorem r_i2l (F : Fx p R s m args c cells slots cc nL own A L D cI cZ cR d)  (hd : decode cc pc = .ok (.i2l, 1)) : ∀ ls st M, f_i2l C d Q (sY p l e R s m args below meth c cells slots QQ nL A L D cI cZ cR) pc ls st M → (sY p l e R s m args below meth c cells slots QQ nL A L D cI cZ cR) pc ls st M := by
  intro ls st M h H locs lsA hP hS hl
  obtain ⟨hx, hb, hml, hown, hts, hK, hi, hA, hR, hcs, hNw⟩ := F
  unfold f_i2l at h
  split at h
  · exact lv_i2l hx hb hd (iN_i2l h.1) (h.2 H locs lsA hP hS hl)
  · exact h.elim
theorem r_dup (F : Fx p R s m args c cells slots cc nL own A L D cI cZ cR d)  (hd : decode cc pc = .ok (.dup, 1)) : ∀ ls st M, f_dup C d Q (sY p l e R s m args below meth c cells slots QQ nL A L D cI cZ cR) pc ls st M → (sY p l e R s m args below meth c cells slots QQ nL A L D cI cZ cR) pc ls st M := by
  intro ls st M h H locs lsA hP hS hl
  obtain ⟨hx, hb, hml, hown, hts, hK, hi, hA, hR, hcs, hNw⟩ := F
  unfold f_dup at h
  split at h
  · exact lv_dup hx hb hd rfl (h H locs lsA hP hS hl)
  · exact h.elim
theorem r_dup2 (F : Fx p R s m args c cells slots cc nL own A L D cI cZ cR d)  (hd : decode cc pc = .ok (.dup2, 1)) : ∀ ls st M, f_dup2 C d Q (sY p l e R s m args below meth c cells slots QQ nL A L D cI cZ cR) pc ls st M → (sY p l e R s m args below meth c cells slots QQ nL A L D cI cZ cR) pc ls st M := by
  intro ls st M h H locs lsA hP hS hl
  obtain ⟨hx, hb, hml, hown, hts, hK, hi, hA, hR, hcs, hNw⟩ := F
  unfold f_dup2 at h
  split at h
  · exact lv_dup2_11 hx hb hd rfl rfl (h H locs lsA hP hS hl)
  · exact h.elim
theorem r_pop (F : Fx p R s m args c cells slots cc nL own A L D cI cZ cR d)  (hd : decode cc pc = .ok (.pop, 1)) : ∀ ls st M, f_pop C d Q (sY p l e R s m args below meth c cells slots QQ nL A L D cI cZ cR) pc ls st M → (sY p l e R s m args below meth c cells slots QQ nL A L D cI cZ cR) pc ls st M := by
  intro ls st M h H locs lsA hP hS hl
  obtain ⟨hx, hb, hml, hown, hts, hK, hi, hA, hR, hcs, hNw⟩ := F
  unfold f_pop at h
  split at h
  · exact lv_pop hx hb hd rfl (h H locs lsA hP hS hl)
  · exact h.elim
theorem r_if_eq (F : Fx p R s m args c cells slots cc nL own A L D cI cZ cR d) {off : Int} {tgt : Nat} (hd : decode cc pc = .ok (.ifCond .eq off, 3)) (ht : (pc : Int) + off = (tgt : Int)) : ∀ ls st M, (f_if0 cEq cNe tgt) C d Q (sY p l e R s m args below meth c cells slots QQ nL A L D cI cZ cR) pc ls st M → (sY p l e R s m args below meth c cells slots QQ nL A L D cI cZ cR) pc ls st M := by
  intro ls st M h H locs lsA hP hS hl
  obtain ⟨hx, hb, hml, hown, hts, hK, hi, hA, hR, hcs, hNw⟩ := F
  unfold f_if0 at h
  split at h
  · rename_i x st
    exact lv_if_eq (tgt := tgt) hx hb hd ht (fun z => h.2.1 ((iN_eq h.1 iR_0).mp z) H locs lsA hP hS hl) (fun z => h.2.2 (fun q => z ((iN_eq h.1 iR_0).mpr q)) H locs lsA hP hS hl)
  · exact h.elim
theorem r_icmp_eq (F : Fx p R s m args c cells slots cc nL own A L D cI cZ cR d) {off : Int} {tgt : Nat} (hd : decode cc pc = .ok (.if_icmp .eq off, 3)) (ht : (pc : Int) + off = (tgt : Int)) : ∀ ls st M, (f_icmp cEq cNe tgt) C d Q (sY p l e R s m args below meth c cells slots QQ nL A L D cI cZ cR) pc ls st M → (sY p l e R s m args below meth c cells slots QQ nL A L D cI cZ cR) pc ls st M := by
  intro ls st M h H locs lsA hP hS hl
  obtain ⟨hx, hb, hml, hown, hts, hK, hi, hA, hR, hcs, hNw⟩ := F
  unfold f_icmp at h
  split at h
  · rename_i y x st
    exact lv_icmp_eq (tgt := tgt) hx hb hd ht (fun z => h.2.2.1 ((iN_eq h.1 h.2.1).mp z) H locs lsA hP hS hl) (fun z => h.2.2.2 (fun q => z ((iN_eq h.1 h.2.1).mpr q)) H locs lsA hP hS hl)
  · exact h.elim
theorem r_if_ne (F : Fx p R s m args c cells slots cc nL own A L D cI cZ cR d) {off : Int} {tgt : Nat} (hd : decode cc pc = .ok (.ifCond .ne off, 3)) (ht : (pc : Int) + off = (tgt : Int)) : ∀ ls st M, (f_if0 cNe cEq tgt) C d Q (sY p l e R s m args below meth c cells slots QQ nL A L D cI cZ cR) pc ls st M → (sY p l e R s m args below meth c cells slots QQ nL A L D cI cZ cR) pc ls st M := by
  intro ls st M h H locs lsA hP hS hl
  obtain ⟨hx, hb, hml, hown, hts, hK, hi, hA, hR, hcs, hNw⟩ := F
  unfold f_if0 at h
  split at h
  · rename_i x st
    exact lv_if_ne (tgt := tgt) hx hb hd ht (fun z => h.2.1 (fun q => z ((iN_eq h.1 iR_0).mpr q)) H locs lsA hP hS hl) (fun z => h.2.2 ((iN_eq h.1 iR_0).mp z) H locs lsA hP hS hl)
  · exact h.elim
theorem r_icmp_ne (F : Fx p R s m args c cells slots cc nL own A L D cI cZ cR d) {off : Int} {tgt : Nat} (hd : decode cc pc = .ok (.if_icmp .ne off, 3)) (ht : (pc : Int) + off = (tgt : Int)) : ∀ ls st M, (f_icmp cNe cEq tgt) C d Q (sY p l e R s m args below meth c cells slots QQ nL A L D cI cZ cR) pc ls st M → (sY p l e R s m args below meth c cells slots QQ nL A L D cI cZ cR) pc ls st M := by
  intro ls st M h H locs lsA hP hS hl
  obtain ⟨hx, hb, hml, hown, hts, hK, hi, hA, hR, hcs, hNw⟩ := F
  unfold f_icmp at h
  split at h
  · rename_i y x st
    exact lv_icmp_ne (tgt := tgt) hx hb hd ht (fun z => h.2.2.1 (fun q => z ((iN_eq h.1 h.2.1).mpr q)) H locs lsA hP hS hl) (fun z => h.2.2.2 ((iN_eq h.1 h.2.1).mp z) H locs lsA hP hS hl)
  · exact h.elim
theorem r_if_lt (F : Fx p R s m args c cells slots cc nL own A L D cI cZ cR d) {off : Int} {tgt : Nat} (hd : decode cc pc = .ok (.ifCond .lt off, 3)) (ht : (pc : Int) + off = (tgt : Int)) : ∀ ls st M, (f_if0 cLt cGe tgt) C d Q (sY p l e R s m args below meth c cells slots QQ nL A L D cI cZ cR) pc ls st M → (sY p l e R s m args below meth c cells slots QQ nL A L D cI cZ cR) pc ls st M := by
  intro ls st M h H locs lsA hP hS hl
  obtain ⟨hx, hb, hml, hown, hts, hK, hi, hA, hR, hcs, hNw⟩ := F
  unfold f_if0 at h
  split at h
  · rename_i x st
    exact lv_if_lt (tgt := tgt) hx hb hd ht (fun z => h.2.1 ((iN_lt h.1 iR_0).mp z) H locs lsA hP hS hl) (fun z => h.2.2 (Int.not_lt.mp (fun q => z ((iN_lt h.1 iR_0).mpr q))) H locs lsA hP hS hl)
  · exact h.elim
theorem r_icmp_lt (F : Fx p R s m args c cells slots cc nL own A L D cI cZ cR d) {off : Int} {tgt : Nat} (hd : decode cc pc = .ok (.if_icmp .lt off, 3)) (ht : (pc : Int) + off = (tgt : Int)) : ∀ ls st M, (f_icmp cLt cGe tgt) C d Q (sY p l e R s m args below meth c cells slots QQ nL A L D cI cZ cR) pc ls st M → (sY p l e R s m args below meth c cells slots QQ nL A L D cI cZ cR) pc ls st M := by
  intro ls st M h H locs lsA hP hS hl
  obtain ⟨hx, hb, hml, hown, hts, hK, hi, hA, hR, hcs, hNw⟩ := F
  unfold f_icmp at h
  split at h
  · rename_i y x st
    exact lv_icmp_lt (tgt := tgt) hx hb hd ht (fun z => h.2.2.1 ((iN_lt h.1 h.2.1).mp z) H locs lsA hP hS hl) (fun z => h.2.2.2 (Int.not_lt.mp (fun q => z ((iN_lt h.1 h.2.1).mpr q))) H locs lsA hP hS hl)
  · exact h.elim
theorem r_if_ge (F : Fx p R s m args c cells slots cc nL own A L D cI cZ cR d) {off : Int} {tgt : Nat} (hd : decode cc pc = .ok (.ifCond .ge off, 3)) (ht : (pc : Int) + off = (tgt : Int)) : ∀ ls st M, (f_if0 cGe cLt tgt) C d Q (sY p l e R s m args below meth c cells slots QQ nL A L D cI cZ cR) pc ls st M → (sY p l e R s m args below meth c cells slots QQ nL A L D cI cZ cR) pc ls st M := by
  intro ls st M h H locs lsA hP hS hl
  obtain ⟨hx, hb, hml, hown, hts, hK, hi, hA, hR, hcs, hNw⟩ := F
  unfold f_if0 at h
  split at h
  · rename_i x st
    exact lv_if_ge (tgt := tgt) hx hb hd ht (fun z => h.2.1 ((iN_le iR_0 h.1).mp z) H locs lsA hP hS hl) (fun z => h.2.2 (Int.not_le.mp (fun q => z ((iN_le iR_0 h.1).mpr q))) H locs lsA hP hS hl)
  · exact h.elim
theorem r_icmp_ge (F : Fx p R s m args c cells slots cc nL own A L D cI cZ cR d) {off : Int} {tgt : Nat} (hd : decode cc pc = .ok (.if_icmp .ge off, 3)) (ht : (pc : Int) + off = (tgt : Int)) : ∀ ls st M, (f_icmp cGe cLt tgt) C d Q (sY p l e R s m args below meth c cells slots QQ nL A L D cI cZ cR) pc ls st M → (sY p l e R s m args below meth c cells slots QQ nL A L D cI cZ cR) pc ls st M := by
  intro ls st M h H locs lsA hP hS hl
  obtain ⟨hx, hb, hml, hown, hts, hK, hi, hA, hR, hcs, hNw⟩ := F
  unfold f_icmp at h
  split at h
  · rename_i y x st
    exact lv_icmp_ge (tgt := tgt) hx hb hd ht (fun z => h.2.2.1 ((iN_le h.2.1 h.1).mp z) H locs lsA hP hS hl) (fun z => h.2.2.2 (Int.not_le.mp (fun q => z ((iN_le h.2.1 h.1).mpr q))) H locs lsA hP hS hl)
  · exact h.elim
theorem r_if_gt (F : Fx p R s m args c cells slots cc nL own A L D cI cZ cR d) {off : Int} {tgt : Nat} (hd : decode cc pc = .ok (.ifCond .gt off, 3)) (ht : (pc : Int) + off = (tgt : Int)) : ∀ ls st M, (f_if0 cGt cLe tgt) C d Q (sY p l e R s m args below meth c cells slots QQ nL A L D cI cZ cR) pc ls st M → (sY p l e R s m args below meth c cells slots QQ nL A L D cI cZ cR) pc ls st M := by
  intro ls st M h H locs lsA hP hS hl
  obtain ⟨hx, hb, hml, hown, hts, hK, hi, hA, hR, hcs, hNw⟩ := F
  unfold f_if0 at h
  split at h
  · rename_i x st
    exact lv_if_gt (tgt := tgt) hx hb hd ht (fun z => h.2.1 ((iN_lt iR_0 h.1).mp z) H locs lsA hP hS hl) (fun z => h.2.2 (Int.not_lt.mp (fun q => z ((iN_lt iR_0 h.1).mpr q))) H locs lsA hP hS hl)
  · exact h.elim
theorem r_icmp_gt (F : Fx p R s m args c cells slots cc nL own A L D cI cZ cR d) {off : Int} {tgt : Nat} (hd : decode cc pc = .ok (.if_icmp .gt off, 3)) (ht : (pc : Int) + off = (tgt : Int)) : ∀ ls st M, (f_icmp cGt cLe tgt) C d Q (sY p l e R s m args below meth c cells slots QQ nL A L D cI cZ cR) pc ls st M → (sY p l e R s m args below meth c cells slots QQ nL A L D cI cZ cR) pc ls st M := by
  intro ls st M h H locs lsA hP hS hl
  obtain ⟨hx, hb, hml, hown, hts, hK, hi, hA, hR, hcs, hNw⟩ := F
  unfold f_icmp at h
  split at h
  · rename_i y x st
    exact lv_icmp_gt (tgt := tgt) hx hb hd ht (fun z => h.2.2.1 ((iN_lt h.2.1 h.1).mp z) H locs lsA hP hS hl) (fun z => h.2.2.2 (Int.not_lt.mp (fun q => z ((iN_lt h.2.1 h.1).mpr q))) H locs lsA hP hS hl)
  · exact h.elim
theorem r_if_le (F : Fx p R s m args c cells slots cc nL own A L D cI cZ cR d) {off : Int} {tgt : Nat} (hd : decode cc pc = .ok (.ifCond .le off, 3)) (ht : (pc : Int) + off = (tgt : Int)) : ∀ ls st M, (f_if0 cLe cGt tgt) C d Q (sY p l e R s m args below meth c cells slots QQ nL A L D cI cZ cR) pc ls st M → (sY p l e R s m args below meth c cells slots QQ nL A L D cI cZ cR) pc ls st M := by
  intro ls st M h H locs lsA hP hS hl
  obtain ⟨hx, hb, hml, hown, hts, hK, hi, hA, hR, hcs, hNw⟩ := F
  unfold f_if0 at h
  split at h
  · rename_i x st
    exact lv_if_le (tgt := tgt) hx hb hd ht (fun z => h.2.1 ((iN_le h.1 iR_0).mp z) H locs lsA hP hS hl) (fun z => h.2.2 (Int.not_le.mp (fun q => z ((iN_le h.1 iR_0).mpr q))) H locs lsA hP hS hl)
  · exact h.elim
theorem r_icmp_le (F : Fx p R s m args c cells slots cc nL own A L D cI cZ cR d) {off : Int} {tgt : Nat} (hd : decode cc pc = .ok (.if_icmp .le off, 3)) (ht : (pc : Int) + off = (tgt : Int)) : ∀ ls st M, (f_icmp cLe cGt tgt) C d Q (sY p l e R s m args below meth c cells slots QQ nL A L D cI cZ cR) pc ls st M → (sY p l e R s m args below meth c cells slots QQ nL A L D cI cZ cR) pc ls st M := by
  intro ls st M h H locs lsA hP hS hl
  obtain ⟨hx, hb, hml, hown, hts, hK, hi, hA, hR, hcs, hNw⟩ := F
  unfold f_icmp at h
  split at h
  · rename_i y x st
    exact lv_icmp_le (tgt := tgt) hx hb hd ht (fun z => h.2.2.1 ((iN_le h.1 h.2.1).mp z) H locs lsA hP hS hl) (fun z => h.2.2.2 (Int.not_le.mp (fun q => z ((iN_le h.1 h.2.1).mpr q))) H locs lsA hP hS hl)
  · exact h.elim
theorem r_goto (F : Fx p R s m args c cells slots cc nL own A L D cI cZ cR d) {off : Int} {tgt : Nat} (hd : decode cc pc = .ok (.goto off, 3)) (ht : (pc : Int) + off = (tgt : Int)) : ∀ ls st M, (f_goto tgt) C d Q (sY p l e R s m args below meth c cells slots QQ nL A L D cI cZ cR) pc ls st M → (sY p l e R s m args below meth c cells slots QQ nL A L D cI cZ cR) pc ls st M := by
  intro ls st M h H locs lsA hP hS hl
  obtain ⟨hx, hb, hml, hown, hts, hK, hi, hA, hR, hcs, hNw⟩ := F
  exact lv_goto (tgt := tgt) hx hb hd ht (h H locs lsA hP hS hl)
theorem r_getI (F : Fx p R s m args c cells slots cc nL own A L D cI cZ cR d) {ci k idx N : Nat} {CN : String} {TT : u_T} (hd : decode cc pc = .ok (.getfield idx, 3)) (hc : vwCl[ci]? = some (CN, TT, N)) (hin : ∀ w ∈ u_ws CN TT N, w ∈ TB) (hk : k < N) (hw : Cond.fieldLink own idx (TT k).1 (TT k).2.1 (TT k).2.2.1 ∈ TB) (h9 : ci ≠ 9) (hv : ∀ (L : Nat → Nat) (i : Nat) (f : Nat → Int), (flds L ci i f)[k]? = some (.int (iN (f k)))) : ∀ ls st M, (f_getI ci k) C d Q (sY p l e R s m args below meth c cells slots QQ nL A L D cI cZ cR) pc ls st M → (sY p l e R s m args below meth c cells slots QQ nL A L D cI cZ cR) pc ls st M := by
  intro ls st M h H locs lsA hP hS hl
  obtain ⟨hx, hb, hml, hown, hts, hK, hi, hA, hR, hcs, hNw⟩ := F
  unfold f_getI at h
  split at h
  · rename_i i st
    have hlt := clsOf_lt h.1 h9
    have hat := wW.at (L := L) (cI := cI) (cZ := cZ) (cR := cR) (M := M) hlt
    rw [clsOf_cE h.1 h9] at hat
    exact va_get (D := D) hx hb hts hin hown hK hP i hat hc k hk (hts _ hw) (fun _ z => z) (hv L i (M i)) hd (h.2 H locs lsA hP hS hl)
  · exact h.elim
theorem r_getR (F : Fx p R s m args c cells slots cc nL own A L D cI cZ cR d) {ci k idx N : Nat} {CN : String} {TT : u_T} {tg : Nat → Nat} (hd : decode cc pc = .ok (.getfield idx, 3)) (hc : vwCl[ci]? = some (CN, TT, N)) (hin : ∀ w ∈ u_ws CN TT N, w ∈ TB) (hk : k < N) (hw : Cond.fieldLink own idx (TT k).1 (TT k).2.1 (TT k).2.2.1 ∈ TB) (h9 : ci ≠ 9) (hv : ∀ (L : Nat → Nat) (i : Nat) (f : Nat → Int), (flds L ci i f)[k]? = some (.ref (L (tg i)))) : ∀ ls st M, (f_getR ci k tg) C d Q (sY p l e R s m args below meth c cells slots QQ nL A L D cI cZ cR) pc ls st M → (sY p l e R s m args below meth c cells slots QQ nL A L D cI cZ cR) pc ls st M := by
  intro ls st M h H locs lsA hP hS hl
  obtain ⟨hx, hb, hml, hown, hts, hK, hi, hA, hR, hcs, hNw⟩ := F
  unfold f_getR at h
  split at h
  · rename_i i st
    have hlt := clsOf_lt h.1 h9
    have hat := wW.at (L := L) (cI := cI) (cZ := cZ) (cR := cR) (M := M) hlt
    rw [clsOf_cE h.1 h9] at hat
    exact va_get (D := D) hx hb hts hin hown hK hP i hat hc k hk (hts _ hw) (fun _ z => z) (hv L i (M i)) hd (h.2 H locs lsA hP hS hl)
  · exact h.elim
theorem r_putI (F : Fx p R s m args c cells slots cc nL own A L D cI cZ cR d) {ci k idx N : Nat} {CN : String} {TT : u_T} {ty0 : Nat → FieldType} (hd : decode cc pc = .ok (.putfield idx, 3)) (hc : vwCl[ci]? = some (CN, TT, N)) (hin : ∀ w ∈ u_ws CN TT N, w ∈ TB) (hk : k < N) (hw : Cond.fieldLink own idx (TT k).1 (TT k).2.1 (TT k).2.2.1 ∈ TB) (h9 : ci ≠ 9) (hty : ∀ k, k < N → parseFieldDescriptor (TT k).2.2.1 = some (ty0 k)) (hnm : ∀ a, a < N → ∀ b, b < N → a ≠ b → (TT a).2.1 ≠ (TT b).2.1) (hfin : (TT k).2.2.2 = false) (hd2 : parseFieldDescriptor (TT k).2.2.1 = some .int) (hl2 : ∀ (L : Nat → Nat) (i : Nat) (f : Nat → Int), k < (flds L ci i f).length) (hs : ∀ (L : Nat → Nat) (i : Nat) (f : Nat → Int) (x : Int), (flds L ci i f).set k (.int (iN x)) = flds L ci i (fun b => if b = k then x else f b)) : ∀ ls st M, (f_putI ci k) C d Q (sY p l e R s m args below meth c cells slots QQ nL A L D cI cZ cR) pc ls st M → (sY p l e R s m args below meth c cells slots QQ nL A L D cI cZ cR) pc ls st M := by
  intro ls st M h H locs lsA hP hS hl
  obtain ⟨hx, hb, hml, hown, hts, hK, hi, hA, hR, hcs, hNw⟩ := F
  unfold f_putI at h
  split at h
  · rename_i x i st
    have hlt := clsOf_lt h.1 h9
    have hat := wW.at (L := L) (cI := cI) (cZ := cZ) (cR := cR) (M := M) hlt
    rw [clsOf_cE h.1 h9] at hat
    refine va_put (D := D) hx hb hts hin ty0 hty hnm hown hK hP (wW.D hi hA) hS i hat hc k hk (hts _ hw) (fun _ z => z) hfin (ty := .int) (v := .int (iN x)) hd2 rfl rfl (hl2 _ _ _) hd (fun H1 locs1 hP1 _ hS1 => h.2 H1 locs1 lsA ?_ hS1 hl)
    rw [← wW.set hlt (M := M) (fun a ha => upM_o ha), clsOf_cE h.1 h9]
    have e2 : upM M i k x i = fun b => if b = k then x else M i b := by funext b; exact upM_i
    rw [e2, ← hs]
    exact hP1
  · exact h.elim
theorem r_putZ (F : Fx p R s m args c cells slots cc nL own A L D cI cZ cR d) {ci k idx N : Nat} {CN : String} {TT : u_T} {ty0 : Nat → FieldType} (hd : decode cc pc = .ok (.putfield idx, 3)) (hc : vwCl[ci]? = some (CN, TT, N)) (hin : ∀ w ∈ u_ws CN TT N, w ∈ TB) (hk : k < N) (hw : Cond.fieldLink own idx (TT k).1 (TT k).2.1 (TT k).2.2.1 ∈ TB) (h9 : ci ≠ 9) (hty : ∀ k, k < N → parseFieldDescriptor (TT k).2.2.1 = some (ty0 k)) (hnm : ∀ a, a < N → ∀ b, b < N → a ≠ b → (TT a).2.1 ≠ (TT b).2.1) (hfin : (TT k).2.2.2 = false) (hd2 : parseFieldDescriptor (TT k).2.2.1 = some .boolean) (hl2 : ∀ (L : Nat → Nat) (i : Nat) (f : Nat → Int), k < (flds L ci i f).length) (hs : ∀ (L : Nat → Nat) (i : Nat) (f : Nat → Int) (x : Int), (flds L ci i f).set k (.int (iN x)) = flds L ci i (fun b => if b = k then x else f b)) : ∀ ls st M, (f_putZ ci k) C d Q (sY p l e R s m args below meth c cells slots QQ nL A L D cI cZ cR) pc ls st M → (sY p l e R s m args below meth c cells slots QQ nL A L D cI cZ cR) pc ls st M := by
  intro ls st M h H locs lsA hP hS hl
  obtain ⟨hx, hb, hml, hown, hts, hK, hi, hA, hR, hcs, hNw⟩ := F
  unfold f_putZ at h
  split at h
  · rename_i x i st
    have hlt := clsOf_lt h.1 h9
    have hat := wW.at (L := L) (cI := cI) (cZ := cZ) (cR := cR) (M := M) hlt
    rw [clsOf_cE h.1 h9] at hat
    refine va_put (D := D) hx hb hts hin ty0 hty hnm hown hK hP (wW.D hi hA) hS i hat hc k hk (hts _ hw) (fun _ z => z) hfin (ty := .boolean) (v := .int (iN x)) hd2 (nar_z h.2.1) (fit_z h.2.1) (hl2 _ _ _) hd (fun H1 locs1 hP1 _ hS1 => h.2.2 H1 locs1 lsA ?_ hS1 hl)
    rw [← wW.set hlt (M := M) (fun a ha => upM_o ha), clsOf_cE h.1 h9]
    have e2 : upM M i k x i = fun b => if b = k then x else M i b := by funext b; exact upM_i
    rw [e2, ← hs]
    exact hP1
  · exact h.elim
theorem r_iald (F : Fx p R s m args c cells slots cc nL own A L D cI cZ cR d)  (hd : decode cc pc = .ok (.iaload, 1)) : ∀ ls st M, f_iald C d Q (sY p l e R s m args below meth c cells slots QQ nL A L D cI cZ cR) pc ls st M → (sY p l e R s m args below meth c cells slots QQ nL A L D cI cZ cR) pc ls st M := by
  intro ls st M h H locs lsA hP hS hl
  obtain ⟨hx, hb, hml, hown, hts, hK, hi, hA, hR, hcs, hNw⟩ := F
  unfold f_iald at h
  split at h
  · rename_i x i st
    obtain ⟨⟨h0, h1⟩, k⟩ := h
    have hp : 0 < alen i := by omega
    obtain ⟨hlt, -, -, -, h8⟩ := alen_ok hp
    have hat := wW.at (L := L) (cI := cI) (cZ := cZ) (cR := cR) (M := M) hlt
    rw [alen_cE hp] at hat
    obtain ⟨hin, hc⟩ := iN_in (n := (alen i).toNat) h0 (by omega) (by omega)
    refine va_iald (D := D) hx hb hK hP i 0 hat rfl hin hd ?_
    rw [hc]
    exact k H locs lsA hP hS hl
  · exact h.elim
theorem r_iast (F : Fx p R s m args c cells slots cc nL own A L D cI cZ cR d)  (hd : decode cc pc = .ok (.iastore, 1)) : ∀ ls st M, f_iast C d Q (sY p l e R s m args below meth c cells slots QQ nL A L D cI cZ cR) pc ls st M → (sY p l e R s m args below meth c cells slots QQ nL A L D cI cZ cR) pc ls st M := by
  intro ls st M h H locs lsA hP hS hl
  obtain ⟨hx, hb, hml, hown, hts, hK, hi, hA, hR, hcs, hNw⟩ := F
  unfold f_iast at h
  split at h
  · rename_i v x i st
    obtain ⟨⟨h0, h1⟩, k⟩ := h
    have hp : 0 < alen i := by omega
    obtain ⟨hlt, -, -, -, h8⟩ := alen_ok hp
    have hat := wW.at (L := L) (cI := cI) (cZ := cZ) (cR := cR) (M := M) hlt
    rw [alen_cE hp] at hat
    obtain ⟨hin, hc⟩ := iN_in (n := (alen i).toNat) h0 (by omega) (by omega)
    refine va_iast (D := D) hx hb hK hP (wW.D hi hA) hS i 0 hat rfl hin hd (fun H1 locs1 hP1 _ hS1 => k H1 locs1 lsA ?_ hS1 hl)
    rw [← wW.set hlt (M := M) (fun a ha => upM_o ha), alen_cE hp]
    rw [hc] at hP1
    have e2 : (fun j => iN (upM M i x.toNat v i j)) = upd (fun j => iN (M i j)) x.toNat (iN v) := by
      funext b
      rw [upM_i]
      unfold upd
      split <;> rfl
    rw [e2]
    exact hP1
  · exact h.elim
theorem r_zald (F : Fx p R s m args c cells slots cc nL own A L D cI cZ cR d)  (hd : decode cc pc = .ok (.baload, 1)) : ∀ ls st M, f_zald C d Q (sY p l e R s m args below meth c cells slots QQ nL A L D cI cZ cR) pc ls st M → (sY p l e R s m args below meth c cells slots QQ nL A L D cI cZ cR) pc ls st M := by
  intro ls st M h H locs lsA hP hS hl
  obtain ⟨hx, hb, hml, hown, hts, hK, hi, hA, hR, hcs, hNw⟩ := F
  unfold f_zald at h
  split at h
  · rename_i x i st
    obtain ⟨rfl, ⟨h0, h1⟩, k⟩ := h
    have hat := wW.at (L := L) (cI := cI) (cZ := cZ) (cR := cR) (M := M) (i := 89) (by decide)
    obtain ⟨hin, hc⟩ := iN_in (n := 24) h0 (by omega) (by omega)
    refine va_zald (D := D) hx hb hK hP 89 1 hat rfl hin hd ?_
    rw [hc]
    exact k H locs lsA hP hS hl
  · exact h.elim
theorem r_zast (F : Fx p R s m args c cells slots cc nL own A L D cI cZ cR d)  (hd : decode cc pc = .ok (.bastore, 1)) : ∀ ls st M, f_zast C d Q (sY p l e R s m args below meth c cells slots QQ nL A L D cI cZ cR) pc ls st M → (sY p l e R s m args below meth c cells slots QQ nL A L D cI cZ cR) pc ls st M := by
  intro ls st M h H locs lsA hP hS hl
  obtain ⟨hx, hb, hml, hown, hts, hK, hi, hA, hR, hcs, hNw⟩ := F
  unfold f_zast at h
  split at h
  · rename_i v x i st
    obtain ⟨rfl, ⟨h0, h1⟩, hv, k⟩ := h
    have hat := wW.at (L := L) (cI := cI) (cZ := cZ) (cR := cR) (M := M) (i := 89) (by decide)
    obtain ⟨hin, hc⟩ := iN_in (n := 24) h0 (by omega) (by omega)
    refine va_zast (D := D) hx hb hK hP (wW.D hi hA) hS 89 1 hat rfl hin hd (fun H1 locs1 hP1 _ hS1 => k H1 locs1 lsA ?_ hS1 hl)
    rw [← wW.set (i := 89) (by decide) (M := M) (fun a ha => upM_o ha)]
    rw [hc, nar_zz hv] at hP1
    have e2 : (fun j => iN (upM M 89 x.toNat v 89 j)) = upd (fun j => iN (M 89 j)) x.toNat (iN v) := by
      funext b
      rw [upM_i]
      unfold upd
      split <;> rfl
    have e3 : cE L cI cZ cR 89 (upM M 89 x.toNat v 89) = .inl (cZ, 24, .inl (fun j => iN (upM M 89 x.toNat v 89 j))) := rfl
    rw [e3, e2]
    exact hP1
  · exact h.elim
theorem r_aald (F : Fx p R s m args c cells slots cc nL own A L D cI cZ cR d)  (hd : decode cc pc = .ok (.aaload, 1)) : ∀ ls st M, f_aald C d Q (sY p l e R s m args below meth c cells slots QQ nL A L D cI cZ cR) pc ls st M → (sY p l e R s m args below meth c cells slots QQ nL A L D cI cZ cR) pc ls st M := by
  intro ls st M h H locs lsA hP hS hl
  obtain ⟨hx, hb, hml, hown, hts, hK, hi, hA, hR, hcs, hNw⟩ := F
  unfold f_aald at h
  split at h
  · rename_i x i st
    obtain ⟨rfl, ⟨h0, h1⟩, k⟩ := h
    have hat := wW.at (L := L) (cI := cI) (cZ := cZ) (cR := cR) (M := M) (i := 12) (by decide)
    obtain ⟨hin, hc⟩ := iN_in (n := 24) h0 (by omega) (by omega)
    refine va_aldq (D := D) hx hb hK hP 12 2 hat rfl hin hd ?_
    rw [hc]
    exact k H locs lsA hP hS hl
  · exact h.elim
theorem r_tsw (F : Fx p R s m args c cells slots cc nL own A L D cI cZ cR d) {lo hh dflt : Int} {offs : Array Int} {len : Nat} {ts : List Nat} {td : Nat} (hd : decode cc pc = .ok (.tableswitch dflt lo hh offs, len)) (htd : (pc : Int) + dflt = (td : Int)) (hts2 : offs.toList.map (fun o => (pc : Int) + o) = ts.map (fun t : Nat => (t : Int))) (hlen : lo + (ts.length : Int) = hh + 1) : ∀ ls st M, (f_tsw lo hh ts td) C d Q (sY p l e R s m args below meth c cells slots QQ nL A L D cI cZ cR) pc ls st M → (sY p l e R s m args below meth c cells slots QQ nL A L D cI cZ cR) pc ls st M := by
  intro ls st M h H locs lsA hP hS hl
  obtain ⟨hx, hb, hml, hown, hts, hK, hi, hA, hR, hcs, hNw⟩ := F
  unfold f_tsw at h
  split at h
  · rename_i x st
    obtain ⟨hr, h1, h2⟩ := h
    by_cases q : x < lo ∨ hh < x
    · exact lv_tableOut hx hb hd (by rw [iN_toInt hr]; exact q) htd (h1 q H locs lsA hP hS hl)
    · have q1 : ¬ x < lo := fun z => q (Or.inl z)
      have q2 : ¬ hh < x := fun z => q (Or.inr z)
      obtain ⟨t, ht, hy⟩ := swL.get h2 (x - lo).toNat (by omega) (by omega)
      have h3 : (offs.toList.map (fun o => (pc : Int) + o))[(x - lo).toNat]? = some (t : Int) := by rw [hts2, List.getElem?_map, ht]; rfl
      rw [List.getElem?_map] at h3
      cases ho : offs.toList[(x - lo).toNat]? with
      | none => rw [ho] at h3; cases h3
      | some o =>
        rw [ho] at h3
        exact lv_tableIn (off := o) (tgt := t) hx hb hd (by rw [iN_toInt hr]; exact q1) (by rw [iN_toInt hr]; exact q2) (by rw [iN_toInt hr, ← Array.getElem?_toList]; exact ho) (Option.some.inj h3) (hy H locs lsA hP hS hl)
  · exact h.elim
end RR
end
section
/-! the methods by number; the words of the tables that are used (printed by wip/gen/gen.py) -/
def mT : Nat → MethodName × ByteArray × Nat × Option FieldType := fun k => match k with
  | 0 => (yX0_forget, prog_2_method_2_code, 1, none)
  | 1 => (yX0_add, prog_2_method_3_code, 3, none)
  | 2 => (yX0_isFull, prog_2_method_4_code, 1, (some .boolean))
  | 3 => (yX0_holds, prog_2_method_5_code, 2, (some .boolean))
  | 4 => (yX0_size, prog_2_method_6_code, 1, (some .int))
  | 5 => (yX0_patternAt, prog_2_method_7_code, 2, (some .int))
  | 6 => (yX0_rowsThenAt, prog_2_method_8_code, 2, (some .int))
  | 7 => (yX1_lay, prog_3_method_2_code, 4, (some .boolean))
  | 8 => (yX1_climb, prog_3_method_3_code, 5, (some .int))
  | 9 => (yX1_is, prog_3_method_4_code, 3, (some .boolean))
  | 10 => (yX1_liesJustUnder, prog_3_method_5_code, 3, (some .boolean))
  | 11 => (yX2_takeUp, prog_4_method_2_code, 6, none)
  | 12 => (yX2_isIn, prog_4_method_3_code, 3, (some .boolean))
  | 13 => (yX2_lastEnd, prog_4_method_4_code, 4, (some .int))
  | 14 => (yX2_kindsBehind, prog_4_method_5_code, 4, (some .int))
  | 15 => (yX2_loseChains, prog_4_method_6_code, 2, none)
  | 16 => (yX2_endsMatch, prog_4_method_7_code, 7, (some .boolean))
  | 17 => (yX2_canFollow, prog_4_method_8_code, 4, (some .boolean))
  | 18 => (yX2_matchesIn, prog_4_method_9_code, 5, (some .long))
  | 19 => (yX2_placeInFirst, prog_4_method_10_code, 3, (some .int))
  | 20 => (yX2_goToFirstMatch, prog_4_method_11_code, 2, (some .boolean))
  | 21 => (yX2_goToNextMatch, prog_4_method_12_code, 5, (some .boolean))
  | 22 => (yX2_nextPlace, prog_4_method_13_code, 4, (some .int))
  | 23 => (yX2_canStandAt, prog_4_method_14_code, 5, (some .boolean))
  | 24 => (yX3_of, prog_5_method_2_code, 4, (some .int))
  | 25 => (yX3_isKindOrNone, prog_5_method_3_code, 1, (some .boolean))
  | 26 => (yX3_lengthen, prog_5_method_4_code, 2, (some .int))
  | 27 => (yX3_length, prog_5_method_5_code, 2, (some .int))
  | 28 => (yX3_item, prog_5_method_6_code, 3, (some .int))
  | 29 => (yX3_lastItem, prog_5_method_7_code, 1, (some .int))
  | 30 => (yX3_withoutLast, prog_5_method_8_code, 1, (some .int))
  | 31 => (yX3_insert, prog_5_method_9_code, 5, (some .int))
  | 32 => (yX3_replace, prog_5_method_10_code, 4, (some .int))
  | 33 => (yX4_begin, prog_6_method_2_code, 2, none)
  | 34 => (yX4_append, prog_6_method_3_code, 3, (some .int))
  | 35 => (yX4_size, prog_6_method_4_code, 1, (some .int))
  | 36 => (yX4_tickAt, prog_6_method_5_code, 2, (some .int))
  | 37 => (yX4_kindAt, prog_6_method_6_code, 2, (some .int))
  | 38 => (yX4_bitsAt, prog_6_method_7_code, 3, (some .int))
  | 39 => (yX4_howMany, prog_6_method_8_code, 5, (some .int))
  | 40 => (yX5_under, prog_1_method_2_code, 3, (some .boolean))
  | 41 => (yX5_row, prog_1_method_3_code, 2, (some .int))
  | 42 => (yX5_put, prog_1_method_4_code, 4, (some .int))
  | 43 => (yX5_take, prog_1_method_5_code, 3, (some .boolean))
  | 44 => (yX5_gap, prog_1_method_6_code, 2, (some .boolean))
  | 45 => (yX5_span, prog_1_method_7_code, 2, (some .boolean))
  | 46 => (yX5_count, prog_1_method_8_code, 6, (some .int))
  | 47 => (yX5_matches, prog_1_method_9_code, 7, (some .long))
  | 48 => (yX5_match, prog_1_method_10_code, 8, (some .int))
  | 49 => (yX5_find, prog_1_method_11_code, 4, (some .int))
  | 50 => (yX5_found, prog_1_method_12_code, 3, (some .int))
  | 51 => (yX5_closed, prog_1_method_13_code, 4, (some .int))
  | 52 => (yX5_best, prog_1_method_14_code, 10, (some .int))
  | 53 => (yX5_expected, prog_1_method_15_code, 6, (some .long))
  | 54 => (yX5_share, prog_1_method_16_code, 7, (some .int))
  | 55 => (yX5_lacking, prog_1_method_17_code, 9, (some .int))
  | 56 => (yX5_sure, prog_1_method_18_code, 7, (some .int))
  | 57 => (yX5_look, prog_1_method_19_code, 4, (some .int))
  | 58 => (yX5_isUnder, prog_1_method_20_code, 3, (some .int))
  | 59 => (yX5_tell, prog_1_method_21_code, 2, (some .int))
  | 60 => (yX5_isKind, prog_1_method_22_code, 1, (some .boolean))
  | 61 => (yX5_isTick, prog_1_method_23_code, 1, (some .boolean))
  | 62 => (yX5_isAmong, prog_1_method_24_code, 2, (some .boolean))
  | 63 => (yX5_isRow, prog_1_method_25_code, 2, (some .boolean))
  | 64 => (yX5_lookAtRow, prog_1_method_26_code, 2, (some .int))
  | 65 => (yX5_happeningsInAll, prog_1_method_27_code, 3, (some .int))
  | 66 => (yX5_rowsInOf, prog_1_method_28_code, 4, (some .int))
  | 67 => (yX5_rowsIn, prog_1_method_29_code, 1, (some .int))
  | 68 => (yX5_rowsWith, prog_1_method_30_code, 4, (some .int))
  | 69 => (yX5_countOf, prog_1_method_31_code, 2, (some .int))
  | 70 => (yX5_rowsLacking, prog_1_method_32_code, 2, (some .int))
  | 71 => (yX5_gatherRowsBehind, prog_1_method_33_code, 6, none)
  | 72 => (yX5_findLonger, prog_1_method_34_code, 5, none)
  | 73 => (yX5_longerSays, prog_1_method_35_code, 6, (some .boolean))
  | 74 => (yX5_narrowerSays, prog_1_method_36_code, 7, (some .boolean))
  | 75 => (yX5_howFarApart, prog_1_method_37_code, 5, (some .int))
  | 76 => (yX5_chanceAhead, prog_1_method_38_code, 4, (some .long))
  | 77 => (yX5_waysToChoose, prog_1_method_39_code, 5, (some .long))
  | 78 => (yX6_lies, prog_8_method_2_code, 3, (some .boolean))
  | 79 => (yX6_isKind, prog_8_method_3_code, 1, (some .boolean))
  | 80 => (yX6_isRow, prog_8_method_4_code, 2, (some .boolean))
  | 81 => (yX6_isOf, prog_8_method_5_code, 4, (some .boolean))
  | 82 => (yX6_under, prog_8_method_6_code, 3, (some .boolean))
  | 83 => (yX6_isUnder, prog_8_method_7_code, 3, (some .int))
  | 84 => (yX6_row, prog_8_method_8_code, 2, (some .int))
  | 85 => (yX6_put, prog_8_method_9_code, 5, (some .int))
  | 86 => (yX6_take, prog_8_method_10_code, 3, (some .boolean))
  | 87 => (yX6_gap, prog_8_method_11_code, 2, (some .boolean))
  | 88 => (yX6_span, prog_8_method_12_code, 2, (some .boolean))
  | 89 => (yX6_takes, prog_8_method_13_code, 6, (some .boolean))
  | 90 => (yX6_isAt, prog_8_method_14_code, 4, (some .boolean))
  | 91 => (yX6_leads, prog_8_method_15_code, 4, (some .boolean))
  | 92 => (yX6_spans, prog_8_method_16_code, 4, (some .boolean))
  | 93 => (yX6_maps, prog_8_method_17_code, 6, none)
  | 94 => (yX6_mapsAll, prog_8_method_18_code, 2, none)
  | 95 => (yX6_ends, prog_8_method_19_code, 8, (some .int))
  | 96 => (yX6_has, prog_8_method_20_code, 4, (some .boolean))
  | 97 => (yX6_countOf, prog_8_method_21_code, 4, (some .int))
  | 98 => (yX6_count, prog_8_method_22_code, 5, (some .int))
  | 99 => (yX6_next, prog_8_method_23_code, 4, (some .boolean))
  | 100 => (yX6_matches, prog_8_method_24_code, 9, (some .long))
  | 101 => (yX6_match, prog_8_method_25_code, 7, (some .int))
  | 102 => (yX6_isThere, prog_8_method_26_code, 3, (some .boolean))
  | 103 => (yX6_keeps, prog_8_method_27_code, 4, none)
  | 104 => (yX6_find, prog_8_method_28_code, 10, (some .int))
  | 105 => (yX6_found, prog_8_method_29_code, 3, (some .int))
  | 106 => (yX6_takesFound, prog_8_method_30_code, 2, (some .boolean))
  | 107 => (yX6_closed, prog_8_method_31_code, 8, (some .int))
  | 108 => (yX6_inHeap, prog_8_method_32_code, 5, (some .int))
  | 109 => (yX6_best, prog_8_method_33_code, 6, (some .int))
  | 110 => (yX6_those, prog_8_method_34_code, 5, (some .int))
  | 111 => (yX6_ways, prog_8_method_35_code, 5, (some .long))
  | 112 => (yX6_expected, prog_8_method_36_code, 8, (some .long))
  | 113 => (yX6_share, prog_8_method_37_code, 6, (some .int))
  | 114 => (yX6_isLacking, prog_8_method_38_code, 2, (some .boolean))
  | 115 => (yX6_lacking, prog_8_method_39_code, 8, (some .int))
  | 116 => (yX6_sure, prog_8_method_40_code, 9, (some .int))
  | 117 => (yX6_look, prog_8_method_41_code, 4, (some .int))
  | 118 => (yX6_tell, prog_8_method_42_code, 4, (some .int))
  | 119 => (yJ6_bitCount_0f7a4, prog_9_method_49_code, 1, (some .int))
  | 120 => (yJ9_abs_0f7a4, prog_10_method_59_code, 1, (some .int))
  | 121 => (yJ9_min_7cf53, prog_10_method_69_code, 2, (some .int))
  | _ => (yX0_init, cX0_init, 1, none)
theorem w_0 : Cond.selects RX1 yX1_climb yX1_climb ∈ TB := TB.mem (List.mem_of_getElem? (i := 0) (by decide +kernel)) (by decide +kernel)
theorem w_1 : Cond.selects RX5 yX5_isRow yX5_isRow ∈ TB := TB.mem (List.mem_of_getElem? (i := 1) (by decide +kernel)) (by decide +kernel)
theorem w_2 : Cond.selects RX5 yX5_countOf yX5_countOf ∈ TB := TB.mem (List.mem_of_getElem? (i := 2) (by decide +kernel)) (by decide +kernel)
theorem w_3 : Cond.selects RX5 yX5_rowsWith yX5_rowsWith ∈ TB := TB.mem (List.mem_of_getElem? (i := 3) (by decide +kernel)) (by decide +kernel)
theorem w_4 : Cond.selects RX2 yX2_loseChains yX2_loseChains ∈ TB := TB.mem (List.mem_of_getElem? (i := 4) (by decide +kernel)) (by decide +kernel)
theorem w_5 : Cond.selects RX2 yX2_endsMatch yX2_endsMatch ∈ TB := TB.mem (List.mem_of_getElem? (i := 5) (by decide +kernel)) (by decide +kernel)
theorem w_6 : Cond.selects RX2 yX2_canFollow yX2_canFollow ∈ TB := TB.mem (List.mem_of_getElem? (i := 6) (by decide +kernel)) (by decide +kernel)
theorem w_7 : Cond.selects RX2 yX2_goToFirstMatch yX2_goToFirstMatch ∈ TB := TB.mem (List.mem_of_getElem? (i := 7) (by decide +kernel)) (by decide +kernel)
theorem w_8 : Cond.selects RX2 yX2_goToNextMatch yX2_goToNextMatch ∈ TB := TB.mem (List.mem_of_getElem? (i := 8) (by decide +kernel)) (by decide +kernel)
theorem w_9 : Cond.selects RX2 yX2_nextPlace yX2_nextPlace ∈ TB := TB.mem (List.mem_of_getElem? (i := 9) (by decide +kernel)) (by decide +kernel)
theorem w_10 : Cond.selects RX2 yX2_canStandAt yX2_canStandAt ∈ TB := TB.mem (List.mem_of_getElem? (i := 10) (by decide +kernel)) (by decide +kernel)
theorem w_11 : Cond.selects RX5 yX5_rowsIn yX5_rowsIn ∈ TB := TB.mem (List.mem_of_getElem? (i := 11) (by decide +kernel)) (by decide +kernel)
theorem w_12 : Cond.selects RX5 yX5_rowsInOf yX5_rowsInOf ∈ TB := TB.mem (List.mem_of_getElem? (i := 12) (by decide +kernel)) (by decide +kernel)
theorem w_13 : Cond.selects RX5 yX5_findLonger yX5_findLonger ∈ TB := TB.mem (List.mem_of_getElem? (i := 13) (by decide +kernel)) (by decide +kernel)
theorem w_14 : Cond.selects RX5 yX5_gatherRowsBehind yX5_gatherRowsBehind ∈ TB := TB.mem (List.mem_of_getElem? (i := 14) (by decide +kernel)) (by decide +kernel)
theorem w_15 : Cond.selects RX5 yX5_longerSays yX5_longerSays ∈ TB := TB.mem (List.mem_of_getElem? (i := 15) (by decide +kernel)) (by decide +kernel)
theorem w_16 : Cond.selects RX5 yX5_narrowerSays yX5_narrowerSays ∈ TB := TB.mem (List.mem_of_getElem? (i := 16) (by decide +kernel)) (by decide +kernel)
theorem w_17 : Cond.selects RX5 yX5_rowsLacking yX5_rowsLacking ∈ TB := TB.mem (List.mem_of_getElem? (i := 17) (by decide +kernel)) (by decide +kernel)
theorem w_18 : Cond.selects RX5 yX5_happeningsInAll yX5_happeningsInAll ∈ TB := TB.mem (List.mem_of_getElem? (i := 18) (by decide +kernel)) (by decide +kernel)
theorem w_19 : Cond.selects RX6 yX6_isOf yX6_isOf ∈ TB := TB.mem (List.mem_of_getElem? (i := 19) (by decide +kernel)) (by decide +kernel)
theorem w_20 : Cond.selects RX6 yX6_isRow yX6_isRow ∈ TB := TB.mem (List.mem_of_getElem? (i := 20) (by decide +kernel)) (by decide +kernel)
theorem w_21 : Cond.selects RX6 yX6_takes yX6_takes ∈ TB := TB.mem (List.mem_of_getElem? (i := 21) (by decide +kernel)) (by decide +kernel)
theorem w_22 : Cond.selects RX6 yX6_mapsAll yX6_mapsAll ∈ TB := TB.mem (List.mem_of_getElem? (i := 22) (by decide +kernel)) (by decide +kernel)
theorem w_23 : Cond.selects RX6 yX6_maps yX6_maps ∈ TB := TB.mem (List.mem_of_getElem? (i := 23) (by decide +kernel)) (by decide +kernel)
theorem w_24 : Cond.selects RX6 yX6_leads yX6_leads ∈ TB := TB.mem (List.mem_of_getElem? (i := 24) (by decide +kernel)) (by decide +kernel)
theorem w_25 : Cond.selects RX6 yX6_spans yX6_spans ∈ TB := TB.mem (List.mem_of_getElem? (i := 25) (by decide +kernel)) (by decide +kernel)
theorem w_26 : Cond.selects RX6 yX6_countOf yX6_countOf ∈ TB := TB.mem (List.mem_of_getElem? (i := 26) (by decide +kernel)) (by decide +kernel)
theorem w_27 : Cond.selects RX6 yX6_has yX6_has ∈ TB := TB.mem (List.mem_of_getElem? (i := 27) (by decide +kernel)) (by decide +kernel)
theorem w_28 : Cond.selects RX6 yX6_ends yX6_ends ∈ TB := TB.mem (List.mem_of_getElem? (i := 28) (by decide +kernel)) (by decide +kernel)
theorem w_29 : Cond.selects RX6 yX6_next yX6_next ∈ TB := TB.mem (List.mem_of_getElem? (i := 29) (by decide +kernel)) (by decide +kernel)
theorem w_30 : Cond.selects RX6 yX6_isAt yX6_isAt ∈ TB := TB.mem (List.mem_of_getElem? (i := 30) (by decide +kernel)) (by decide +kernel)
theorem w_31 : Cond.selects RX6 yX6_isThere yX6_isThere ∈ TB := TB.mem (List.mem_of_getElem? (i := 31) (by decide +kernel)) (by decide +kernel)
theorem w_32 : Cond.selects RX6 yX6_keeps yX6_keeps ∈ TB := TB.mem (List.mem_of_getElem? (i := 32) (by decide +kernel)) (by decide +kernel)
theorem w_33 : Cond.selects RX6 yX6_takesFound yX6_takesFound ∈ TB := TB.mem (List.mem_of_getElem? (i := 33) (by decide +kernel)) (by decide +kernel)
theorem w_34 : Cond.selects RX6 yX6_inHeap yX6_inHeap ∈ TB := TB.mem (List.mem_of_getElem? (i := 34) (by decide +kernel)) (by decide +kernel)
theorem w_35 : Cond.selects RX6 yX6_those yX6_those ∈ TB := TB.mem (List.mem_of_getElem? (i := 35) (by decide +kernel)) (by decide +kernel)
theorem w_36 : Cond.selects RX6 yX6_isLacking yX6_isLacking ∈ TB := TB.mem (List.mem_of_getElem? (i := 36) (by decide +kernel)) (by decide +kernel)
theorem w_38 : Cond.initialized RX5 ∈ TB := TB.mem (List.mem_of_getElem? (i := 38) (by decide +kernel)) (by decide +kernel)
theorem w_39 : Cond.initialized RX1 ∈ TB := TB.mem (List.mem_of_getElem? (i := 39) (by decide +kernel)) (by decide +kernel)
theorem w_40 : Cond.initialized RX2 ∈ TB := TB.mem (List.mem_of_getElem? (i := 40) (by decide +kernel)) (by decide +kernel)
theorem w_41 : Cond.initialized RX0 ∈ TB := TB.mem (List.mem_of_getElem? (i := 41) (by decide +kernel)) (by decide +kernel)
theorem w_42 : Cond.initialized RX4 ∈ TB := TB.mem (List.mem_of_getElem? (i := 42) (by decide +kernel)) (by decide +kernel)
theorem w_43 : Cond.initialized RX6 ∈ TB := TB.mem (List.mem_of_getElem? (i := 43) (by decide +kernel)) (by decide +kernel)
theorem w_44 : Cond.initialized RX3 ∈ TB := TB.mem (List.mem_of_getElem? (i := 44) (by decide +kernel)) (by decide +kernel)
theorem w_45 : Cond.initialized RJ6 ∈ TB := TB.mem (List.mem_of_getElem? (i := 45) (by decide +kernel)) (by decide +kernel)
theorem w_46 : Cond.initialized RJ9 ∈ TB := TB.mem (List.mem_of_getElem? (i := 46) (by decide +kernel)) (by decide +kernel)
theorem w_61 : Cond.fieldLink RX1 15 "RowFinder$Kinds" "wider" "[I" ∈ TB := TB.mem (List.mem_of_getElem? (i := 61) (by decide +kernel)) (by decide +kernel)
theorem w_62 : Cond.fieldLink RX2 43 "RowFinder$Kinds" "wider" "[I" ∈ TB := TB.mem (List.mem_of_getElem? (i := 62) (by decide +kernel)) (by decide +kernel)
theorem w_63 : Cond.fieldLink RX4 33 "RowFinder$Kinds" "wider" "[I" ∈ TB := TB.mem (List.mem_of_getElem? (i := 63) (by decide +kernel)) (by decide +kernel)
theorem w_64 : Cond.fieldLink RX1 9 "RowFinder$Kinds" "justOver" "[I" ∈ TB := TB.mem (List.mem_of_getElem? (i := 64) (by decide +kernel)) (by decide +kernel)
theorem w_77 : Cond.fieldLink RX2 15 "RowFinder$Matcher" "gapTicks" "I" ∈ TB := TB.mem (List.mem_of_getElem? (i := 77) (by decide +kernel)) (by decide +kernel)
theorem w_78 : Cond.fieldLink RX5 73 "RowFinder$Matcher" "gapTicks" "I" ∈ TB := TB.mem (List.mem_of_getElem? (i := 78) (by decide +kernel)) (by decide +kernel)
theorem w_79 : Cond.fieldLink RX2 19 "RowFinder$Matcher" "spanTicks" "I" ∈ TB := TB.mem (List.mem_of_getElem? (i := 79) (by decide +kernel)) (by decide +kernel)
theorem w_80 : Cond.fieldLink RX5 76 "RowFinder$Matcher" "spanTicks" "I" ∈ TB := TB.mem (List.mem_of_getElem? (i := 80) (by decide +kernel)) (by decide +kernel)
theorem w_81 : Cond.fieldLink RX2 9 "RowFinder$Matcher" "kinds" "LRowFinder$Kinds;" ∈ TB := TB.mem (List.mem_of_getElem? (i := 81) (by decide +kernel)) (by decide +kernel)
theorem w_82 : Cond.fieldLink RX2 41 "RowFinder$Matcher" "length" "I" ∈ TB := TB.mem (List.mem_of_getElem? (i := 82) (by decide +kernel)) (by decide +kernel)
theorem w_83 : Cond.fieldLink RX2 22 "RowFinder$Matcher" "fits" "[I" ∈ TB := TB.mem (List.mem_of_getElem? (i := 83) (by decide +kernel)) (by decide +kernel)
theorem w_84 : Cond.fieldLink RX2 26 "RowFinder$Matcher" "chainBegins" "[I" ∈ TB := TB.mem (List.mem_of_getElem? (i := 84) (by decide +kernel)) (by decide +kernel)
theorem w_85 : Cond.fieldLink RX2 29 "RowFinder$Matcher" "chainEnds" "[I" ∈ TB := TB.mem (List.mem_of_getElem? (i := 85) (by decide +kernel)) (by decide +kernel)
theorem w_86 : Cond.fieldLink RX2 32 "RowFinder$Matcher" "places" "[I" ∈ TB := TB.mem (List.mem_of_getElem? (i := 86) (by decide +kernel)) (by decide +kernel)
theorem w_110 : Cond.fieldLink RX0 9 "RowFinder$Finds" "patterns" "[I" ∈ TB := TB.mem (List.mem_of_getElem? (i := 110) (by decide +kernel)) (by decide +kernel)
theorem w_111 : Cond.fieldLink RX0 15 "RowFinder$Finds" "rowsThen" "[I" ∈ TB := TB.mem (List.mem_of_getElem? (i := 111) (by decide +kernel)) (by decide +kernel)
theorem w_112 : Cond.fieldLink RX0 18 "RowFinder$Finds" "size" "I" ∈ TB := TB.mem (List.mem_of_getElem? (i := 112) (by decide +kernel)) (by decide +kernel)
theorem w_127 : Cond.fieldLink RX4 18 "RowFinder$Row" "heap" "I" ∈ TB := TB.mem (List.mem_of_getElem? (i := 127) (by decide +kernel)) (by decide +kernel)
theorem w_128 : Cond.fieldLink RX5 201 "RowFinder$Row" "heap" "I" ∈ TB := TB.mem (List.mem_of_getElem? (i := 128) (by decide +kernel)) (by decide +kernel)
theorem w_129 : Cond.fieldLink RX4 22 "RowFinder$Row" "in" "Z" ∈ TB := TB.mem (List.mem_of_getElem? (i := 129) (by decide +kernel)) (by decide +kernel)
theorem w_130 : Cond.fieldLink RX5 69 "RowFinder$Row" "in" "Z" ∈ TB := TB.mem (List.mem_of_getElem? (i := 130) (by decide +kernel)) (by decide +kernel)
theorem w_131 : Cond.fieldLink RX4 9 "RowFinder$Row" "ticks" "[I" ∈ TB := TB.mem (List.mem_of_getElem? (i := 131) (by decide +kernel)) (by decide +kernel)
theorem w_132 : Cond.fieldLink RX4 15 "RowFinder$Row" "ownKinds" "[I" ∈ TB := TB.mem (List.mem_of_getElem? (i := 132) (by decide +kernel)) (by decide +kernel)
theorem w_133 : Cond.fieldLink RX4 26 "RowFinder$Row" "size" "I" ∈ TB := TB.mem (List.mem_of_getElem? (i := 133) (by decide +kernel)) (by decide +kernel)
theorem w_145 : Cond.fieldLink RX5 10 "RowFinder" "kinds" "LRowFinder$Kinds;" ∈ TB := TB.mem (List.mem_of_getElem? (i := 145) (by decide +kernel)) (by decide +kernel)
theorem w_146 : Cond.fieldLink RX5 21 "RowFinder" "matcher" "LRowFinder$Matcher;" ∈ TB := TB.mem (List.mem_of_getElem? (i := 146) (by decide +kernel)) (by decide +kernel)
theorem w_147 : Cond.fieldLink RX5 28 "RowFinder" "finds" "LRowFinder$Finds;" ∈ TB := TB.mem (List.mem_of_getElem? (i := 147) (by decide +kernel)) (by decide +kernel)
theorem w_148 : Cond.fieldLink RX5 34 "RowFinder" "rows" "[LRowFinder$Row;" ∈ TB := TB.mem (List.mem_of_getElem? (i := 148) (by decide +kernel)) (by decide +kernel)
theorem w_149 : Cond.fieldLink RX5 39 "RowFinder" "rowsBehind" "[I" ∈ TB := TB.mem (List.mem_of_getElem? (i := 149) (by decide +kernel)) (by decide +kernel)
theorem w_150 : Cond.fieldLink RX5 43 "RowFinder" "rowCount" "I" ∈ TB := TB.mem (List.mem_of_getElem? (i := 150) (by decide +kernel)) (by decide +kernel)
theorem w_168 : Cond.methodLink RX5 47 yX5_isKind ∈ TB := TB.mem (List.mem_of_getElem? (i := 168) (by decide +kernel)) (by decide +kernel)
theorem w_169 : Cond.static yX5_isKind ∈ TB := TB.mem (List.mem_of_getElem? (i := 169) (by decide +kernel)) (by decide +kernel)
theorem w_170 : Cond.code yX5_isKind prog_1_method_22_code 1 (some .boolean) ∈ TB := TB.mem (List.mem_of_getElem? (i := 170) (by decide +kernel)) (by decide +kernel)
theorem w_171 : Cond.methodLink RX5 51 yX1_lay ∈ TB := TB.mem (List.mem_of_getElem? (i := 171) (by decide +kernel)) (by decide +kernel)
theorem w_172 : Cond.instanceMethod yX1_lay ∈ TB := TB.mem (List.mem_of_getElem? (i := 172) (by decide +kernel)) (by decide +kernel)
theorem w_173 : Cond.selects RX1 yX1_lay yX1_lay ∈ TB := TB.mem (List.mem_of_getElem? (i := 173) (by decide +kernel)) (by decide +kernel)
theorem w_174 : Cond.code yX1_lay prog_3_method_2_code 4 (some .boolean) ∈ TB := TB.mem (List.mem_of_getElem? (i := 174) (by decide +kernel)) (by decide +kernel)
theorem w_175 : Cond.methodLink RX1 18 yX1_is ∈ TB := TB.mem (List.mem_of_getElem? (i := 175) (by decide +kernel)) (by decide +kernel)
theorem w_176 : Cond.instanceMethod yX1_is ∈ TB := TB.mem (List.mem_of_getElem? (i := 176) (by decide +kernel)) (by decide +kernel)
theorem w_177 : Cond.selects RX1 yX1_is yX1_is ∈ TB := TB.mem (List.mem_of_getElem? (i := 177) (by decide +kernel)) (by decide +kernel)
theorem w_178 : Cond.code yX1_is prog_3_method_4_code 3 (some .boolean) ∈ TB := TB.mem (List.mem_of_getElem? (i := 178) (by decide +kernel)) (by decide +kernel)
theorem w_179 : Cond.methodLink RX1 22 yX1_climb ∈ TB := TB.mem (List.mem_of_getElem? (i := 179) (by decide +kernel)) (by decide +kernel)
theorem w_181 : Cond.instanceMethod yX1_climb ∈ TB := TB.mem (List.mem_of_getElem? (i := 181) (by decide +kernel)) (by decide +kernel)
theorem w_182 : Cond.code yX1_climb prog_3_method_3_code 5 (some .int) ∈ TB := TB.mem (List.mem_of_getElem? (i := 182) (by decide +kernel)) (by decide +kernel)
theorem w_187 : Cond.methodLink RX5 55 yX4_begin ∈ TB := TB.mem (List.mem_of_getElem? (i := 187) (by decide +kernel)) (by decide +kernel)
theorem w_188 : Cond.instanceMethod yX4_begin ∈ TB := TB.mem (List.mem_of_getElem? (i := 188) (by decide +kernel)) (by decide +kernel)
theorem w_189 : Cond.selects RX4 yX4_begin yX4_begin ∈ TB := TB.mem (List.mem_of_getElem? (i := 189) (by decide +kernel)) (by decide +kernel)
theorem w_190 : Cond.code yX4_begin prog_6_method_2_code 2 none ∈ TB := TB.mem (List.mem_of_getElem? (i := 190) (by decide +kernel)) (by decide +kernel)
theorem w_195 : Cond.methodLink RX5 59 yX5_isRow ∈ TB := TB.mem (List.mem_of_getElem? (i := 195) (by decide +kernel)) (by decide +kernel)
theorem w_197 : Cond.instanceMethod yX5_isRow ∈ TB := TB.mem (List.mem_of_getElem? (i := 197) (by decide +kernel)) (by decide +kernel)
theorem w_198 : Cond.code yX5_isRow prog_1_method_25_code 2 (some .boolean) ∈ TB := TB.mem (List.mem_of_getElem? (i := 198) (by decide +kernel)) (by decide +kernel)
theorem w_199 : Cond.methodLink RX5 62 yX5_isTick ∈ TB := TB.mem (List.mem_of_getElem? (i := 199) (by decide +kernel)) (by decide +kernel)
theorem w_200 : Cond.static yX5_isTick ∈ TB := TB.mem (List.mem_of_getElem? (i := 200) (by decide +kernel)) (by decide +kernel)
theorem w_201 : Cond.code yX5_isTick prog_1_method_23_code 1 (some .boolean) ∈ TB := TB.mem (List.mem_of_getElem? (i := 201) (by decide +kernel)) (by decide +kernel)
theorem w_202 : Cond.methodLink RX5 65 yX4_append ∈ TB := TB.mem (List.mem_of_getElem? (i := 202) (by decide +kernel)) (by decide +kernel)
theorem w_203 : Cond.instanceMethod yX4_append ∈ TB := TB.mem (List.mem_of_getElem? (i := 203) (by decide +kernel)) (by decide +kernel)
theorem w_204 : Cond.selects RX4 yX4_append yX4_append ∈ TB := TB.mem (List.mem_of_getElem? (i := 204) (by decide +kernel)) (by decide +kernel)
theorem w_205 : Cond.code yX4_append prog_6_method_3_code 3 (some .int) ∈ TB := TB.mem (List.mem_of_getElem? (i := 205) (by decide +kernel)) (by decide +kernel)
theorem w_206 : Cond.methodLink RX4 29 yX4_tickAt ∈ TB := TB.mem (List.mem_of_getElem? (i := 206) (by decide +kernel)) (by decide +kernel)
theorem w_207 : Cond.instanceMethod yX4_tickAt ∈ TB := TB.mem (List.mem_of_getElem? (i := 207) (by decide +kernel)) (by decide +kernel)
theorem w_208 : Cond.selects RX4 yX4_tickAt yX4_tickAt ∈ TB := TB.mem (List.mem_of_getElem? (i := 208) (by decide +kernel)) (by decide +kernel)
theorem w_209 : Cond.code yX4_tickAt prog_6_method_5_code 2 (some .int) ∈ TB := TB.mem (List.mem_of_getElem? (i := 209) (by decide +kernel)) (by decide +kernel)
theorem w_226 : Cond.methodLink RX5 79 yX3_of ∈ TB := TB.mem (List.mem_of_getElem? (i := 226) (by decide +kernel)) (by decide +kernel)
theorem w_227 : Cond.static yX3_of ∈ TB := TB.mem (List.mem_of_getElem? (i := 227) (by decide +kernel)) (by decide +kernel)
theorem w_228 : Cond.code yX3_of prog_5_method_2_code 4 (some .int) ∈ TB := TB.mem (List.mem_of_getElem? (i := 228) (by decide +kernel)) (by decide +kernel)
theorem w_230 : Cond.methodLink RX3 13 yX3_isKindOrNone ∈ TB := TB.mem (List.mem_of_getElem? (i := 230) (by decide +kernel)) (by decide +kernel)
theorem w_231 : Cond.static yX3_isKindOrNone ∈ TB := TB.mem (List.mem_of_getElem? (i := 231) (by decide +kernel)) (by decide +kernel)
theorem w_232 : Cond.code yX3_isKindOrNone prog_5_method_3_code 1 (some .boolean) ∈ TB := TB.mem (List.mem_of_getElem? (i := 232) (by decide +kernel)) (by decide +kernel)
theorem w_233 : Cond.methodLink RX3 18 yX3_lengthen ∈ TB := TB.mem (List.mem_of_getElem? (i := 233) (by decide +kernel)) (by decide +kernel)
theorem w_234 : Cond.static yX3_lengthen ∈ TB := TB.mem (List.mem_of_getElem? (i := 234) (by decide +kernel)) (by decide +kernel)
theorem w_235 : Cond.code yX3_lengthen prog_5_method_4_code 2 (some .int) ∈ TB := TB.mem (List.mem_of_getElem? (i := 235) (by decide +kernel)) (by decide +kernel)
theorem w_236 : Cond.methodLink RX3 22 yX3_insert ∈ TB := TB.mem (List.mem_of_getElem? (i := 236) (by decide +kernel)) (by decide +kernel)
theorem w_237 : Cond.static yX3_insert ∈ TB := TB.mem (List.mem_of_getElem? (i := 237) (by decide +kernel)) (by decide +kernel)
theorem w_238 : Cond.code yX3_insert prog_5_method_9_code 5 (some .int) ∈ TB := TB.mem (List.mem_of_getElem? (i := 238) (by decide +kernel)) (by decide +kernel)
theorem w_239 : Cond.methodLink RX5 85 yX5_countOf ∈ TB := TB.mem (List.mem_of_getElem? (i := 239) (by decide +kernel)) (by decide +kernel)
theorem w_241 : Cond.instanceMethod yX5_countOf ∈ TB := TB.mem (List.mem_of_getElem? (i := 241) (by decide +kernel)) (by decide +kernel)
theorem w_242 : Cond.code yX5_countOf prog_1_method_31_code 2 (some .int) ∈ TB := TB.mem (List.mem_of_getElem? (i := 242) (by decide +kernel)) (by decide +kernel)
theorem w_243 : Cond.methodLink RX5 209 yX5_rowsWith ∈ TB := TB.mem (List.mem_of_getElem? (i := 243) (by decide +kernel)) (by decide +kernel)
theorem w_245 : Cond.instanceMethod yX5_rowsWith ∈ TB := TB.mem (List.mem_of_getElem? (i := 245) (by decide +kernel)) (by decide +kernel)
theorem w_246 : Cond.code yX5_rowsWith prog_1_method_30_code 4 (some .int) ∈ TB := TB.mem (List.mem_of_getElem? (i := 246) (by decide +kernel)) (by decide +kernel)
theorem w_247 : Cond.methodLink RX5 91 yX2_takeUp ∈ TB := TB.mem (List.mem_of_getElem? (i := 247) (by decide +kernel)) (by decide +kernel)
theorem w_248 : Cond.instanceMethod yX2_takeUp ∈ TB := TB.mem (List.mem_of_getElem? (i := 248) (by decide +kernel)) (by decide +kernel)
theorem w_249 : Cond.selects RX2 yX2_takeUp yX2_takeUp ∈ TB := TB.mem (List.mem_of_getElem? (i := 249) (by decide +kernel)) (by decide +kernel)
theorem w_250 : Cond.code yX2_takeUp prog_4_method_2_code 6 none ∈ TB := TB.mem (List.mem_of_getElem? (i := 250) (by decide +kernel)) (by decide +kernel)
theorem w_251 : Cond.methodLink RX2 35 yX3_length ∈ TB := TB.mem (List.mem_of_getElem? (i := 251) (by decide +kernel)) (by decide +kernel)
theorem w_252 : Cond.static yX3_length ∈ TB := TB.mem (List.mem_of_getElem? (i := 252) (by decide +kernel)) (by decide +kernel)
theorem w_253 : Cond.code yX3_length prog_5_method_5_code 2 (some .int) ∈ TB := TB.mem (List.mem_of_getElem? (i := 253) (by decide +kernel)) (by decide +kernel)
theorem w_254 : Cond.methodLink RX2 48 yX3_lastItem ∈ TB := TB.mem (List.mem_of_getElem? (i := 254) (by decide +kernel)) (by decide +kernel)
theorem w_255 : Cond.static yX3_lastItem ∈ TB := TB.mem (List.mem_of_getElem? (i := 255) (by decide +kernel)) (by decide +kernel)
theorem w_256 : Cond.code yX3_lastItem prog_5_method_7_code 1 (some .int) ∈ TB := TB.mem (List.mem_of_getElem? (i := 256) (by decide +kernel)) (by decide +kernel)
theorem w_257 : Cond.methodLink RX2 51 yX3_withoutLast ∈ TB := TB.mem (List.mem_of_getElem? (i := 257) (by decide +kernel)) (by decide +kernel)
theorem w_258 : Cond.static yX3_withoutLast ∈ TB := TB.mem (List.mem_of_getElem? (i := 258) (by decide +kernel)) (by decide +kernel)
theorem w_259 : Cond.code yX3_withoutLast prog_5_method_8_code 1 (some .int) ∈ TB := TB.mem (List.mem_of_getElem? (i := 259) (by decide +kernel)) (by decide +kernel)
theorem w_260 : Cond.methodLink RX5 205 yX2_isIn ∈ TB := TB.mem (List.mem_of_getElem? (i := 260) (by decide +kernel)) (by decide +kernel)
theorem w_261 : Cond.instanceMethod yX2_isIn ∈ TB := TB.mem (List.mem_of_getElem? (i := 261) (by decide +kernel)) (by decide +kernel)
theorem w_262 : Cond.selects RX2 yX2_isIn yX2_isIn ∈ TB := TB.mem (List.mem_of_getElem? (i := 262) (by decide +kernel)) (by decide +kernel)
theorem w_263 : Cond.code yX2_isIn prog_4_method_3_code 3 (some .boolean) ∈ TB := TB.mem (List.mem_of_getElem? (i := 263) (by decide +kernel)) (by decide +kernel)
theorem w_264 : Cond.methodLink RX2 54 yX2_loseChains ∈ TB := TB.mem (List.mem_of_getElem? (i := 264) (by decide +kernel)) (by decide +kernel)
theorem w_266 : Cond.instanceMethod yX2_loseChains ∈ TB := TB.mem (List.mem_of_getElem? (i := 266) (by decide +kernel)) (by decide +kernel)
theorem w_267 : Cond.code yX2_loseChains prog_4_method_6_code 2 none ∈ TB := TB.mem (List.mem_of_getElem? (i := 267) (by decide +kernel)) (by decide +kernel)
theorem w_268 : Cond.methodLink RX2 57 yX4_size ∈ TB := TB.mem (List.mem_of_getElem? (i := 268) (by decide +kernel)) (by decide +kernel)
theorem w_269 : Cond.instanceMethod yX4_size ∈ TB := TB.mem (List.mem_of_getElem? (i := 269) (by decide +kernel)) (by decide +kernel)
theorem w_270 : Cond.selects RX4 yX4_size yX4_size ∈ TB := TB.mem (List.mem_of_getElem? (i := 270) (by decide +kernel)) (by decide +kernel)
theorem w_271 : Cond.code yX4_size prog_6_method_4_code 1 (some .int) ∈ TB := TB.mem (List.mem_of_getElem? (i := 271) (by decide +kernel)) (by decide +kernel)
theorem w_272 : Cond.methodLink RX2 63 yX2_endsMatch ∈ TB := TB.mem (List.mem_of_getElem? (i := 272) (by decide +kernel)) (by decide +kernel)
theorem w_274 : Cond.instanceMethod yX2_endsMatch ∈ TB := TB.mem (List.mem_of_getElem? (i := 274) (by decide +kernel)) (by decide +kernel)
theorem w_275 : Cond.code yX2_endsMatch prog_4_method_7_code 7 (some .boolean) ∈ TB := TB.mem (List.mem_of_getElem? (i := 275) (by decide +kernel)) (by decide +kernel)
theorem w_276 : Cond.methodLink RX2 74 yX4_bitsAt ∈ TB := TB.mem (List.mem_of_getElem? (i := 276) (by decide +kernel)) (by decide +kernel)
theorem w_277 : Cond.instanceMethod yX4_bitsAt ∈ TB := TB.mem (List.mem_of_getElem? (i := 277) (by decide +kernel)) (by decide +kernel)
theorem w_278 : Cond.selects RX4 yX4_bitsAt yX4_bitsAt ∈ TB := TB.mem (List.mem_of_getElem? (i := 278) (by decide +kernel)) (by decide +kernel)
theorem w_279 : Cond.code yX4_bitsAt prog_6_method_7_code 3 (some .int) ∈ TB := TB.mem (List.mem_of_getElem? (i := 279) (by decide +kernel)) (by decide +kernel)
theorem w_280 : Cond.methodLink RX2 67 yX4_tickAt ∈ TB := TB.mem (List.mem_of_getElem? (i := 280) (by decide +kernel)) (by decide +kernel)
theorem w_281 : Cond.methodLink RX2 70 yX2_canFollow ∈ TB := TB.mem (List.mem_of_getElem? (i := 281) (by decide +kernel)) (by decide +kernel)
theorem w_283 : Cond.instanceMethod yX2_canFollow ∈ TB := TB.mem (List.mem_of_getElem? (i := 283) (by decide +kernel)) (by decide +kernel)
theorem w_284 : Cond.code yX2_canFollow prog_4_method_8_code 4 (some .boolean) ∈ TB := TB.mem (List.mem_of_getElem? (i := 284) (by decide +kernel)) (by decide +kernel)
theorem w_285 : Cond.methodLink RX5 132 yJ6_bitCount_0f7a4 ∈ TB := TB.mem (List.mem_of_getElem? (i := 285) (by decide +kernel)) (by decide +kernel)
theorem w_286 : Cond.static yJ6_bitCount_0f7a4 ∈ TB := TB.mem (List.mem_of_getElem? (i := 286) (by decide +kernel)) (by decide +kernel)
theorem w_287 : Cond.code yJ6_bitCount_0f7a4 prog_9_method_49_code 1 (some .int) ∈ TB := TB.mem (List.mem_of_getElem? (i := 287) (by decide +kernel)) (by decide +kernel)
theorem w_288 : Cond.constant RJ6 265 (1431655765) ∈ TB := TB.mem (List.mem_of_getElem? (i := 288) (by decide +kernel)) (by decide +kernel)
theorem w_289 : Cond.constant RJ6 266 (858993459) ∈ TB := TB.mem (List.mem_of_getElem? (i := 289) (by decide +kernel)) (by decide +kernel)
theorem w_290 : Cond.constant RJ6 267 (252645135) ∈ TB := TB.mem (List.mem_of_getElem? (i := 290) (by decide +kernel)) (by decide +kernel)
theorem w_295 : Cond.constantLong RX5 89 (-1) ∈ TB := TB.mem (List.mem_of_getElem? (i := 295) (by decide +kernel)) (by decide +kernel)
theorem w_296 : Cond.methodLink RX5 94 yX2_matchesIn ∈ TB := TB.mem (List.mem_of_getElem? (i := 296) (by decide +kernel)) (by decide +kernel)
theorem w_297 : Cond.instanceMethod yX2_matchesIn ∈ TB := TB.mem (List.mem_of_getElem? (i := 297) (by decide +kernel)) (by decide +kernel)
theorem w_298 : Cond.selects RX2 yX2_matchesIn yX2_matchesIn ∈ TB := TB.mem (List.mem_of_getElem? (i := 298) (by decide +kernel)) (by decide +kernel)
theorem w_299 : Cond.code yX2_matchesIn prog_4_method_9_code 5 (some .long) ∈ TB := TB.mem (List.mem_of_getElem? (i := 299) (by decide +kernel)) (by decide +kernel)
theorem w_300 : Cond.methodLink RX2 78 yX2_goToFirstMatch ∈ TB := TB.mem (List.mem_of_getElem? (i := 300) (by decide +kernel)) (by decide +kernel)
theorem w_302 : Cond.instanceMethod yX2_goToFirstMatch ∈ TB := TB.mem (List.mem_of_getElem? (i := 302) (by decide +kernel)) (by decide +kernel)
theorem w_303 : Cond.code yX2_goToFirstMatch prog_4_method_11_code 2 (some .boolean) ∈ TB := TB.mem (List.mem_of_getElem? (i := 303) (by decide +kernel)) (by decide +kernel)
theorem w_304 : Cond.methodLink RX2 84 yX2_goToNextMatch ∈ TB := TB.mem (List.mem_of_getElem? (i := 304) (by decide +kernel)) (by decide +kernel)
theorem w_306 : Cond.instanceMethod yX2_goToNextMatch ∈ TB := TB.mem (List.mem_of_getElem? (i := 306) (by decide +kernel)) (by decide +kernel)
theorem w_307 : Cond.code yX2_goToNextMatch prog_4_method_12_code 5 (some .boolean) ∈ TB := TB.mem (List.mem_of_getElem? (i := 307) (by decide +kernel)) (by decide +kernel)
theorem w_308 : Cond.constant RX2 87 (1000000) ∈ TB := TB.mem (List.mem_of_getElem? (i := 308) (by decide +kernel)) (by decide +kernel)
theorem w_309 : Cond.methodLink RX2 88 yX2_nextPlace ∈ TB := TB.mem (List.mem_of_getElem? (i := 309) (by decide +kernel)) (by decide +kernel)
theorem w_311 : Cond.instanceMethod yX2_nextPlace ∈ TB := TB.mem (List.mem_of_getElem? (i := 311) (by decide +kernel)) (by decide +kernel)
theorem w_312 : Cond.code yX2_nextPlace prog_4_method_13_code 4 (some .int) ∈ TB := TB.mem (List.mem_of_getElem? (i := 312) (by decide +kernel)) (by decide +kernel)
theorem w_313 : Cond.methodLink RX2 92 yX2_canStandAt ∈ TB := TB.mem (List.mem_of_getElem? (i := 313) (by decide +kernel)) (by decide +kernel)
theorem w_315 : Cond.instanceMethod yX2_canStandAt ∈ TB := TB.mem (List.mem_of_getElem? (i := 315) (by decide +kernel)) (by decide +kernel)
theorem w_316 : Cond.code yX2_canStandAt prog_4_method_14_code 5 (some .boolean) ∈ TB := TB.mem (List.mem_of_getElem? (i := 316) (by decide +kernel)) (by decide +kernel)
theorem w_317 : Cond.constantLong RX2 82 (27405) ∈ TB := TB.mem (List.mem_of_getElem? (i := 317) (by decide +kernel)) (by decide +kernel)
theorem w_322 : Cond.methodLink RX5 98 yX2_placeInFirst ∈ TB := TB.mem (List.mem_of_getElem? (i := 322) (by decide +kernel)) (by decide +kernel)
theorem w_323 : Cond.instanceMethod yX2_placeInFirst ∈ TB := TB.mem (List.mem_of_getElem? (i := 323) (by decide +kernel)) (by decide +kernel)
theorem w_324 : Cond.selects RX2 yX2_placeInFirst yX2_placeInFirst ∈ TB := TB.mem (List.mem_of_getElem? (i := 324) (by decide +kernel)) (by decide +kernel)
theorem w_325 : Cond.code yX2_placeInFirst prog_4_method_10_code 3 (some .int) ∈ TB := TB.mem (List.mem_of_getElem? (i := 325) (by decide +kernel)) (by decide +kernel)
theorem w_330 : Cond.methodLink RX5 102 yX0_forget ∈ TB := TB.mem (List.mem_of_getElem? (i := 330) (by decide +kernel)) (by decide +kernel)
theorem w_331 : Cond.instanceMethod yX0_forget ∈ TB := TB.mem (List.mem_of_getElem? (i := 331) (by decide +kernel)) (by decide +kernel)
theorem w_332 : Cond.selects RX0 yX0_forget yX0_forget ∈ TB := TB.mem (List.mem_of_getElem? (i := 332) (by decide +kernel)) (by decide +kernel)
theorem w_333 : Cond.code yX0_forget prog_2_method_2_code 1 none ∈ TB := TB.mem (List.mem_of_getElem? (i := 333) (by decide +kernel)) (by decide +kernel)
theorem w_334 : Cond.methodLink RX5 105 yX5_rowsIn ∈ TB := TB.mem (List.mem_of_getElem? (i := 334) (by decide +kernel)) (by decide +kernel)
theorem w_336 : Cond.instanceMethod yX5_rowsIn ∈ TB := TB.mem (List.mem_of_getElem? (i := 336) (by decide +kernel)) (by decide +kernel)
theorem w_337 : Cond.code yX5_rowsIn prog_1_method_29_code 1 (some .int) ∈ TB := TB.mem (List.mem_of_getElem? (i := 337) (by decide +kernel)) (by decide +kernel)
theorem w_338 : Cond.methodLink RX5 146 yX5_rowsInOf ∈ TB := TB.mem (List.mem_of_getElem? (i := 338) (by decide +kernel)) (by decide +kernel)
theorem w_340 : Cond.instanceMethod yX5_rowsInOf ∈ TB := TB.mem (List.mem_of_getElem? (i := 340) (by decide +kernel)) (by decide +kernel)
theorem w_341 : Cond.code yX5_rowsInOf prog_1_method_28_code 4 (some .int) ∈ TB := TB.mem (List.mem_of_getElem? (i := 341) (by decide +kernel)) (by decide +kernel)
theorem w_342 : Cond.methodLink RX5 109 yX5_findLonger ∈ TB := TB.mem (List.mem_of_getElem? (i := 342) (by decide +kernel)) (by decide +kernel)
theorem w_344 : Cond.instanceMethod yX5_findLonger ∈ TB := TB.mem (List.mem_of_getElem? (i := 344) (by decide +kernel)) (by decide +kernel)
theorem w_345 : Cond.code yX5_findLonger prog_1_method_34_code 5 none ∈ TB := TB.mem (List.mem_of_getElem? (i := 345) (by decide +kernel)) (by decide +kernel)
theorem w_346 : Cond.methodLink RX5 152 yX5_gatherRowsBehind ∈ TB := TB.mem (List.mem_of_getElem? (i := 346) (by decide +kernel)) (by decide +kernel)
theorem w_348 : Cond.instanceMethod yX5_gatherRowsBehind ∈ TB := TB.mem (List.mem_of_getElem? (i := 348) (by decide +kernel)) (by decide +kernel)
theorem w_349 : Cond.code yX5_gatherRowsBehind prog_1_method_33_code 6 none ∈ TB := TB.mem (List.mem_of_getElem? (i := 349) (by decide +kernel)) (by decide +kernel)
theorem w_350 : Cond.methodLink RX5 177 yX5_isAmong ∈ TB := TB.mem (List.mem_of_getElem? (i := 350) (by decide +kernel)) (by decide +kernel)
theorem w_351 : Cond.static yX5_isAmong ∈ TB := TB.mem (List.mem_of_getElem? (i := 351) (by decide +kernel)) (by decide +kernel)
theorem w_352 : Cond.code yX5_isAmong prog_1_method_24_code 2 (some .boolean) ∈ TB := TB.mem (List.mem_of_getElem? (i := 352) (by decide +kernel)) (by decide +kernel)
theorem w_353 : Cond.methodLink RX5 212 yX2_kindsBehind ∈ TB := TB.mem (List.mem_of_getElem? (i := 353) (by decide +kernel)) (by decide +kernel)
theorem w_354 : Cond.instanceMethod yX2_kindsBehind ∈ TB := TB.mem (List.mem_of_getElem? (i := 354) (by decide +kernel)) (by decide +kernel)
theorem w_355 : Cond.selects RX2 yX2_kindsBehind yX2_kindsBehind ∈ TB := TB.mem (List.mem_of_getElem? (i := 355) (by decide +kernel)) (by decide +kernel)
theorem w_356 : Cond.code yX2_kindsBehind prog_4_method_5_code 4 (some .int) ∈ TB := TB.mem (List.mem_of_getElem? (i := 356) (by decide +kernel)) (by decide +kernel)
theorem w_357 : Cond.methodLink RX5 215 yX3_insert ∈ TB := TB.mem (List.mem_of_getElem? (i := 357) (by decide +kernel)) (by decide +kernel)
theorem w_358 : Cond.methodLink RX5 218 yX0_add ∈ TB := TB.mem (List.mem_of_getElem? (i := 358) (by decide +kernel)) (by decide +kernel)
theorem w_359 : Cond.instanceMethod yX0_add ∈ TB := TB.mem (List.mem_of_getElem? (i := 359) (by decide +kernel)) (by decide +kernel)
theorem w_360 : Cond.selects RX0 yX0_add yX0_add ∈ TB := TB.mem (List.mem_of_getElem? (i := 360) (by decide +kernel)) (by decide +kernel)
theorem w_361 : Cond.code yX0_add prog_2_method_3_code 3 none ∈ TB := TB.mem (List.mem_of_getElem? (i := 361) (by decide +kernel)) (by decide +kernel)
theorem w_362 : Cond.methodLink RX5 113 yX0_size ∈ TB := TB.mem (List.mem_of_getElem? (i := 362) (by decide +kernel)) (by decide +kernel)
theorem w_363 : Cond.instanceMethod yX0_size ∈ TB := TB.mem (List.mem_of_getElem? (i := 363) (by decide +kernel)) (by decide +kernel)
theorem w_364 : Cond.selects RX0 yX0_size yX0_size ∈ TB := TB.mem (List.mem_of_getElem? (i := 364) (by decide +kernel)) (by decide +kernel)
theorem w_365 : Cond.code yX0_size prog_2_method_6_code 1 (some .int) ∈ TB := TB.mem (List.mem_of_getElem? (i := 365) (by decide +kernel)) (by decide +kernel)
theorem w_366 : Cond.methodLink RX5 116 yX0_isFull ∈ TB := TB.mem (List.mem_of_getElem? (i := 366) (by decide +kernel)) (by decide +kernel)
theorem w_367 : Cond.instanceMethod yX0_isFull ∈ TB := TB.mem (List.mem_of_getElem? (i := 367) (by decide +kernel)) (by decide +kernel)
theorem w_368 : Cond.selects RX0 yX0_isFull yX0_isFull ∈ TB := TB.mem (List.mem_of_getElem? (i := 368) (by decide +kernel)) (by decide +kernel)
theorem w_369 : Cond.code yX0_isFull prog_2_method_4_code 1 (some .boolean) ∈ TB := TB.mem (List.mem_of_getElem? (i := 369) (by decide +kernel)) (by decide +kernel)
theorem w_370 : Cond.methodLink RX5 120 yX0_patternAt ∈ TB := TB.mem (List.mem_of_getElem? (i := 370) (by decide +kernel)) (by decide +kernel)
theorem w_371 : Cond.instanceMethod yX0_patternAt ∈ TB := TB.mem (List.mem_of_getElem? (i := 371) (by decide +kernel)) (by decide +kernel)
theorem w_372 : Cond.selects RX0 yX0_patternAt yX0_patternAt ∈ TB := TB.mem (List.mem_of_getElem? (i := 372) (by decide +kernel)) (by decide +kernel)
theorem w_373 : Cond.code yX0_patternAt prog_2_method_7_code 2 (some .int) ∈ TB := TB.mem (List.mem_of_getElem? (i := 373) (by decide +kernel)) (by decide +kernel)
theorem w_374 : Cond.methodLink RX0 22 yX0_holds ∈ TB := TB.mem (List.mem_of_getElem? (i := 374) (by decide +kernel)) (by decide +kernel)
theorem w_375 : Cond.instanceMethod yX0_holds ∈ TB := TB.mem (List.mem_of_getElem? (i := 375) (by decide +kernel)) (by decide +kernel)
theorem w_376 : Cond.selects RX0 yX0_holds yX0_holds ∈ TB := TB.mem (List.mem_of_getElem? (i := 376) (by decide +kernel)) (by decide +kernel)
theorem w_377 : Cond.code yX0_holds prog_2_method_5_code 2 (some .boolean) ∈ TB := TB.mem (List.mem_of_getElem? (i := 377) (by decide +kernel)) (by decide +kernel)
theorem w_378 : Cond.methodLink RX5 123 yX3_length ∈ TB := TB.mem (List.mem_of_getElem? (i := 378) (by decide +kernel)) (by decide +kernel)
theorem w_379 : Cond.methodLink RX5 126 yX0_rowsThenAt ∈ TB := TB.mem (List.mem_of_getElem? (i := 379) (by decide +kernel)) (by decide +kernel)
theorem w_380 : Cond.instanceMethod yX0_rowsThenAt ∈ TB := TB.mem (List.mem_of_getElem? (i := 380) (by decide +kernel)) (by decide +kernel)
theorem w_381 : Cond.selects RX0 yX0_rowsThenAt yX0_rowsThenAt ∈ TB := TB.mem (List.mem_of_getElem? (i := 381) (by decide +kernel)) (by decide +kernel)
theorem w_382 : Cond.code yX0_rowsThenAt prog_2_method_8_code 2 (some .int) ∈ TB := TB.mem (List.mem_of_getElem? (i := 382) (by decide +kernel)) (by decide +kernel)
theorem w_387 : Cond.methodLink RX5 129 yX0_holds ∈ TB := TB.mem (List.mem_of_getElem? (i := 387) (by decide +kernel)) (by decide +kernel)
theorem w_388 : Cond.methodLink RX5 137 yX3_item ∈ TB := TB.mem (List.mem_of_getElem? (i := 388) (by decide +kernel)) (by decide +kernel)
theorem w_389 : Cond.static yX3_item ∈ TB := TB.mem (List.mem_of_getElem? (i := 389) (by decide +kernel)) (by decide +kernel)
theorem w_390 : Cond.code yX3_item prog_5_method_6_code 3 (some .int) ∈ TB := TB.mem (List.mem_of_getElem? (i := 390) (by decide +kernel)) (by decide +kernel)
theorem w_391 : Cond.methodLink RX3 26 yX3_length ∈ TB := TB.mem (List.mem_of_getElem? (i := 391) (by decide +kernel)) (by decide +kernel)
theorem w_396 : Cond.methodLink RX5 140 yX5_longerSays ∈ TB := TB.mem (List.mem_of_getElem? (i := 396) (by decide +kernel)) (by decide +kernel)
theorem w_398 : Cond.instanceMethod yX5_longerSays ∈ TB := TB.mem (List.mem_of_getElem? (i := 398) (by decide +kernel)) (by decide +kernel)
theorem w_399 : Cond.code yX5_longerSays prog_1_method_35_code 6 (some .boolean) ∈ TB := TB.mem (List.mem_of_getElem? (i := 399) (by decide +kernel)) (by decide +kernel)
theorem w_400 : Cond.methodLink RX5 143 yX5_narrowerSays ∈ TB := TB.mem (List.mem_of_getElem? (i := 400) (by decide +kernel)) (by decide +kernel)
theorem w_402 : Cond.instanceMethod yX5_narrowerSays ∈ TB := TB.mem (List.mem_of_getElem? (i := 402) (by decide +kernel)) (by decide +kernel)
theorem w_403 : Cond.code yX5_narrowerSays prog_1_method_36_code 7 (some .boolean) ∈ TB := TB.mem (List.mem_of_getElem? (i := 403) (by decide +kernel)) (by decide +kernel)
theorem w_404 : Cond.methodLink RX5 221 yX1_liesJustUnder ∈ TB := TB.mem (List.mem_of_getElem? (i := 404) (by decide +kernel)) (by decide +kernel)
theorem w_405 : Cond.instanceMethod yX1_liesJustUnder ∈ TB := TB.mem (List.mem_of_getElem? (i := 405) (by decide +kernel)) (by decide +kernel)
theorem w_406 : Cond.selects RX1 yX1_liesJustUnder yX1_liesJustUnder ∈ TB := TB.mem (List.mem_of_getElem? (i := 406) (by decide +kernel)) (by decide +kernel)
theorem w_407 : Cond.code yX1_liesJustUnder prog_3_method_5_code 3 (some .boolean) ∈ TB := TB.mem (List.mem_of_getElem? (i := 407) (by decide +kernel)) (by decide +kernel)
theorem w_408 : Cond.methodLink RX5 224 yX3_replace ∈ TB := TB.mem (List.mem_of_getElem? (i := 408) (by decide +kernel)) (by decide +kernel)
theorem w_409 : Cond.static yX3_replace ∈ TB := TB.mem (List.mem_of_getElem? (i := 409) (by decide +kernel)) (by decide +kernel)
theorem w_410 : Cond.code yX3_replace prog_5_method_10_code 4 (some .int) ∈ TB := TB.mem (List.mem_of_getElem? (i := 410) (by decide +kernel)) (by decide +kernel)
theorem w_415 : Cond.methodLink RX5 149 yX3_withoutLast ∈ TB := TB.mem (List.mem_of_getElem? (i := 415) (by decide +kernel)) (by decide +kernel)
theorem w_416 : Cond.methodLink RX5 156 yX3_lastItem ∈ TB := TB.mem (List.mem_of_getElem? (i := 416) (by decide +kernel)) (by decide +kernel)
theorem w_417 : Cond.methodLink RX5 159 yX5_howFarApart ∈ TB := TB.mem (List.mem_of_getElem? (i := 417) (by decide +kernel)) (by decide +kernel)
theorem w_418 : Cond.static yX5_howFarApart ∈ TB := TB.mem (List.mem_of_getElem? (i := 418) (by decide +kernel)) (by decide +kernel)
theorem w_419 : Cond.code yX5_howFarApart prog_1_method_37_code 5 (some .int) ∈ TB := TB.mem (List.mem_of_getElem? (i := 419) (by decide +kernel)) (by decide +kernel)
theorem w_420 : Cond.methodLink RX5 227 yJ9_abs_0f7a4 ∈ TB := TB.mem (List.mem_of_getElem? (i := 420) (by decide +kernel)) (by decide +kernel)
theorem w_421 : Cond.static yJ9_abs_0f7a4 ∈ TB := TB.mem (List.mem_of_getElem? (i := 421) (by decide +kernel)) (by decide +kernel)
theorem w_422 : Cond.code yJ9_abs_0f7a4 prog_10_method_59_code 1 (some .int) ∈ TB := TB.mem (List.mem_of_getElem? (i := 422) (by decide +kernel)) (by decide +kernel)
theorem w_427 : Cond.methodLink RX5 163 yX1_is ∈ TB := TB.mem (List.mem_of_getElem? (i := 427) (by decide +kernel)) (by decide +kernel)
theorem w_428 : Cond.methodLink RX5 166 yX4_howMany ∈ TB := TB.mem (List.mem_of_getElem? (i := 428) (by decide +kernel)) (by decide +kernel)
theorem w_429 : Cond.instanceMethod yX4_howMany ∈ TB := TB.mem (List.mem_of_getElem? (i := 429) (by decide +kernel)) (by decide +kernel)
theorem w_430 : Cond.selects RX4 yX4_howMany yX4_howMany ∈ TB := TB.mem (List.mem_of_getElem? (i := 430) (by decide +kernel)) (by decide +kernel)
theorem w_431 : Cond.code yX4_howMany prog_6_method_8_code 5 (some .int) ∈ TB := TB.mem (List.mem_of_getElem? (i := 431) (by decide +kernel)) (by decide +kernel)
theorem w_432 : Cond.methodLink RX4 38 yX4_bitsAt ∈ TB := TB.mem (List.mem_of_getElem? (i := 432) (by decide +kernel)) (by decide +kernel)
theorem w_433 : Cond.methodLink RX5 170 yX5_chanceAhead ∈ TB := TB.mem (List.mem_of_getElem? (i := 433) (by decide +kernel)) (by decide +kernel)
theorem w_434 : Cond.static yX5_chanceAhead ∈ TB := TB.mem (List.mem_of_getElem? (i := 434) (by decide +kernel)) (by decide +kernel)
theorem w_435 : Cond.code yX5_chanceAhead prog_1_method_38_code 4 (some .long) ∈ TB := TB.mem (List.mem_of_getElem? (i := 435) (by decide +kernel)) (by decide +kernel)
theorem w_436 : Cond.methodLink RX5 230 yX5_waysToChoose ∈ TB := TB.mem (List.mem_of_getElem? (i := 436) (by decide +kernel)) (by decide +kernel)
theorem w_437 : Cond.static yX5_waysToChoose ∈ TB := TB.mem (List.mem_of_getElem? (i := 437) (by decide +kernel)) (by decide +kernel)
theorem w_438 : Cond.code yX5_waysToChoose prog_1_method_39_code 5 (some .long) ∈ TB := TB.mem (List.mem_of_getElem? (i := 438) (by decide +kernel)) (by decide +kernel)
theorem w_439 : Cond.constantLong RX5 233 (1000000) ∈ TB := TB.mem (List.mem_of_getElem? (i := 439) (by decide +kernel)) (by decide +kernel)
theorem w_448 : Cond.methodLink RX5 174 yX5_rowsLacking ∈ TB := TB.mem (List.mem_of_getElem? (i := 448) (by decide +kernel)) (by decide +kernel)
theorem w_450 : Cond.instanceMethod yX5_rowsLacking ∈ TB := TB.mem (List.mem_of_getElem? (i := 450) (by decide +kernel)) (by decide +kernel)
theorem w_451 : Cond.code yX5_rowsLacking prog_1_method_32_code 2 (some .int) ∈ TB := TB.mem (List.mem_of_getElem? (i := 451) (by decide +kernel)) (by decide +kernel)
theorem w_456 : Cond.methodLink RX5 180 yX2_lastEnd ∈ TB := TB.mem (List.mem_of_getElem? (i := 456) (by decide +kernel)) (by decide +kernel)
theorem w_457 : Cond.instanceMethod yX2_lastEnd ∈ TB := TB.mem (List.mem_of_getElem? (i := 457) (by decide +kernel)) (by decide +kernel)
theorem w_458 : Cond.selects RX2 yX2_lastEnd yX2_lastEnd ∈ TB := TB.mem (List.mem_of_getElem? (i := 458) (by decide +kernel)) (by decide +kernel)
theorem w_459 : Cond.code yX2_lastEnd prog_4_method_4_code 4 (some .int) ∈ TB := TB.mem (List.mem_of_getElem? (i := 459) (by decide +kernel)) (by decide +kernel)
theorem w_460 : Cond.methodLink RX5 184 yJ9_min_7cf53 ∈ TB := TB.mem (List.mem_of_getElem? (i := 460) (by decide +kernel)) (by decide +kernel)
theorem w_461 : Cond.static yJ9_min_7cf53 ∈ TB := TB.mem (List.mem_of_getElem? (i := 461) (by decide +kernel)) (by decide +kernel)
theorem w_462 : Cond.code yJ9_min_7cf53 prog_10_method_69_code 2 (some .int) ∈ TB := TB.mem (List.mem_of_getElem? (i := 462) (by decide +kernel)) (by decide +kernel)
theorem w_467 : Cond.methodLink RX5 189 yX5_lookAtRow ∈ TB := TB.mem (List.mem_of_getElem? (i := 467) (by decide +kernel)) (by decide +kernel)
theorem w_468 : Cond.static yX5_lookAtRow ∈ TB := TB.mem (List.mem_of_getElem? (i := 468) (by decide +kernel)) (by decide +kernel)
theorem w_469 : Cond.code yX5_lookAtRow prog_1_method_26_code 2 (some .int) ∈ TB := TB.mem (List.mem_of_getElem? (i := 469) (by decide +kernel)) (by decide +kernel)
theorem w_470 : Cond.methodLink RX5 204 yX4_size ∈ TB := TB.mem (List.mem_of_getElem? (i := 470) (by decide +kernel)) (by decide +kernel)
theorem w_471 : Cond.methodLink RX5 192 yX4_tickAt ∈ TB := TB.mem (List.mem_of_getElem? (i := 471) (by decide +kernel)) (by decide +kernel)
theorem w_472 : Cond.methodLink RX5 195 yX4_kindAt ∈ TB := TB.mem (List.mem_of_getElem? (i := 472) (by decide +kernel)) (by decide +kernel)
theorem w_473 : Cond.instanceMethod yX4_kindAt ∈ TB := TB.mem (List.mem_of_getElem? (i := 473) (by decide +kernel)) (by decide +kernel)
theorem w_474 : Cond.selects RX4 yX4_kindAt yX4_kindAt ∈ TB := TB.mem (List.mem_of_getElem? (i := 474) (by decide +kernel)) (by decide +kernel)
theorem w_475 : Cond.code yX4_kindAt prog_6_method_6_code 2 (some .int) ∈ TB := TB.mem (List.mem_of_getElem? (i := 475) (by decide +kernel)) (by decide +kernel)
theorem w_484 : Cond.methodLink RX5 198 yX5_happeningsInAll ∈ TB := TB.mem (List.mem_of_getElem? (i := 484) (by decide +kernel)) (by decide +kernel)
theorem w_486 : Cond.instanceMethod yX5_happeningsInAll ∈ TB := TB.mem (List.mem_of_getElem? (i := 486) (by decide +kernel)) (by decide +kernel)
theorem w_487 : Cond.code yX5_happeningsInAll prog_1_method_27_code 3 (some .int) ∈ TB := TB.mem (List.mem_of_getElem? (i := 487) (by decide +kernel)) (by decide +kernel)
theorem w_494 : Cond.fieldLink RX6 64 "RowFinderModel" "rows" "I" ∈ TB := TB.mem (List.mem_of_getElem? (i := 494) (by decide +kernel)) (by decide +kernel)
theorem w_495 : Cond.fieldLink RX6 78 "RowFinderModel" "happenings" "I" ∈ TB := TB.mem (List.mem_of_getElem? (i := 495) (by decide +kernel)) (by decide +kernel)
theorem w_496 : Cond.fieldLink RX6 7 "RowFinderModel" "gap" "I" ∈ TB := TB.mem (List.mem_of_getElem? (i := 496) (by decide +kernel)) (by decide +kernel)
theorem w_497 : Cond.fieldLink RX6 13 "RowFinderModel" "span" "I" ∈ TB := TB.mem (List.mem_of_getElem? (i := 497) (by decide +kernel)) (by decide +kernel)
theorem w_498 : Cond.fieldLink RX6 16 "RowFinderModel" "over" "[I" ∈ TB := TB.mem (List.mem_of_getElem? (i := 498) (by decide +kernel)) (by decide +kernel)
theorem w_499 : Cond.fieldLink RX6 20 "RowFinderModel" "heap" "[I" ∈ TB := TB.mem (List.mem_of_getElem? (i := 499) (by decide +kernel)) (by decide +kernel)
theorem w_500 : Cond.fieldLink RX6 23 "RowFinderModel" "isOut" "[Z" ∈ TB := TB.mem (List.mem_of_getElem? (i := 500) (by decide +kernel)) (by decide +kernel)
theorem w_501 : Cond.fieldLink RX6 27 "RowFinderModel" "many" "[I" ∈ TB := TB.mem (List.mem_of_getElem? (i := 501) (by decide +kernel)) (by decide +kernel)
theorem w_502 : Cond.fieldLink RX6 30 "RowFinderModel" "tick" "[I" ∈ TB := TB.mem (List.mem_of_getElem? (i := 502) (by decide +kernel)) (by decide +kernel)
theorem w_503 : Cond.fieldLink RX6 33 "RowFinderModel" "kind" "[I" ∈ TB := TB.mem (List.mem_of_getElem? (i := 503) (by decide +kernel)) (by decide +kernel)
theorem w_504 : Cond.fieldLink RX6 121 "RowFinderModel" "found" "I" ∈ TB := TB.mem (List.mem_of_getElem? (i := 504) (by decide +kernel)) (by decide +kernel)
theorem w_505 : Cond.fieldLink RX6 36 "RowFinderModel" "items" "[I" ∈ TB := TB.mem (List.mem_of_getElem? (i := 505) (by decide +kernel)) (by decide +kernel)
theorem w_506 : Cond.fieldLink RX6 39 "RowFinderModel" "counts" "[I" ∈ TB := TB.mem (List.mem_of_getElem? (i := 506) (by decide +kernel)) (by decide +kernel)
theorem w_507 : Cond.fieldLink RX6 42 "RowFinderModel" "sizes" "[I" ∈ TB := TB.mem (List.mem_of_getElem? (i := 507) (by decide +kernel)) (by decide +kernel)
theorem w_508 : Cond.fieldLink RX6 81 "RowFinderModel" "size" "I" ∈ TB := TB.mem (List.mem_of_getElem? (i := 508) (by decide +kernel)) (by decide +kernel)
theorem w_509 : Cond.fieldLink RX6 45 "RowFinderModel" "item" "[I" ∈ TB := TB.mem (List.mem_of_getElem? (i := 509) (by decide +kernel)) (by decide +kernel)
theorem w_510 : Cond.fieldLink RX6 48 "RowFinderModel" "where" "[I" ∈ TB := TB.mem (List.mem_of_getElem? (i := 510) (by decide +kernel)) (by decide +kernel)
theorem w_511 : Cond.fieldLink RX6 51 "RowFinderModel" "reach" "[I" ∈ TB := TB.mem (List.mem_of_getElem? (i := 511) (by decide +kernel)) (by decide +kernel)
theorem w_512 : Cond.fieldLink RX6 54 "RowFinderModel" "wide" "[I" ∈ TB := TB.mem (List.mem_of_getElem? (i := 512) (by decide +kernel)) (by decide +kernel)
theorem w_513 : Cond.fieldLink RX6 57 "RowFinderModel" "place" "[I" ∈ TB := TB.mem (List.mem_of_getElem? (i := 513) (by decide +kernel)) (by decide +kernel)
theorem w_560 : Cond.methodLink RX6 67 yX6_isKind ∈ TB := TB.mem (List.mem_of_getElem? (i := 560) (by decide +kernel)) (by decide +kernel)
theorem w_561 : Cond.static yX6_isKind ∈ TB := TB.mem (List.mem_of_getElem? (i := 561) (by decide +kernel)) (by decide +kernel)
theorem w_562 : Cond.code yX6_isKind prog_8_method_3_code 1 (some .boolean) ∈ TB := TB.mem (List.mem_of_getElem? (i := 562) (by decide +kernel)) (by decide +kernel)
theorem w_563 : Cond.methodLink RX6 60 yX6_lies ∈ TB := TB.mem (List.mem_of_getElem? (i := 563) (by decide +kernel)) (by decide +kernel)
theorem w_564 : Cond.static yX6_lies ∈ TB := TB.mem (List.mem_of_getElem? (i := 564) (by decide +kernel)) (by decide +kernel)
theorem w_565 : Cond.code yX6_lies prog_8_method_2_code 3 (some .boolean) ∈ TB := TB.mem (List.mem_of_getElem? (i := 565) (by decide +kernel)) (by decide +kernel)
theorem w_566 : Cond.methodLink RX6 71 yX6_isOf ∈ TB := TB.mem (List.mem_of_getElem? (i := 566) (by decide +kernel)) (by decide +kernel)
theorem w_568 : Cond.instanceMethod yX6_isOf ∈ TB := TB.mem (List.mem_of_getElem? (i := 568) (by decide +kernel)) (by decide +kernel)
theorem w_569 : Cond.code yX6_isOf prog_8_method_5_code 4 (some .boolean) ∈ TB := TB.mem (List.mem_of_getElem? (i := 569) (by decide +kernel)) (by decide +kernel)
theorem w_582 : Cond.methodLink RX6 75 yX6_isRow ∈ TB := TB.mem (List.mem_of_getElem? (i := 582) (by decide +kernel)) (by decide +kernel)
theorem w_584 : Cond.instanceMethod yX6_isRow ∈ TB := TB.mem (List.mem_of_getElem? (i := 584) (by decide +kernel)) (by decide +kernel)
theorem w_585 : Cond.code yX6_isRow prog_8_method_4_code 2 (some .boolean) ∈ TB := TB.mem (List.mem_of_getElem? (i := 585) (by decide +kernel)) (by decide +kernel)
theorem w_602 : Cond.methodLink RX6 101 yX6_takes ∈ TB := TB.mem (List.mem_of_getElem? (i := 602) (by decide +kernel)) (by decide +kernel)
theorem w_604 : Cond.instanceMethod yX6_takes ∈ TB := TB.mem (List.mem_of_getElem? (i := 604) (by decide +kernel)) (by decide +kernel)
theorem w_605 : Cond.code yX6_takes prog_8_method_13_code 6 (some .boolean) ∈ TB := TB.mem (List.mem_of_getElem? (i := 605) (by decide +kernel)) (by decide +kernel)
theorem w_606 : Cond.methodLink RX6 105 yX6_mapsAll ∈ TB := TB.mem (List.mem_of_getElem? (i := 606) (by decide +kernel)) (by decide +kernel)
theorem w_608 : Cond.instanceMethod yX6_mapsAll ∈ TB := TB.mem (List.mem_of_getElem? (i := 608) (by decide +kernel)) (by decide +kernel)
theorem w_609 : Cond.code yX6_mapsAll prog_8_method_18_code 2 none ∈ TB := TB.mem (List.mem_of_getElem? (i := 609) (by decide +kernel)) (by decide +kernel)
theorem w_610 : Cond.methodLink RX6 90 yX6_maps ∈ TB := TB.mem (List.mem_of_getElem? (i := 610) (by decide +kernel)) (by decide +kernel)
theorem w_612 : Cond.instanceMethod yX6_maps ∈ TB := TB.mem (List.mem_of_getElem? (i := 612) (by decide +kernel)) (by decide +kernel)
theorem w_613 : Cond.code yX6_maps prog_8_method_17_code 6 none ∈ TB := TB.mem (List.mem_of_getElem? (i := 613) (by decide +kernel)) (by decide +kernel)
theorem w_614 : Cond.methodLink RX6 84 yX6_leads ∈ TB := TB.mem (List.mem_of_getElem? (i := 614) (by decide +kernel)) (by decide +kernel)
theorem w_616 : Cond.instanceMethod yX6_leads ∈ TB := TB.mem (List.mem_of_getElem? (i := 616) (by decide +kernel)) (by decide +kernel)
theorem w_617 : Cond.code yX6_leads prog_8_method_15_code 4 (some .boolean) ∈ TB := TB.mem (List.mem_of_getElem? (i := 617) (by decide +kernel)) (by decide +kernel)
theorem w_618 : Cond.methodLink RX6 87 yX6_spans ∈ TB := TB.mem (List.mem_of_getElem? (i := 618) (by decide +kernel)) (by decide +kernel)
theorem w_620 : Cond.instanceMethod yX6_spans ∈ TB := TB.mem (List.mem_of_getElem? (i := 620) (by decide +kernel)) (by decide +kernel)
theorem w_621 : Cond.code yX6_spans prog_8_method_16_code 4 (some .boolean) ∈ TB := TB.mem (List.mem_of_getElem? (i := 621) (by decide +kernel)) (by decide +kernel)
theorem w_622 : Cond.methodLink RX6 108 yX6_countOf ∈ TB := TB.mem (List.mem_of_getElem? (i := 622) (by decide +kernel)) (by decide +kernel)
theorem w_624 : Cond.instanceMethod yX6_countOf ∈ TB := TB.mem (List.mem_of_getElem? (i := 624) (by decide +kernel)) (by decide +kernel)
theorem w_625 : Cond.code yX6_countOf prog_8_method_21_code 4 (some .int) ∈ TB := TB.mem (List.mem_of_getElem? (i := 625) (by decide +kernel)) (by decide +kernel)
theorem w_626 : Cond.methodLink RX6 98 yX6_has ∈ TB := TB.mem (List.mem_of_getElem? (i := 626) (by decide +kernel)) (by decide +kernel)
theorem w_628 : Cond.instanceMethod yX6_has ∈ TB := TB.mem (List.mem_of_getElem? (i := 628) (by decide +kernel)) (by decide +kernel)
theorem w_629 : Cond.code yX6_has prog_8_method_20_code 4 (some .boolean) ∈ TB := TB.mem (List.mem_of_getElem? (i := 629) (by decide +kernel)) (by decide +kernel)
theorem w_630 : Cond.methodLink RX6 94 yX6_ends ∈ TB := TB.mem (List.mem_of_getElem? (i := 630) (by decide +kernel)) (by decide +kernel)
theorem w_632 : Cond.instanceMethod yX6_ends ∈ TB := TB.mem (List.mem_of_getElem? (i := 632) (by decide +kernel)) (by decide +kernel)
theorem w_633 : Cond.code yX6_ends prog_8_method_19_code 8 (some .int) ∈ TB := TB.mem (List.mem_of_getElem? (i := 633) (by decide +kernel)) (by decide +kernel)
theorem w_638 : Cond.constantLong RX6 115 (-1) ∈ TB := TB.mem (List.mem_of_getElem? (i := 638) (by decide +kernel)) (by decide +kernel)
theorem w_639 : Cond.methodLink RX6 117 yX6_next ∈ TB := TB.mem (List.mem_of_getElem? (i := 639) (by decide +kernel)) (by decide +kernel)
theorem w_641 : Cond.instanceMethod yX6_next ∈ TB := TB.mem (List.mem_of_getElem? (i := 641) (by decide +kernel)) (by decide +kernel)
theorem w_642 : Cond.code yX6_next prog_8_method_23_code 4 (some .boolean) ∈ TB := TB.mem (List.mem_of_getElem? (i := 642) (by decide +kernel)) (by decide +kernel)
theorem w_643 : Cond.methodLink RX6 112 yX6_isAt ∈ TB := TB.mem (List.mem_of_getElem? (i := 643) (by decide +kernel)) (by decide +kernel)
theorem w_645 : Cond.instanceMethod yX6_isAt ∈ TB := TB.mem (List.mem_of_getElem? (i := 645) (by decide +kernel)) (by decide +kernel)
theorem w_646 : Cond.code yX6_isAt prog_8_method_14_code 4 (some .boolean) ∈ TB := TB.mem (List.mem_of_getElem? (i := 646) (by decide +kernel)) (by decide +kernel)
theorem w_655 : Cond.methodLink RX6 124 yX6_isThere ∈ TB := TB.mem (List.mem_of_getElem? (i := 655) (by decide +kernel)) (by decide +kernel)
theorem w_657 : Cond.instanceMethod yX6_isThere ∈ TB := TB.mem (List.mem_of_getElem? (i := 657) (by decide +kernel)) (by decide +kernel)
theorem w_658 : Cond.code yX6_isThere prog_8_method_26_code 3 (some .boolean) ∈ TB := TB.mem (List.mem_of_getElem? (i := 658) (by decide +kernel)) (by decide +kernel)
theorem w_659 : Cond.methodLink RX6 127 yX6_keeps ∈ TB := TB.mem (List.mem_of_getElem? (i := 659) (by decide +kernel)) (by decide +kernel)
theorem w_661 : Cond.instanceMethod yX6_keeps ∈ TB := TB.mem (List.mem_of_getElem? (i := 661) (by decide +kernel)) (by decide +kernel)
theorem w_662 : Cond.code yX6_keeps prog_8_method_27_code 4 none ∈ TB := TB.mem (List.mem_of_getElem? (i := 662) (by decide +kernel)) (by decide +kernel)
theorem w_671 : Cond.methodLink RX6 131 yX6_takesFound ∈ TB := TB.mem (List.mem_of_getElem? (i := 671) (by decide +kernel)) (by decide +kernel)
theorem w_673 : Cond.instanceMethod yX6_takesFound ∈ TB := TB.mem (List.mem_of_getElem? (i := 673) (by decide +kernel)) (by decide +kernel)
theorem w_674 : Cond.code yX6_takesFound prog_8_method_30_code 2 (some .boolean) ∈ TB := TB.mem (List.mem_of_getElem? (i := 674) (by decide +kernel)) (by decide +kernel)
theorem w_679 : Cond.methodLink RX6 134 yX6_inHeap ∈ TB := TB.mem (List.mem_of_getElem? (i := 679) (by decide +kernel)) (by decide +kernel)
theorem w_681 : Cond.instanceMethod yX6_inHeap ∈ TB := TB.mem (List.mem_of_getElem? (i := 681) (by decide +kernel)) (by decide +kernel)
theorem w_682 : Cond.code yX6_inHeap prog_8_method_32_code 5 (some .int) ∈ TB := TB.mem (List.mem_of_getElem? (i := 682) (by decide +kernel)) (by decide +kernel)
theorem w_687 : Cond.methodLink RX6 138 yX6_those ∈ TB := TB.mem (List.mem_of_getElem? (i := 687) (by decide +kernel)) (by decide +kernel)
theorem w_689 : Cond.instanceMethod yX6_those ∈ TB := TB.mem (List.mem_of_getElem? (i := 689) (by decide +kernel)) (by decide +kernel)
theorem w_690 : Cond.code yX6_those prog_8_method_34_code 5 (some .int) ∈ TB := TB.mem (List.mem_of_getElem? (i := 690) (by decide +kernel)) (by decide +kernel)
theorem w_691 : Cond.constantLong RX6 142 (1000000) ∈ TB := TB.mem (List.mem_of_getElem? (i := 691) (by decide +kernel)) (by decide +kernel)
theorem w_692 : Cond.methodLink RX6 144 yX6_ways ∈ TB := TB.mem (List.mem_of_getElem? (i := 692) (by decide +kernel)) (by decide +kernel)
theorem w_693 : Cond.static yX6_ways ∈ TB := TB.mem (List.mem_of_getElem? (i := 693) (by decide +kernel)) (by decide +kernel)
theorem w_694 : Cond.code yX6_ways prog_8_method_35_code 5 (some .long) ∈ TB := TB.mem (List.mem_of_getElem? (i := 694) (by decide +kernel)) (by decide +kernel)
theorem w_703 : Cond.methodLink RX6 148 yX6_isLacking ∈ TB := TB.mem (List.mem_of_getElem? (i := 703) (by decide +kernel)) (by decide +kernel)
theorem w_705 : Cond.instanceMethod yX6_isLacking ∈ TB := TB.mem (List.mem_of_getElem? (i := 705) (by decide +kernel)) (by decide +kernel)
theorem w_706 : Cond.code yX6_isLacking prog_8_method_38_code 2 (some .boolean) ∈ TB := TB.mem (List.mem_of_getElem? (i := 706) (by decide +kernel)) (by decide +kernel)
end
section
/-! the program of the small machine: a table a method (printed by wip/gen/gen.py) -/
def k_X0_forget : List (Nat × tF) := [(0, f_loadR 0 1), (1, f_push 0 1), (2, f_putI 0 2), (5, f_vret)]
def k_X0_add : List (Nat × tF) := [(0, f_loadR 0 1), (1, f_getI 0 2), (4, f_push 2000 3), (7, f_icmp cGe cLt 40), (10, f_loadR 0 1), (11, f_getR 0 0 (fun i => 10)), (14, f_loadR 0 1), (15, f_getI 0 2), (18, f_loadI 1 1), (19, f_iast), (20, f_loadR 0 1), (21, f_getR 0 1 (fun i => 11)), (24, f_loadR 0 1), (25, f_getI 0 2), (28, f_loadI 2 1), (29, f_iast), (30, f_loadR 0 1), (31, f_dup), (32, f_getI 0 2), (35, f_push 1 1), (36, f_add), (37, f_putI 0 2), (40, f_vret)]
def k_X0_isFull : List (Nat × tF) := [(0, f_loadR 0 1), (1, f_getI 0 2), (4, f_push 2000 3), (7, f_icmp cLt cGe 14), (10, f_push 1 1), (11, f_goto 15), (14, f_push 0 1), (15, f_zret)]
def k_X0_holds : List (Nat × tF) := [(0, f_loadI 1 1), (1, f_if0 cLt cGe 16), (4, f_loadI 1 1), (5, f_loadR 0 1), (6, f_getI 0 2), (9, f_icmp cGe cLt 16), (12, f_push 1 1), (13, f_goto 17), (16, f_push 0 1), (17, f_zret)]
def k_X0_size : List (Nat × tF) := [(0, f_loadR 0 1), (1, f_getI 0 2), (4, f_iret)]
def k_X0_patternAt : List (Nat × tF) := [(0, f_loadR 0 1), (1, f_loadI 1 1), (2, f_callV 0 3 1), (5, f_if0 cEq cNe 17), (8, f_loadR 0 1), (9, f_getR 0 0 (fun i => 10)), (12, f_loadI 1 1), (13, f_iald), (14, f_goto 18), (17, f_push (-1) 1), (18, f_iret)]
def k_X0_rowsThenAt : List (Nat × tF) := [(0, f_loadR 0 1), (1, f_loadI 1 1), (2, f_callV 0 3 1), (5, f_if0 cEq cNe 17), (8, f_loadR 0 1), (9, f_getR 0 1 (fun i => 11)), (12, f_loadI 1 1), (13, f_iald), (14, f_goto 18), (17, f_push 0 1), (18, f_iret)]
def k_X1_lay : List (Nat × tF) := [(0, f_loadI 2 1), (1, f_push (-1) 1), (2, f_icmp cEq cNe 16), (5, f_loadR 0 1), (6, f_loadI 2 1), (7, f_loadI 1 1), (8, f_callV 1 9 2), (11, f_if0 cEq cNe 16), (14, f_push 0 1), (15, f_zret), (16, f_loadR 0 1), (17, f_getR 1 1 (fun i => 3)), (20, f_loadI 1 1), (21, f_loadI 2 1), (22, f_iast), (23, f_push 0 1), (24, f_storeI 3 1), (25, f_loadI 3 1), (26, f_push 16 2), (28, f_icmp cGe cLt 48), (31, f_loadR 0 1), (32, f_getR 1 0 (fun i => 2)), (35, f_loadI 3 1), (36, f_loadR 0 1), (37, f_loadI 3 1), (38, f_callV 1 8 1), (41, f_iast), (42, f_iinc 3 1), (45, f_goto 25), (48, f_push 1 1), (49, f_zret)]
def k_X1_climb : List (Nat × tF) := [(0, f_push 0 1), (1, f_storeI 2 1), (2, f_loadI 1 1), (3, f_storeI 3 1), (4, f_push 0 1), (5, f_storeI 4 2), (7, f_loadI 4 2), (9, f_push 16 2), (11, f_icmp cGe cLt 38), (14, f_loadI 3 1), (15, f_push (-1) 1), (16, f_icmp cEq cNe 38), (19, f_loadI 2 1), (20, f_push 1 1), (21, f_loadI 3 1), (22, f_shl), (23, f_or), (24, f_storeI 2 1), (25, f_loadR 0 1), (26, f_getR 1 1 (fun i => 3)), (29, f_loadI 3 1), (30, f_iald), (31, f_storeI 3 1), (32, f_iinc 4 1), (35, f_goto 7), (38, f_loadI 2 1), (39, f_iret)]
def k_X1_is : List (Nat × tF) := [(0, f_loadR 0 1), (1, f_getR 1 0 (fun i => 2)), (4, f_loadI 1 1), (5, f_iald), (6, f_loadI 2 1), (7, f_shr), (8, f_push 1 1), (9, f_and), (10, f_if0 cEq cNe 17), (13, f_push 1 1), (14, f_goto 18), (17, f_push 0 1), (18, f_zret)]
def k_X1_liesJustUnder : List (Nat × tF) := [(0, f_loadR 0 1), (1, f_getR 1 1 (fun i => 3)), (4, f_loadI 1 1), (5, f_iald), (6, f_loadI 2 1), (7, f_icmp cNe cEq 14), (10, f_push 1 1), (11, f_goto 15), (14, f_push 0 1), (15, f_zret)]
def k_X2_takeUp : List (Nat × tF) := [(0, f_loadR 0 1), (1, f_loadI 1 1), (2, f_callS 27 1), (5, f_putI 2 3), (8, f_push 0 1), (9, f_storeI 2 1), (10, f_loadI 2 1), (11, f_push 16 2), (13, f_icmp cGe cLt 89), (16, f_loadR 0 1), (17, f_getR 2 2 (fun i => 1)), (20, f_getR 1 0 (fun i => 2)), (23, f_loadI 2 1), (24, f_iald), (25, f_storeI 3 1), (26, f_loadI 1 1), (27, f_storeI 4 2), (29, f_loadR 0 1), (30, f_getR 2 4 (fun i => 5)), (33, f_loadI 2 1), (34, f_push 0 1), (35, f_iast), (36, f_loadR 0 1), (37, f_getI 2 3), (40, f_push 1 1), (41, f_sub), (42, f_storeI 5 2), (44, f_loadI 5 2), (46, f_if0 cLt cGe 83), (49, f_loadR 0 1), (50, f_getR 2 4 (fun i => 5)), (53, f_loadI 2 1), (54, f_dup2), (55, f_iald), (56, f_loadI 3 1), (57, f_loadI 4 2), (59, f_callS 29 1), (62, f_shr), (63, f_push 1 1), (64, f_and), (65, f_loadI 5 2), (67, f_shl), (68, f_or), (69, f_iast), (70, f_loadI 4 2), (72, f_callS 30 1), (75, f_storeI 4 2), (77, f_iinc 5 (-1)), (80, f_goto 44), (83, f_iinc 2 1), (86, f_goto 10), (89, f_vret)]
def k_X2_isIn : List (Nat × tF) := [(0, f_loadR 0 1), (1, f_callV 2 15 0), (4, f_push 0 1), (5, f_storeI 2 1), (6, f_loadI 2 1), (7, f_loadR 1 1), (8, f_callV 3 35 0), (11, f_icmp cGe cLt 31), (14, f_loadR 0 1), (15, f_loadR 1 1), (16, f_loadI 2 1), (17, f_callV 2 16 2), (20, f_if0 cEq cNe 25), (23, f_push 1 1), (24, f_zret), (25, f_iinc 2 1), (28, f_goto 6), (31, f_push 0 1), (32, f_zret)]
def k_X2_lastEnd : List (Nat × tF) := [(0, f_loadR 0 1), (1, f_callV 2 15 0), (4, f_push (-1) 1), (5, f_storeI 2 1), (6, f_push 0 1), (7, f_storeI 3 1), (8, f_loadI 3 1), (9, f_loadR 1 1), (10, f_callV 3 35 0), (13, f_icmp cGe cLt 37), (16, f_loadR 0 1), (17, f_loadR 1 1), (18, f_loadI 3 1), (19, f_callV 2 16 2), (22, f_if0 cEq cNe 31), (25, f_loadR 1 1), (26, f_loadI 3 1), (27, f_callV 3 36 1), (30, f_storeI 2 1), (31, f_iinc 3 1), (34, f_goto 8), (37, f_loadI 2 1), (38, f_iret)]
def k_X2_kindsBehind : List (Nat × tF) := [(0, f_loadR 0 1), (1, f_callV 2 15 0), (4, f_push 0 1), (5, f_storeI 2 1), (6, f_push 0 1), (7, f_storeI 3 1), (8, f_loadI 3 1), (9, f_loadR 1 1), (10, f_callV 3 35 0), (13, f_icmp cGe cLt 60), (16, f_loadR 0 1), (17, f_loadR 0 1), (18, f_getI 2 3), (21, f_loadR 1 1), (22, f_loadI 3 1), (23, f_callV 3 36 1), (26, f_callV 2 17 2), (29, f_if0 cEq cNe 47), (32, f_loadI 2 1), (33, f_loadR 1 1), (34, f_loadI 3 1), (35, f_loadR 0 1), (36, f_getR 2 2 (fun i => 1)), (39, f_getR 1 0 (fun i => 2)), (42, f_callV 3 38 2), (45, f_or), (46, f_storeI 2 1), (47, f_loadR 0 1), (48, f_loadR 1 1), (49, f_loadI 3 1), (50, f_callV 2 16 2), (53, f_pop), (54, f_iinc 3 1), (57, f_goto 8), (60, f_loadI 2 1), (61, f_iret)]
def k_X2_loseChains : List (Nat × tF) := [(0, f_push 0 1), (1, f_storeI 1 1), (2, f_loadI 1 1), (3, f_push 4 1), (4, f_icmp cGe cLt 27), (7, f_loadR 0 1), (8, f_getR 2 5 (fun i => 6)), (11, f_loadI 1 1), (12, f_push (-1) 1), (13, f_iast), (14, f_loadR 0 1), (15, f_getR 2 6 (fun i => 7)), (18, f_loadI 1 1), (19, f_push (-1) 1), (20, f_iast), (21, f_iinc 1 1), (24, f_goto 2), (27, f_vret)]
def k_X2_endsMatch : List (Nat × tF) := [(0, f_loadR 1 1), (1, f_loadI 2 1), (2, f_loadR 0 1), (3, f_getR 2 4 (fun i => 5)), (6, f_callV 3 38 2), (9, f_storeI 3 1), (10, f_loadR 1 1), (11, f_loadI 2 1), (12, f_callV 3 36 1), (15, f_storeI 4 2), (17, f_push 0 1), (18, f_storeI 5 2), (20, f_loadR 0 1), (21, f_getI 2 3), (24, f_push 1 1), (25, f_sub), (26, f_storeI 6 2), (28, f_loadI 3 1), (29, f_if0 cEq cNe 119), (32, f_loadI 6 2), (34, f_if0 cLt cGe 119), (37, f_loadI 3 1), (38, f_loadI 6 2), (40, f_shr), (41, f_push 1 1), (42, f_and), (43, f_if0 cEq cNe 113), (46, f_loadR 0 1), (47, f_loadI 6 2), (49, f_loadI 4 2), (51, f_callV 2 17 2), (54, f_if0 cEq cNe 113), (57, f_loadR 0 1), (58, f_getR 2 5 (fun i => 6)), (61, f_loadI 6 2), (63, f_loadI 6 2), (65, f_if0 cNe cEq 73), (68, f_loadI 4 2), (70, f_goto 82), (73, f_loadR 0 1), (74, f_getR 2 5 (fun i => 6)), (77, f_loadI 6 2), (79, f_push 1 1), (80, f_sub), (81, f_iald), (82, f_iast), (83, f_loadR 0 1), (84, f_getR 2 6 (fun i => 7)), (87, f_loadI 6 2), (89, f_loadI 4 2), (91, f_iast), (92, f_loadI 5 2), (94, f_loadI 6 2), (96, f_loadR 0 1), (97, f_getI 2 3), (100, f_push 1 1), (101, f_sub), (102, f_icmp cNe cEq 109), (105, f_push 1 1), (106, f_goto 110), (109, f_push 0 1), (110, f_or), (111, f_storeI 5 2), (113, f_iinc 6 (-1)), (116, f_goto 28), (119, f_loadI 5 2), (121, f_zret)]
def k_X2_canFollow : List (Nat × tF) := [(0, f_loadI 1 1), (1, f_if0 cNe cEq 6), (4, f_push 1 1), (5, f_zret), (6, f_loadI 1 1), (7, f_push 1 1), (8, f_sub), (9, f_storeI 3 1), (10, f_loadR 0 1), (11, f_getR 2 6 (fun i => 7)), (14, f_loadI 3 1), (15, f_iald), (16, f_push (-1) 1), (17, f_icmp cEq cNe 54), (20, f_loadI 2 1), (21, f_loadR 0 1), (22, f_getR 2 6 (fun i => 7)), (25, f_loadI 3 1), (26, f_iald), (27, f_sub), (28, f_loadR 0 1), (29, f_getI 2 0), (32, f_icmp cGt cLe 54), (35, f_loadI 2 1), (36, f_loadR 0 1), (37, f_getR 2 5 (fun i => 6)), (40, f_loadI 3 1), (41, f_iald), (42, f_sub), (43, f_loadR 0 1), (44, f_getI 2 1), (47, f_icmp cGt cLe 54), (50, f_push 1 1), (51, f_goto 55), (54, f_push 0 1), (55, f_zret)]
def k_X2_matchesIn : List (Nat × tF) := [(0, f_pushL 0 1), (1, f_storeL 2 1), (2, f_loadR 0 1), (3, f_loadR 1 1), (4, f_callV 2 20 1), (7, f_storeI 4 2), (9, f_loadI 4 2), (11, f_if0 cEq cNe 42), (14, f_loadL 2 1), (15, f_pushL (27405) 3), (18, f_lcmp), (19, f_if0 cGe cLt 42), (22, f_loadL 2 1), (23, f_pushL 1 1), (24, f_ladd), (25, f_storeL 2 1), (26, f_loadR 0 1), (27, f_loadR 1 1), (28, f_loadR 0 1), (29, f_getI 2 3), (32, f_push 1 1), (33, f_sub), (34, f_callV 2 21 2), (37, f_storeI 4 2), (39, f_goto 9), (42, f_loadL 2 1), (43, f_lret)]
def k_X2_placeInFirst : List (Nat × tF) := [(0, f_loadI 2 1), (1, f_if0 cLt cGe 29), (4, f_loadI 2 1), (5, f_loadR 0 1), (6, f_getI 2 3), (9, f_icmp cGe cLt 29), (12, f_loadR 0 1), (13, f_loadR 1 1), (14, f_callV 2 20 1), (17, f_if0 cEq cNe 29), (20, f_loadR 0 1), (21, f_getR 2 7 (fun i => 8)), (24, f_loadI 2 1), (25, f_iald), (26, f_goto 30), (29, f_push (-1) 1), (30, f_iret)]
def k_X2_goToFirstMatch : List (Nat × tF) := [(0, f_loadR 0 1), (1, f_getR 2 7 (fun i => 8)), (4, f_push 0 1), (5, f_push (-1) 1), (6, f_iast), (7, f_loadR 0 1), (8, f_loadR 1 1), (9, f_push 0 1), (10, f_callV 2 21 2), (13, f_zret)]
def k_X2_goToNextMatch : List (Nat × tF) := [(0, f_loadI 2 1), (1, f_storeI 3 1), (2, f_push 0 1), (3, f_storeI 4 2), (5, f_loadI 4 2), (7, f_push 1000000 2), (9, f_icmp cGe cLt 79), (12, f_loadI 3 1), (13, f_if0 cLt cGe 79), (16, f_loadR 0 1), (17, f_getR 2 7 (fun i => 8)), (20, f_loadI 3 1), (21, f_loadR 0 1), (22, f_loadR 1 1), (23, f_loadI 3 1), (24, f_callV 2 22 2), (27, f_iast), (28, f_loadR 0 1), (29, f_getR 2 7 (fun i => 8)), (32, f_loadI 3 1), (33, f_iald), (34, f_push (-1) 1), (35, f_icmp cNe cEq 44), (38, f_iinc 3 (-1)), (41, f_goto 73), (44, f_loadI 3 1), (45, f_loadR 0 1), (46, f_getI 2 3), (49, f_push 1 1), (50, f_sub), (51, f_icmp cLt cGe 56), (54, f_push 1 1), (55, f_zret), (56, f_loadR 0 1), (57, f_getR 2 7 (fun i => 8)), (60, f_loadI 3 1), (61, f_push 1 1), (62, f_add), (63, f_loadR 0 1), (64, f_getR 2 7 (fun i => 8)), (67, f_loadI 3 1), (68, f_iald), (69, f_iast), (70, f_iinc 3 1), (73, f_iinc 4 1), (76, f_goto 5), (79, f_push 0 1), (80, f_zret)]
def k_X2_nextPlace : List (Nat × tF) := [(0, f_loadR 0 1), (1, f_getR 2 7 (fun i => 8)), (4, f_loadI 2 1), (5, f_iald), (6, f_push 1 1), (7, f_add), (8, f_storeI 3 1), (9, f_loadI 3 1), (10, f_loadR 1 1), (11, f_callV 3 35 0), (14, f_icmp cGe cLt 35), (17, f_loadR 0 1), (18, f_loadR 1 1), (19, f_loadI 3 1), (20, f_loadI 2 1), (21, f_callV 2 23 3), (24, f_if0 cEq cNe 29), (27, f_loadI 3 1), (28, f_iret), (29, f_iinc 3 1), (32, f_goto 9), (35, f_push (-1) 1), (36, f_iret)]
def k_X2_canStandAt : List (Nat × tF) := [(0, f_loadR 1 1), (1, f_loadI 2 1), (2, f_loadR 0 1), (3, f_getR 2 4 (fun i => 5)), (6, f_callV 3 38 2), (9, f_loadI 3 1), (10, f_shr), (11, f_push 1 1), (12, f_and), (13, f_if0 cNe cEq 18), (16, f_push 0 1), (17, f_zret), (18, f_loadR 1 1), (19, f_loadI 2 1), (20, f_callV 3 36 1), (23, f_storeI 4 2), (25, f_loadI 3 1), (26, f_if0 cEq cNe 71), (29, f_loadI 4 2), (31, f_loadR 1 1), (32, f_loadR 0 1), (33, f_getR 2 7 (fun i => 8)), (36, f_loadI 3 1), (37, f_push 1 1), (38, f_sub), (39, f_iald), (40, f_callV 3 36 1), (43, f_sub), (44, f_loadR 0 1), (45, f_getI 2 0), (48, f_icmp cGt cLe 75), (51, f_loadI 4 2), (53, f_loadR 1 1), (54, f_loadR 0 1), (55, f_getR 2 7 (fun i => 8)), (58, f_push 0 1), (59, f_iald), (60, f_callV 3 36 1), (63, f_sub), (64, f_loadR 0 1), (65, f_getI 2 1), (68, f_icmp cGt cLe 75), (71, f_push 1 1), (72, f_goto 76), (75, f_push 0 1), (76, f_zret)]
def k_X3_of : List (Nat × tF) := [(0, f_loadI 0 1), (1, f_callS 60 1), (4, f_if0 cEq cNe 28), (7, f_loadI 1 1), (8, f_callS 25 1), (11, f_if0 cEq cNe 28), (14, f_loadI 2 1), (15, f_callS 25 1), (18, f_if0 cEq cNe 28), (21, f_loadI 3 1), (22, f_callS 25 1), (25, f_if0 cNe cEq 30), (28, f_push (-1) 1), (29, f_iret), (30, f_loadI 1 1), (31, f_push (-1) 1), (32, f_icmp cNe cEq 40), (35, f_loadI 2 1), (36, f_push (-1) 1), (37, f_icmp cNe cEq 50), (40, f_loadI 2 1), (41, f_push (-1) 1), (42, f_icmp cNe cEq 52), (45, f_loadI 3 1), (46, f_push (-1) 1), (47, f_icmp cEq cNe 52), (50, f_push (-1) 1), (51, f_iret), (52, f_push 1 1), (53, f_loadI 0 1), (54, f_callS 26 2), (57, f_loadI 1 1), (58, f_callS 26 2), (61, f_loadI 2 1), (62, f_callS 26 2), (65, f_loadI 3 1), (66, f_callS 26 2), (69, f_iret)]
def k_X3_isKindOrNone : List (Nat × tF) := [(0, f_loadI 0 1), (1, f_push (-1) 1), (2, f_icmp cEq cNe 12), (5, f_loadI 0 1), (6, f_callS 60 1), (9, f_if0 cEq cNe 16), (12, f_push 1 1), (13, f_goto 17), (16, f_push 0 1), (17, f_zret)]
def k_X3_lengthen : List (Nat × tF) := [(0, f_loadI 1 1), (1, f_push (-1) 1), (2, f_icmp cNe cEq 9), (5, f_loadI 0 1), (6, f_goto 15), (9, f_loadI 0 1), (10, f_push 0 1), (11, f_loadI 1 1), (12, f_callS 31 3), (15, f_iret)]
def k_X3_length : List (Nat × tF) := [(0, f_push 0 1), (1, f_storeI 1 1), (2, f_loadI 1 1), (3, f_push 4 1), (4, f_icmp cGe cLt 23), (7, f_loadI 0 1), (8, f_push 4 1), (9, f_loadI 1 1), (10, f_push 1 1), (11, f_add), (12, f_mul), (13, f_shr), (14, f_if0 cLe cGt 23), (17, f_iinc 1 1), (20, f_goto 2), (23, f_loadI 1 1), (24, f_iret)]
def k_X3_item : List (Nat × tF) := [(0, f_loadI 0 1), (1, f_callS 27 1), (4, f_storeI 2 1), (5, f_loadI 1 1), (6, f_if0 cLt cGe 14), (9, f_loadI 1 1), (10, f_loadI 2 1), (11, f_icmp cLt cGe 18), (14, f_push (-1) 1), (15, f_goto 30), (18, f_loadI 0 1), (19, f_push 4 1), (20, f_loadI 2 1), (21, f_push 1 1), (22, f_sub), (23, f_loadI 1 1), (24, f_sub), (25, f_mul), (26, f_shr), (27, f_push 15 2), (29, f_and), (30, f_iret)]
def k_X3_lastItem : List (Nat × tF) := [(0, f_loadI 0 1), (1, f_push 15 2), (3, f_and), (4, f_iret)]
def k_X3_withoutLast : List (Nat × tF) := [(0, f_loadI 0 1), (1, f_push 4 1), (2, f_shr), (3, f_iret)]
def k_X3_insert : List (Nat × tF) := [(0, f_push 4 1), (1, f_loadI 1 1), (2, f_mul), (3, f_storeI 3 1), (4, f_loadI 0 1), (5, f_push 1 1), (6, f_loadI 3 1), (7, f_shl), (8, f_push 1 1), (9, f_sub), (10, f_and), (11, f_storeI 4 2), (13, f_loadI 0 1), (14, f_loadI 3 1), (15, f_shr), (16, f_push 4 1), (17, f_shl), (18, f_loadI 2 1), (19, f_or), (20, f_loadI 3 1), (21, f_shl), (22, f_loadI 4 2), (24, f_or), (25, f_iret)]
def k_X3_replace : List (Nat × tF) := [(0, f_push 4 1), (1, f_loadI 0 1), (2, f_callS 27 1), (5, f_push 1 1), (6, f_sub), (7, f_loadI 1 1), (8, f_sub), (9, f_mul), (10, f_storeI 3 1), (11, f_loadI 0 1), (12, f_push 15 2), (14, f_loadI 3 1), (15, f_shl), (16, f_push (-1) 1), (17, f_xor), (18, f_and), (19, f_loadI 2 1), (20, f_loadI 3 1), (21, f_shl), (22, f_or), (23, f_iret)]
def k_X4_begin : List (Nat × tF) := [(0, f_loadR 0 1), (1, f_loadI 1 1), (2, f_putI 3 0), (5, f_loadR 0 1), (6, f_push 1 1), (7, f_putZ 3 1), (10, f_loadR 0 1), (11, f_push 0 1), (12, f_putI 3 4), (15, f_vret)]
def k_X4_append : List (Nat × tF) := [(0, f_loadR 0 1), (1, f_getI 3 4), (4, f_push 30 2), (6, f_icmp cGe cLt 23), (9, f_loadI 1 1), (10, f_loadR 0 1), (11, f_loadR 0 1), (12, f_getI 3 4), (15, f_push 1 1), (16, f_sub), (17, f_callV 3 36 1), (20, f_icmp cGe cLt 25), (23, f_push (-1) 1), (24, f_iret), (25, f_loadR 0 1), (26, f_getR 3 2 (fun i => i + 24)), (29, f_loadR 0 1), (30, f_getI 3 4), (33, f_loadI 1 1), (34, f_iast), (35, f_loadR 0 1), (36, f_getR 3 3 (fun i => i + 48)), (39, f_loadR 0 1), (40, f_getI 3 4), (43, f_loadI 2 1), (44, f_iast), (45, f_loadR 0 1), (46, f_dup), (47, f_getI 3 4), (50, f_push 1 1), (51, f_add), (52, f_putI 3 4), (55, f_loadR 0 1), (56, f_getI 3 4), (59, f_push 1 1), (60, f_sub), (61, f_iret)]
def k_X4_size : List (Nat × tF) := [(0, f_loadR 0 1), (1, f_getI 3 4), (4, f_iret)]
def k_X4_tickAt : List (Nat × tF) := [(0, f_loadI 1 1), (1, f_if0 cLt cGe 21), (4, f_loadI 1 1), (5, f_loadR 0 1), (6, f_getI 3 4), (9, f_icmp cGe cLt 21), (12, f_loadR 0 1), (13, f_getR 3 2 (fun i => i + 24)), (16, f_loadI 1 1), (17, f_iald), (18, f_goto 22), (21, f_push (-1) 1), (22, f_iret)]
def k_X4_kindAt : List (Nat × tF) := [(0, f_loadI 1 1), (1, f_if0 cLt cGe 21), (4, f_loadI 1 1), (5, f_loadR 0 1), (6, f_getI 3 4), (9, f_icmp cGe cLt 21), (12, f_loadR 0 1), (13, f_getR 3 3 (fun i => i + 48)), (16, f_loadI 1 1), (17, f_iald), (18, f_goto 22), (21, f_push (-1) 1), (22, f_iret)]
def k_X4_bitsAt : List (Nat × tF) := [(0, f_loadI 1 1), (1, f_if0 cLt cGe 23), (4, f_loadI 1 1), (5, f_loadR 0 1), (6, f_getI 3 4), (9, f_icmp cGe cLt 23), (12, f_loadR 2 1), (13, f_loadR 0 1), (14, f_getR 3 3 (fun i => i + 48)), (17, f_loadI 1 1), (18, f_iald), (19, f_iald), (20, f_goto 24), (23, f_push 0 1), (24, f_iret)]
def k_X4_howMany : List (Nat × tF) := [(0, f_push 0 1), (1, f_storeI 3 1), (2, f_push 0 1), (3, f_storeI 4 2), (5, f_loadI 4 2), (7, f_loadR 0 1), (8, f_getI 3 4), (11, f_icmp cGe cLt 37), (14, f_loadI 3 1), (15, f_loadR 0 1), (16, f_loadI 4 2), (18, f_loadR 1 1), (19, f_getR 1 0 (fun i => 2)), (22, f_callV 3 38 2), (25, f_loadI 2 1), (26, f_shr), (27, f_push 1 1), (28, f_and), (29, f_add), (30, f_storeI 3 1), (31, f_iinc 4 1), (34, f_goto 5), (37, f_loadI 3 1), (38, f_iret)]
def k_X5_under : List (Nat × tF) := [(0, f_loadI 1 1), (1, f_callS 60 1), (4, f_if0 cEq cNe 35), (7, f_loadI 2 1), (8, f_push (-1) 1), (9, f_icmp cEq cNe 19), (12, f_loadI 2 1), (13, f_callS 60 1), (16, f_if0 cEq cNe 35), (19, f_loadR 0 1), (20, f_getR 4 0 (fun i => 1)), (23, f_loadI 1 1), (24, f_loadI 2 1), (25, f_callV 1 7 2), (28, f_if0 cEq cNe 35), (31, f_push 1 1), (32, f_goto 36), (35, f_push 0 1), (36, f_zret)]
def k_X5_row : List (Nat × tF) := [(0, f_loadI 1 1), (1, f_if0 cLt cGe 18), (4, f_loadI 1 1), (5, f_push 2 1), (6, f_icmp cGe cLt 18), (9, f_loadR 0 1), (10, f_getI 4 5), (13, f_push 24 2), (15, f_icmp cLt cGe 20), (18, f_push (-1) 1), (19, f_iret), (20, f_loadR 0 1), (21, f_getR 4 3 (fun i => 12)), (24, f_loadR 0 1), (25, f_getI 4 5), (28, f_aald), (29, f_loadI 1 1), (30, f_callV 3 33 1), (33, f_loadR 0 1), (34, f_dup), (35, f_getI 4 5), (38, f_push 1 1), (39, f_add), (40, f_putI 4 5), (43, f_loadR 0 1), (44, f_getI 4 5), (47, f_push 1 1), (48, f_sub), (49, f_iret)]
def k_X5_put : List (Nat × tF) := [(0, f_loadR 0 1), (1, f_loadI 1 1), (2, f_callV 4 63 1), (5, f_if0 cEq cNe 36), (8, f_loadI 2 1), (9, f_callS 61 1), (12, f_if0 cEq cNe 36), (15, f_loadI 3 1), (16, f_callS 60 1), (19, f_if0 cEq cNe 36), (22, f_loadR 0 1), (23, f_getR 4 3 (fun i => 12)), (26, f_loadI 1 1), (27, f_aald), (28, f_loadI 2 1), (29, f_loadI 3 1), (30, f_callV 3 34 2), (33, f_goto 37), (36, f_push (-1) 1), (37, f_iret)]
def k_X5_take : List (Nat × tF) := [(0, f_loadR 0 1), (1, f_loadI 1 1), (2, f_callV 4 63 1), (5, f_if0 cEq cNe 21), (8, f_loadR 0 1), (9, f_getR 4 3 (fun i => 12)), (12, f_loadI 1 1), (13, f_aald), (14, f_getI 3 1), (17, f_loadI 2 1), (18, f_icmp cNe cEq 23), (21, f_push 0 1), (22, f_zret), (23, f_loadR 0 1), (24, f_getR 4 3 (fun i => 12)), (27, f_loadI 1 1), (28, f_aald), (29, f_loadI 2 1), (30, f_putZ 3 1), (33, f_push 1 1), (34, f_zret)]
def k_X5_gap : List (Nat × tF) := [(0, f_loadI 1 1), (1, f_callS 61 1), (4, f_if0 cNe cEq 9), (7, f_push 0 1), (8, f_zret), (9, f_loadR 0 1), (10, f_getR 4 1 (fun i => 4)), (13, f_loadI 1 1), (14, f_putI 2 0), (17, f_push 1 1), (18, f_zret)]
def k_X5_span : List (Nat × tF) := [(0, f_loadI 1 1), (1, f_callS 61 1), (4, f_if0 cNe cEq 9), (7, f_push 0 1), (8, f_zret), (9, f_loadR 0 1), (10, f_getR 4 1 (fun i => 4)), (13, f_loadI 1 1), (14, f_putI 2 1), (17, f_push 1 1), (18, f_zret)]
def k_X5_count : List (Nat × tF) := [(0, f_loadI 1 1), (1, f_loadI 2 1), (2, f_loadI 3 1), (3, f_loadI 4 2), (5, f_callS 24 4), (8, f_storeI 5 2), (10, f_loadI 5 2), (12, f_push (-1) 1), (13, f_icmp cNe cEq 20), (16, f_push (-1) 1), (17, f_goto 26), (20, f_loadR 0 1), (21, f_loadI 5 2), (23, f_callV 4 69 1), (26, f_iret)]
def k_X5_matches : List (Nat × tF) := [(0, f_loadI 2 1), (1, f_loadI 3 1), (2, f_loadI 4 2), (4, f_loadI 5 2), (6, f_callS 24 4), (9, f_storeI 6 2), (11, f_loadR 0 1), (12, f_loadI 1 1), (13, f_callV 4 63 1), (16, f_if0 cEq cNe 25), (19, f_loadI 6 2), (21, f_push (-1) 1), (22, f_icmp cNe cEq 29), (25, f_pushL (-1) 3), (28, f_lret), (29, f_loadR 0 1), (30, f_getR 4 1 (fun i => 4)), (33, f_loadI 6 2), (35, f_callV 2 11 1), (38, f_loadR 0 1), (39, f_getR 4 1 (fun i => 4)), (42, f_loadR 0 1), (43, f_getR 4 3 (fun i => 12)), (46, f_loadI 1 1), (47, f_aald), (48, f_callV 2 18 1), (51, f_lret)]
def k_X5_match : List (Nat × tF) := [(0, f_loadI 2 1), (1, f_loadI 3 1), (2, f_loadI 4 2), (4, f_loadI 5 2), (6, f_callS 24 4), (9, f_storeI 7 2), (11, f_loadR 0 1), (12, f_loadI 1 1), (13, f_callV 4 63 1), (16, f_if0 cEq cNe 25), (19, f_loadI 7 2), (21, f_push (-1) 1), (22, f_icmp cNe cEq 27), (25, f_push (-1) 1), (26, f_iret), (27, f_loadR 0 1), (28, f_getR 4 1 (fun i => 4)), (31, f_loadI 7 2), (33, f_callV 2 11 1), (36, f_loadR 0 1), (37, f_getR 4 1 (fun i => 4)), (40, f_loadR 0 1), (41, f_getR 4 3 (fun i => 12)), (44, f_loadI 1 1), (45, f_aald), (46, f_loadI 6 2), (48, f_callV 2 19 2), (51, f_iret)]
def k_X5_find : List (Nat × tF) := [(0, f_loadI 1 1), (1, f_push 1 1), (2, f_icmp cLt cGe 21), (5, f_loadI 1 1), (6, f_push 24 2), (8, f_icmp cGt cLe 21), (11, f_loadI 2 1), (12, f_push 1 1), (13, f_icmp cLt cGe 21), (16, f_loadI 2 1), (17, f_push 4 1), (18, f_icmp cLe cGt 23), (21, f_push (-1) 1), (22, f_iret), (23, f_loadR 0 1), (24, f_getR 4 2 (fun i => 9)), (27, f_callV 0 0 0), (30, f_loadR 0 1), (31, f_push 1 1), (32, f_loadR 0 1), (33, f_callV 4 67 0), (36, f_loadI 1 1), (37, f_callV 4 72 3), (40, f_push 0 1), (41, f_storeI 3 1), (42, f_loadI 3 1), (43, f_loadR 0 1), (44, f_getR 4 2 (fun i => 9)), (47, f_callV 0 4 0), (50, f_icmp cGe cLt 115), (53, f_loadI 3 1), (54, f_push 2000 3), (57, f_icmp cGe cLt 115), (60, f_loadR 0 1), (61, f_getR 4 2 (fun i => 9)), (64, f_callV 0 2 0), (67, f_if0 cNe cEq 115), (70, f_loadR 0 1), (71, f_getR 4 2 (fun i => 9)), (74, f_loadI 3 1), (75, f_callV 0 5 1), (78, f_callS 27 1), (81, f_loadI 2 1), (82, f_icmp cLt cGe 88), (85, f_goto 115), (88, f_loadR 0 1), (89, f_loadR 0 1), (90, f_getR 4 2 (fun i => 9)), (93, f_loadI 3 1), (94, f_callV 0 5 1), (97, f_loadR 0 1), (98, f_getR 4 2 (fun i => 9)), (101, f_loadI 3 1), (102, f_callV 0 6 1), (105, f_loadI 1 1), (106, f_callV 4 72 3), (109, f_iinc 3 1), (112, f_goto 42), (115, f_loadR 0 1), (116, f_getR 4 2 (fun i => 9)), (119, f_callV 0 4 0), (122, f_iret)]
def k_X5_found : List (Nat × tF) := [(0, f_loadR 0 1), (1, f_getR 4 2 (fun i => 9)), (4, f_loadI 1 1), (5, f_callV 0 3 1), (8, f_if0 cNe cEq 13), (11, f_push (-1) 1), (12, f_iret), (13, f_loadI 2 1), (14, f_push 4 1), (15, f_icmp cNe cEq 30), (18, f_loadR 0 1), (19, f_getR 4 2 (fun i => 9)), (22, f_loadI 1 1), (23, f_callV 0 6 1), (26, f_callS 119 1), (29, f_iret), (30, f_loadI 2 1), (31, f_push 5 1), (32, f_icmp cNe cEq 49), (35, f_loadR 0 1), (36, f_getR 4 2 (fun i => 9)), (39, f_loadI 1 1), (40, f_callV 0 5 1), (43, f_callS 27 1), (46, f_goto 61), (49, f_loadR 0 1), (50, f_getR 4 2 (fun i => 9)), (53, f_loadI 1 1), (54, f_callV 0 5 1), (57, f_loadI 2 1), (58, f_callS 28 2), (61, f_iret)]
def k_X5_closed : List (Nat × tF) := [(0, f_loadR 0 1), (1, f_getR 4 2 (fun i => 9)), (4, f_loadI 1 1), (5, f_callV 0 3 1), (8, f_if0 cNe cEq 13), (11, f_push (-1) 1), (12, f_iret), (13, f_loadR 0 1), (14, f_getR 4 2 (fun i => 9)), (17, f_loadI 1 1), (18, f_callV 0 5 1), (21, f_storeI 2 1), (22, f_loadR 0 1), (23, f_loadI 2 1), (24, f_callV 4 69 1), (27, f_storeI 3 1), (28, f_loadR 0 1), (29, f_loadI 2 1), (30, f_loadI 3 1), (31, f_callV 4 73 2), (34, f_if0 cNe cEq 46), (37, f_loadR 0 1), (38, f_loadI 2 1), (39, f_loadI 3 1), (40, f_callV 4 74 2), (43, f_if0 cEq cNe 50), (46, f_push 0 1), (47, f_goto 51), (50, f_push 1 1), (51, f_iret)]
def k_X5_best : List (Nat × tF) := [(0, f_loadR 0 1), (1, f_push 0 1), (2, f_callV 4 66 1), (5, f_storeI 1 1), (6, f_loadR 0 1), (7, f_push 1 1), (8, f_callV 4 66 1), (11, f_storeI 2 1), (12, f_push (-1) 1), (13, f_storeI 3 1), (14, f_push (-1) 1), (15, f_storeI 4 2), (17, f_push (-1) 1), (18, f_storeI 5 2), (20, f_push 0 1), (21, f_storeI 6 2), (23, f_loadI 6 2), (25, f_loadR 0 1), (26, f_getR 4 2 (fun i => 9)), (29, f_callV 0 4 0), (32, f_icmp cGe cLt 110), (35, f_loadR 0 1), (36, f_getR 4 2 (fun i => 9)), (39, f_loadI 6 2), (41, f_callV 0 5 1), (44, f_storeI 7 2), (46, f_loadI 7 2), (48, f_callS 30 1), (51, f_storeI 8 2), (53, f_loadI 8 2), (55, f_loadI 5 2), (57, f_icmp cEq cNe 73), (60, f_loadR 0 1), (61, f_loadI 8 2), (63, f_loadI 1 1), (64, f_loadI 2 1), (65, f_or), (66, f_callV 4 71 2), (69, f_loadI 8 2), (71, f_storeI 5 2), (73, f_loadR 0 1), (74, f_getR 4 4 (fun i => 13)), (77, f_loadI 7 2), (79, f_callS 29 1), (82, f_iald), (83, f_loadI 1 1), (84, f_loadI 2 1), (85, f_callS 75 3), (88, f_storeI 9 2), (90, f_loadI 9 2), (92, f_loadI 4 2), (94, f_icmp cLe cGt 104), (97, f_loadI 9 2), (99, f_storeI 4 2), (101, f_loadI 6 2), (103, f_storeI 3 1), (104, f_iinc 6 1), (107, f_goto 23), (110, f_loadI 3 1), (111, f_iret)]
def k_X5_expected : List (Nat × tF) := [(0, f_loadI 1 1), (1, f_callS 60 1), (4, f_if0 cEq cNe 38), (7, f_loadI 2 1), (8, f_callS 60 1), (11, f_if0 cEq cNe 38), (14, f_loadR 0 1), (15, f_getR 4 0 (fun i => 1)), (18, f_loadI 1 1), (19, f_loadI 2 1), (20, f_callV 1 9 2), (23, f_if0 cNe cEq 38), (26, f_loadR 0 1), (27, f_getR 4 0 (fun i => 1)), (30, f_loadI 2 1), (31, f_loadI 1 1), (32, f_callV 1 9 2), (35, f_if0 cEq cNe 42), (38, f_pushL (-1) 3), (41, f_lret), (42, f_pushL 0 1), (43, f_storeL 3 1), (44, f_push 0 1), (45, f_storeI 5 2), (47, f_loadI 5 2), (49, f_loadR 0 1), (50, f_getI 4 5), (53, f_icmp cGe cLt 111), (56, f_loadR 0 1), (57, f_getR 4 3 (fun i => 12)), (60, f_loadI 5 2), (62, f_aald), (63, f_getI 3 1), (66, f_if0 cEq cNe 105), (69, f_loadL 3 1), (70, f_loadR 0 1), (71, f_getR 4 3 (fun i => 12)), (74, f_loadI 5 2), (76, f_aald), (77, f_loadR 0 1), (78, f_getR 4 0 (fun i => 1)), (81, f_loadI 1 1), (82, f_callV 3 39 2), (85, f_loadR 0 1), (86, f_getR 4 3 (fun i => 12)), (89, f_loadI 5 2), (91, f_aald), (92, f_loadR 0 1), (93, f_getR 4 0 (fun i => 1)), (96, f_loadI 2 1), (97, f_callV 3 39 2), (100, f_callS 76 2), (103, f_ladd), (104, f_storeL 3 1), (105, f_iinc 5 1), (108, f_goto 47), (111, f_loadL 3 1), (112, f_lret)]
def k_X5_share : List (Nat × tF) := [(0, f_loadI 1 1), (1, f_loadI 2 1), (2, f_loadI 3 1), (3, f_loadI 4 2), (5, f_callS 24 4), (8, f_storeI 5 2), (10, f_loadI 5 2), (12, f_callS 27 1), (15, f_push 2 1), (16, f_icmp cGe cLt 21), (19, f_push (-1) 1), (20, f_iret), (21, f_loadR 0 1), (22, f_loadI 5 2), (24, f_callS 30 1), (27, f_callV 4 69 1), (30, f_storeI 6 2), (32, f_loadI 6 2), (34, f_if0 cNe cEq 41), (37, f_push 0 1), (38, f_goto 54), (41, f_loadR 0 1), (42, f_loadI 5 2), (44, f_callV 4 69 1), (47, f_push 1000 3), (50, f_mul), (51, f_loadI 6 2), (53, f_div), (54, f_iret)]
def k_X5_lacking : List (Nat × tF) := [(0, f_loadR 0 1), (1, f_loadI 1 1), (2, f_loadI 2 1), (3, f_loadI 3 1), (4, f_loadI 4 2), (6, f_callS 24 4), (9, f_callV 4 70 1), (12, f_storeI 6 2), (14, f_push 0 1), (15, f_storeI 7 2), (17, f_push 0 1), (18, f_storeI 8 2), (20, f_loadI 8 2), (22, f_loadR 0 1), (23, f_getI 4 5), (26, f_icmp cGe cLt 58), (29, f_loadI 8 2), (31, f_loadI 6 2), (33, f_callS 62 2), (36, f_if0 cEq cNe 52), (39, f_loadI 7 2), (41, f_loadI 5 2), (43, f_icmp cNe cEq 49), (46, f_loadI 8 2), (48, f_iret), (49, f_iinc 7 1), (52, f_iinc 8 1), (55, f_goto 20), (58, f_push (-1) 1), (59, f_iret)]
def k_X5_sure : List (Nat × tF) := [(0, f_loadI 2 1), (1, f_loadI 3 1), (2, f_loadI 4 2), (4, f_loadI 5 2), (6, f_callS 24 4), (9, f_storeI 6 2), (11, f_loadR 0 1), (12, f_loadI 1 1), (13, f_callV 4 63 1), (16, f_if0 cEq cNe 32), (19, f_loadI 1 1), (20, f_loadR 0 1), (21, f_loadI 6 2), (23, f_callV 4 70 1), (26, f_callS 62 2), (29, f_if0 cNe cEq 34), (32, f_push (-1) 1), (33, f_iret), (34, f_loadR 0 1), (35, f_getR 4 1 (fun i => 4)), (38, f_loadI 6 2), (40, f_callS 30 1), (43, f_callV 2 11 1), (46, f_push 9999 3), (49, f_loadR 0 1), (50, f_getR 4 1 (fun i => 4)), (53, f_loadR 0 1), (54, f_getR 4 3 (fun i => 12)), (57, f_loadI 1 1), (58, f_aald), (59, f_callV 2 13 1), (62, f_loadR 0 1), (63, f_getR 4 1 (fun i => 4)), (66, f_getI 2 0), (69, f_add), (70, f_callS 121 2), (73, f_iret)]
def k_X5_look : List (Nat × tF) := [(0, f_loadR 0 1), (1, f_loadI 1 1), (2, f_callV 4 63 1), (5, f_if0 cNe cEq 10), (8, f_push (-1) 1), (9, f_iret), (10, f_loadI 2 1), (11, f_push (-1) 1), (12, f_icmp cNe cEq 26), (15, f_loadR 0 1), (16, f_getR 4 3 (fun i => 12)), (19, f_loadI 1 1), (20, f_aald), (21, f_loadI 3 1), (22, f_callS 64 2), (25, f_iret), (26, f_loadI 3 1), (27, f_lsw2 0 1 52 63 74), (52, f_loadR 0 1), (53, f_getR 4 3 (fun i => 12)), (56, f_loadI 1 1), (57, f_aald), (58, f_loadI 2 1), (59, f_callV 3 36 1), (62, f_iret), (63, f_loadR 0 1), (64, f_getR 4 3 (fun i => 12)), (67, f_loadI 1 1), (68, f_aald), (69, f_loadI 2 1), (70, f_callV 3 37 1), (73, f_iret), (74, f_push (-1) 1), (75, f_iret)]
def k_X5_isUnder : List (Nat × tF) := [(0, f_loadI 1 1), (1, f_callS 60 1), (4, f_if0 cEq cNe 14), (7, f_loadI 2 1), (8, f_callS 60 1), (11, f_if0 cNe cEq 16), (14, f_push (-1) 1), (15, f_iret), (16, f_loadI 1 1), (17, f_loadI 2 1), (18, f_icmp cEq cNe 37), (21, f_loadR 0 1), (22, f_getR 4 0 (fun i => 1)), (25, f_loadI 1 1), (26, f_loadI 2 1), (27, f_callV 1 9 2), (30, f_if0 cEq cNe 37), (33, f_push 1 1), (34, f_goto 38), (37, f_push 0 1), (38, f_iret)]
def k_X5_tell : List (Nat × tF) := [(0, f_loadI 1 1), (1, f_tsw 0 5 [40, 45, 53, 61, 69, 77] 82), (40, f_loadR 0 1), (41, f_getI 4 5), (44, f_iret), (45, f_loadR 0 1), (46, f_callV 4 67 0), (49, f_callS 119 1), (52, f_iret), (53, f_loadR 0 1), (54, f_getR 4 1 (fun i => 4)), (57, f_getI 2 0), (60, f_iret), (61, f_loadR 0 1), (62, f_getR 4 1 (fun i => 4)), (65, f_getI 2 1), (68, f_iret), (69, f_loadR 0 1), (70, f_getR 4 2 (fun i => 9)), (73, f_callV 0 4 0), (76, f_iret), (77, f_loadR 0 1), (78, f_callV 4 65 0), (81, f_iret), (82, f_push (-1) 1), (83, f_iret)]
def k_X5_isKind : List (Nat × tF) := [(0, f_loadI 0 1), (1, f_if0 cLt cGe 14), (4, f_loadI 0 1), (5, f_push 16 2), (7, f_icmp cGe cLt 14), (10, f_push 1 1), (11, f_goto 15), (14, f_push 0 1), (15, f_zret)]
def k_X5_isTick : List (Nat × tF) := [(0, f_loadI 0 1), (1, f_if0 cLt cGe 15), (4, f_loadI 0 1), (5, f_push 9999 3), (8, f_icmp cGt cLe 15), (11, f_push 1 1), (12, f_goto 16), (15, f_push 0 1), (16, f_zret)]
def k_X5_isAmong : List (Nat × tF) := [(0, f_loadI 1 1), (1, f_loadI 0 1), (2, f_shr), (3, f_push 1 1), (4, f_and), (5, f_if0 cEq cNe 12), (8, f_push 1 1), (9, f_goto 13), (12, f_push 0 1), (13, f_zret)]
def k_X5_isRow : List (Nat × tF) := [(0, f_loadI 1 1), (1, f_if0 cLt cGe 16), (4, f_loadI 1 1), (5, f_loadR 0 1), (6, f_getI 4 5), (9, f_icmp cGe cLt 16), (12, f_push 1 1), (13, f_goto 17), (16, f_push 0 1), (17, f_zret)]
def k_X5_lookAtRow : List (Nat × tF) := [(0, f_loadI 1 1), (1, f_tsw 0 2 [28, 33, 46] 51), (28, f_loadR 0 1), (29, f_getI 3 0), (32, f_iret), (33, f_loadR 0 1), (34, f_getI 3 1), (37, f_if0 cEq cNe 44), (40, f_push 1 1), (41, f_goto 45), (44, f_push 0 1), (45, f_iret), (46, f_loadR 0 1), (47, f_callV 3 35 0), (50, f_iret), (51, f_push (-1) 1), (52, f_iret)]
def k_X5_happeningsInAll : List (Nat × tF) := [(0, f_push 0 1), (1, f_storeI 1 1), (2, f_push 0 1), (3, f_storeI 2 1), (4, f_loadI 2 1), (5, f_loadR 0 1), (6, f_getI 4 5), (9, f_icmp cGe cLt 30), (12, f_loadI 1 1), (13, f_loadR 0 1), (14, f_getR 4 3 (fun i => 12)), (17, f_loadI 2 1), (18, f_aald), (19, f_callV 3 35 0), (22, f_add), (23, f_storeI 1 1), (24, f_iinc 2 1), (27, f_goto 4), (30, f_loadI 1 1), (31, f_iret)]
def k_X5_rowsInOf : List (Nat × tF) := [(0, f_push 0 1), (1, f_storeI 2 1), (2, f_push 0 1), (3, f_storeI 3 1), (4, f_loadI 3 1), (5, f_loadR 0 1), (6, f_getI 4 5), (9, f_icmp cGe cLt 49), (12, f_loadR 0 1), (13, f_getR 4 3 (fun i => 12)), (16, f_loadI 3 1), (17, f_aald), (18, f_getI 3 1), (21, f_if0 cEq cNe 43), (24, f_loadR 0 1), (25, f_getR 4 3 (fun i => 12)), (28, f_loadI 3 1), (29, f_aald), (30, f_getI 3 0), (33, f_loadI 1 1), (34, f_icmp cNe cEq 43), (37, f_loadI 2 1), (38, f_push 1 1), (39, f_loadI 3 1), (40, f_shl), (41, f_or), (42, f_storeI 2 1), (43, f_iinc 3 1), (46, f_goto 4), (49, f_loadI 2 1), (50, f_iret)]
def k_X5_rowsIn : List (Nat × tF) := [(0, f_loadR 0 1), (1, f_push 0 1), (2, f_callV 4 66 1), (5, f_loadR 0 1), (6, f_push 1 1), (7, f_callV 4 66 1), (10, f_or), (11, f_iret)]
def k_X5_rowsWith : List (Nat × tF) := [(0, f_loadR 0 1), (1, f_getR 4 1 (fun i => 4)), (4, f_loadI 1 1), (5, f_callV 2 11 1), (8, f_push 0 1), (9, f_storeI 2 1), (10, f_push 0 1), (11, f_storeI 3 1), (12, f_loadI 3 1), (13, f_loadR 0 1), (14, f_getI 4 5), (17, f_icmp cGe cLt 60), (20, f_loadR 0 1), (21, f_getR 4 3 (fun i => 12)), (24, f_loadI 3 1), (25, f_aald), (26, f_getI 3 1), (29, f_if0 cEq cNe 54), (32, f_loadR 0 1), (33, f_getR 4 1 (fun i => 4)), (36, f_loadR 0 1), (37, f_getR 4 3 (fun i => 12)), (40, f_loadI 3 1), (41, f_aald), (42, f_callV 2 12 1), (45, f_if0 cEq cNe 54), (48, f_loadI 2 1), (49, f_push 1 1), (50, f_loadI 3 1), (51, f_shl), (52, f_or), (53, f_storeI 2 1), (54, f_iinc 3 1), (57, f_goto 12), (60, f_loadI 2 1), (61, f_iret)]
def k_X5_countOf : List (Nat × tF) := [(0, f_loadR 0 1), (1, f_loadI 1 1), (2, f_callV 4 68 1), (5, f_callS 119 1), (8, f_iret)]
def k_X5_rowsLacking : List (Nat × tF) := [(0, f_loadI 1 1), (1, f_callS 27 1), (4, f_push 2 1), (5, f_icmp cGe cLt 12), (8, f_push 0 1), (9, f_goto 28), (12, f_loadR 0 1), (13, f_loadI 1 1), (14, f_callS 30 1), (17, f_callV 4 68 1), (20, f_loadR 0 1), (21, f_loadI 1 1), (22, f_callV 4 68 1), (25, f_push (-1) 1), (26, f_xor), (27, f_and), (28, f_iret)]
def k_X5_gatherRowsBehind : List (Nat × tF) := [(0, f_loadR 0 1), (1, f_getR 4 1 (fun i => 4)), (4, f_loadI 1 1), (5, f_callV 2 11 1), (8, f_push 0 1), (9, f_storeI 3 1), (10, f_loadI 3 1), (11, f_push 16 2), (13, f_icmp cGe cLt 29), (16, f_loadR 0 1), (17, f_getR 4 4 (fun i => 13)), (20, f_loadI 3 1), (21, f_push 0 1), (22, f_iast), (23, f_iinc 3 1), (26, f_goto 10), (29, f_push 0 1), (30, f_storeI 3 1), (31, f_loadI 3 1), (32, f_loadR 0 1), (33, f_getI 4 5), (36, f_icmp cGe cLt 107), (39, f_loadI 3 1), (40, f_loadI 2 1), (41, f_callS 62 2), (44, f_if0 cEq cNe 63), (47, f_loadR 0 1), (48, f_getR 4 1 (fun i => 4)), (51, f_loadR 0 1), (52, f_getR 4 3 (fun i => 12)), (55, f_loadI 3 1), (56, f_aald), (57, f_callV 2 14 1), (60, f_goto 64), (63, f_push 0 1), (64, f_storeI 4 2), (66, f_push 0 1), (67, f_storeI 5 2), (69, f_loadI 5 2), (71, f_push 16 2), (73, f_icmp cGe cLt 101), (76, f_loadR 0 1), (77, f_getR 4 4 (fun i => 13)), (80, f_loadI 5 2), (82, f_dup2), (83, f_iald), (84, f_loadI 4 2), (86, f_loadI 5 2), (88, f_shr), (89, f_push 1 1), (90, f_and), (91, f_loadI 3 1), (92, f_shl), (93, f_or), (94, f_iast), (95, f_iinc 5 1), (98, f_goto 69), (101, f_iinc 3 1), (104, f_goto 31), (107, f_vret)]
def k_X5_findLonger : List (Nat × tF) := [(0, f_loadR 0 1), (1, f_loadI 1 1), (2, f_loadI 2 1), (3, f_callV 4 71 2), (6, f_push 0 1), (7, f_storeI 4 2), (9, f_loadI 4 2), (11, f_push 16 2), (13, f_icmp cGe cLt 57), (16, f_loadR 0 1), (17, f_getR 4 4 (fun i => 13)), (20, f_loadI 4 2), (22, f_iald), (23, f_callS 119 1), (26, f_loadI 3 1), (27, f_icmp cLt cGe 51), (30, f_loadR 0 1), (31, f_getR 4 2 (fun i => 9)), (34, f_loadI 1 1), (35, f_push 0 1), (36, f_loadI 4 2), (38, f_callS 31 3), (41, f_loadR 0 1), (42, f_getR 4 4 (fun i => 13)), (45, f_loadI 4 2), (47, f_iald), (48, f_callV 0 1 2), (51, f_iinc 4 1), (54, f_goto 9), (57, f_vret)]
def k_X5_longerSays : List (Nat × tF) := [(0, f_loadI 1 1), (1, f_callS 27 1), (4, f_storeI 3 1), (5, f_push 0 1), (6, f_storeI 4 2), (8, f_loadI 3 1), (9, f_push 4 1), (10, f_icmp cGe cLt 59), (13, f_loadI 4 2), (15, f_loadI 3 1), (16, f_icmp cGt cLe 59), (19, f_push 0 1), (20, f_storeI 5 2), (22, f_loadI 5 2), (24, f_push 16 2), (26, f_icmp cGe cLt 53), (29, f_loadR 0 1), (30, f_loadI 1 1), (31, f_loadI 4 2), (33, f_loadI 5 2), (35, f_callS 31 3), (38, f_callV 4 69 1), (41, f_loadI 2 1), (42, f_icmp cNe cEq 47), (45, f_push 1 1), (46, f_zret), (47, f_iinc 5 1), (50, f_goto 22), (53, f_iinc 4 1), (56, f_goto 8), (59, f_push 0 1), (60, f_zret)]
def k_X5_narrowerSays : List (Nat × tF) := [(0, f_loadI 1 1), (1, f_callS 27 1), (4, f_storeI 3 1), (5, f_push 0 1), (6, f_storeI 4 2), (8, f_loadI 4 2), (10, f_loadI 3 1), (11, f_icmp cGe cLt 76), (14, f_loadI 1 1), (15, f_loadI 4 2), (17, f_callS 28 2), (20, f_storeI 5 2), (22, f_push 0 1), (23, f_storeI 6 2), (25, f_loadI 6 2), (27, f_push 16 2), (29, f_icmp cGe cLt 70), (32, f_loadR 0 1), (33, f_getR 4 0 (fun i => 1)), (36, f_loadI 6 2), (38, f_loadI 5 2), (40, f_callV 1 10 2), (43, f_if0 cEq cNe 64), (46, f_loadR 0 1), (47, f_loadI 1 1), (48, f_loadI 4 2), (50, f_loadI 6 2), (52, f_callS 32 3), (55, f_callV 4 69 1), (58, f_loadI 2 1), (59, f_icmp cNe cEq 64), (62, f_push 1 1), (63, f_zret), (64, f_iinc 6 1), (67, f_goto 25), (70, f_iinc 4 1), (73, f_goto 8), (76, f_push 0 1), (77, f_zret)]
def k_X5_howFarApart : List (Nat × tF) := [(0, f_loadI 0 1), (1, f_loadI 1 1), (2, f_and), (3, f_callS 119 1), (6, f_storeI 3 1), (7, f_loadI 0 1), (8, f_loadI 2 1), (9, f_and), (10, f_callS 119 1), (13, f_storeI 4 2), (15, f_loadI 3 1), (16, f_loadI 2 1), (17, f_callS 119 1), (20, f_mul), (21, f_loadI 4 2), (23, f_loadI 1 1), (24, f_callS 119 1), (27, f_mul), (28, f_sub), (29, f_callS 120 1), (32, f_iret)]
def k_X5_chanceAhead : List (Nat × tF) := [(0, f_loadI 0 1), (1, f_loadI 0 1), (2, f_loadI 1 1), (3, f_add), (4, f_callS 77 2), (7, f_storeL 2 1), (8, f_loadL 2 1), (9, f_pushL 1 1), (10, f_lcmp), (11, f_if0 cGt cLe 18), (14, f_pushL 0 1), (15, f_goto 27), (18, f_pushL (1000000) 3), (21, f_pushL (1000000) 3), (24, f_loadL 2 1), (25, f_ldiv), (26, f_lsub), (27, f_lret)]
def k_X5_waysToChoose : List (Nat × tF) := [(0, f_pushL 1 1), (1, f_storeL 2 1), (2, f_push 1 1), (3, f_storeI 4 2), (5, f_loadI 4 2), (7, f_loadI 0 1), (8, f_icmp cGt cLe 31), (11, f_loadL 2 1), (12, f_loadI 1 1), (13, f_loadI 0 1), (14, f_sub), (15, f_loadI 4 2), (17, f_add), (18, f_i2l), (19, f_lmul), (20, f_loadI 4 2), (22, f_i2l), (23, f_ldiv), (24, f_storeL 2 1), (25, f_iinc 4 1), (28, f_goto 5), (31, f_loadL 2 1), (32, f_lret)]
def k_X6_lies : List (Nat × tF) := [(0, f_loadI 0 1), (1, f_loadI 1 1), (2, f_icmp cLt cGe 14), (5, f_loadI 0 1), (6, f_loadI 2 1), (7, f_icmp cGt cLe 14), (10, f_push 1 1), (11, f_goto 15), (14, f_push 0 1), (15, f_zret)]
def k_X6_isKind : List (Nat × tF) := [(0, f_loadI 0 1), (1, f_push 0 1), (2, f_push 15 2), (4, f_callS 78 3), (7, f_zret)]
def k_X6_isRow : List (Nat × tF) := [(0, f_loadI 1 1), (1, f_push 0 1), (2, f_loadR 0 1), (3, f_getI 5 0), (6, f_push 1 1), (7, f_sub), (8, f_callS 78 3), (11, f_zret)]
def k_X6_isOf : List (Nat × tF) := [(0, f_loadI 1 1), (1, f_storeI 3 1), (2, f_loadI 3 1), (3, f_push (-1) 1), (4, f_icmp cEq cNe 22), (7, f_loadI 3 1), (8, f_loadI 2 1), (9, f_icmp cEq cNe 22), (12, f_loadR 0 1), (13, f_getR 5 4 (fun i => 87)), (16, f_loadI 3 1), (17, f_iald), (18, f_storeI 3 1), (19, f_goto 2), (22, f_loadI 3 1), (23, f_loadI 2 1), (24, f_icmp cNe cEq 31), (27, f_push 1 1), (28, f_goto 32), (31, f_push 0 1), (32, f_zret)]
def k_X6_under : List (Nat × tF) := [(0, f_loadI 1 1), (1, f_callS 79 1), (4, f_if0 cEq cNe 28), (7, f_loadI 2 1), (8, f_push (-1) 1), (9, f_icmp cEq cNe 30), (12, f_loadI 2 1), (13, f_callS 79 1), (16, f_if0 cEq cNe 28), (19, f_loadR 0 1), (20, f_loadI 2 1), (21, f_loadI 1 1), (22, f_callV 5 81 2), (25, f_if0 cEq cNe 30), (28, f_push 0 1), (29, f_zret), (30, f_loadR 0 1), (31, f_getR 5 4 (fun i => 87)), (34, f_loadI 1 1), (35, f_loadI 2 1), (36, f_iast), (37, f_push 1 1), (38, f_zret)]
def k_X6_isUnder : List (Nat × tF) := [(0, f_loadI 1 1), (1, f_callS 79 1), (4, f_if0 cEq cNe 14), (7, f_loadI 2 1), (8, f_callS 79 1), (11, f_if0 cNe cEq 18), (14, f_push (-1) 1), (15, f_goto 37), (18, f_loadI 1 1), (19, f_loadI 2 1), (20, f_icmp cEq cNe 36), (23, f_loadR 0 1), (24, f_loadI 1 1), (25, f_loadI 2 1), (26, f_callV 5 81 2), (29, f_if0 cEq cNe 36), (32, f_push 1 1), (33, f_goto 37), (36, f_push 0 1), (37, f_iret)]
def k_X6_row : List (Nat × tF) := [(0, f_loadI 1 1), (1, f_push 0 1), (2, f_push 1 1), (3, f_callS 78 3), (6, f_if0 cEq cNe 18), (9, f_loadR 0 1), (10, f_getI 5 0), (13, f_push 24 2), (15, f_icmp cNe cEq 20), (18, f_push (-1) 1), (19, f_iret), (20, f_loadR 0 1), (21, f_getR 5 5 (fun i => 88)), (24, f_loadR 0 1), (25, f_getI 5 0), (28, f_loadI 1 1), (29, f_iast), (30, f_loadR 0 1), (31, f_dup), (32, f_getI 5 0), (35, f_push 1 1), (36, f_add), (37, f_putI 5 0), (40, f_loadR 0 1), (41, f_getI 5 0), (44, f_push 1 1), (45, f_sub), (46, f_iret)]
def k_X6_put : List (Nat × tF) := [(0, f_loadR 0 1), (1, f_loadI 1 1), (2, f_callV 5 80 1), (5, f_if0 cEq cNe 37), (8, f_loadI 2 1), (9, f_push 0 1), (10, f_push 9999 3), (13, f_callS 78 3), (16, f_if0 cEq cNe 37), (19, f_loadI 3 1), (20, f_callS 79 1), (23, f_if0 cEq cNe 37), (26, f_loadR 0 1), (27, f_getR 5 7 (fun i => 90)), (30, f_loadI 1 1), (31, f_iald), (32, f_push 30 2), (34, f_icmp cNe cEq 39), (37, f_push (-1) 1), (38, f_iret), (39, f_push 30 2), (41, f_loadI 1 1), (42, f_mul), (43, f_loadR 0 1), (44, f_getR 5 7 (fun i => 90)), (47, f_loadI 1 1), (48, f_iald), (49, f_add), (50, f_storeI 4 2), (52, f_loadR 0 1), (53, f_getR 5 7 (fun i => 90)), (56, f_loadI 1 1), (57, f_iald), (58, f_if0 cLe cGt 76), (61, f_loadI 2 1), (62, f_loadR 0 1), (63, f_getR 5 8 (fun i => 91)), (66, f_loadI 4 2), (68, f_push 1 1), (69, f_sub), (70, f_iald), (71, f_icmp cGe cLt 76), (74, f_push (-1) 1), (75, f_iret), (76, f_loadR 0 1), (77, f_getR 5 8 (fun i => 91)), (80, f_loadI 4 2), (82, f_loadI 2 1), (83, f_iast), (84, f_loadR 0 1), (85, f_getR 5 9 (fun i => 92)), (88, f_loadI 4 2), (90, f_loadI 3 1), (91, f_iast), (92, f_loadR 0 1), (93, f_getR 5 7 (fun i => 90)), (96, f_loadI 1 1), (97, f_dup2), (98, f_iald), (99, f_push 1 1), (100, f_add), (101, f_iast), (102, f_loadR 0 1), (103, f_dup), (104, f_getI 5 1), (107, f_push 1 1), (108, f_add), (109, f_putI 5 1), (112, f_loadR 0 1), (113, f_getR 5 7 (fun i => 90)), (116, f_loadI 1 1), (117, f_iald), (118, f_push 1 1), (119, f_sub), (120, f_iret)]
def k_X6_take : List (Nat × tF) := [(0, f_loadR 0 1), (1, f_loadI 1 1), (2, f_callV 5 80 1), (5, f_if0 cEq cNe 18), (8, f_loadR 0 1), (9, f_getR 5 6 (fun i => 89)), (12, f_loadI 1 1), (13, f_zald), (14, f_loadI 2 1), (15, f_icmp cEq cNe 20), (18, f_push 0 1), (19, f_zret), (20, f_loadR 0 1), (21, f_getR 5 6 (fun i => 89)), (24, f_loadI 1 1), (25, f_loadI 2 1), (26, f_if0 cNe cEq 33), (29, f_push 1 1), (30, f_goto 34), (33, f_push 0 1), (34, f_zast), (35, f_push 1 1), (36, f_zret)]
def k_X6_gap : List (Nat × tF) := [(0, f_loadI 1 1), (1, f_push 0 1), (2, f_push 9999 3), (5, f_callS 78 3), (8, f_if0 cNe cEq 13), (11, f_push 0 1), (12, f_zret), (13, f_loadR 0 1), (14, f_loadI 1 1), (15, f_putI 5 2), (18, f_push 1 1), (19, f_zret)]
def k_X6_span : List (Nat × tF) := [(0, f_loadI 1 1), (1, f_push 0 1), (2, f_push 9999 3), (5, f_callS 78 3), (8, f_if0 cNe cEq 13), (11, f_push 0 1), (12, f_zret), (13, f_loadR 0 1), (14, f_loadI 1 1), (15, f_putI 5 3), (18, f_push 1 1), (19, f_zret)]
def k_X6_takes : List (Nat × tF) := [(0, f_loadR 0 1), (1, f_getR 5 15 (fun i => 96)), (4, f_push 0 1), (5, f_loadI 1 1), (6, f_iast), (7, f_loadR 0 1), (8, f_getR 5 15 (fun i => 96)), (11, f_push 1 1), (12, f_loadI 2 1), (13, f_iast), (14, f_loadR 0 1), (15, f_getR 5 15 (fun i => 96)), (18, f_push 2 1), (19, f_loadI 3 1), (20, f_iast), (21, f_loadR 0 1), (22, f_getR 5 15 (fun i => 96)), (25, f_push 3 1), (26, f_loadI 4 2), (28, f_iast), (29, f_loadR 0 1), (30, f_push 0 1), (31, f_putI 5 14), (34, f_loadR 0 1), (35, f_getI 5 14), (38, f_push 4 1), (39, f_icmp cGe cLt 85), (42, f_loadR 0 1), (43, f_getR 5 15 (fun i => 96)), (46, f_loadR 0 1), (47, f_getI 5 14), (50, f_iald), (51, f_push (-1) 1), (52, f_icmp cEq cNe 85), (55, f_loadR 0 1), (56, f_getR 5 15 (fun i => 96)), (59, f_loadR 0 1), (60, f_getI 5 14), (63, f_iald), (64, f_callS 79 1), (67, f_if0 cNe cEq 72), (70, f_push 0 1), (71, f_zret), (72, f_loadR 0 1), (73, f_dup), (74, f_getI 5 14), (77, f_push 1 1), (78, f_add), (79, f_putI 5 14), (82, f_goto 34), (85, f_loadR 0 1), (86, f_getI 5 14), (89, f_storeI 5 2), (91, f_loadI 5 2), (93, f_push 4 1), (94, f_icmp cGe cLt 116), (97, f_loadR 0 1), (98, f_getR 5 15 (fun i => 96)), (101, f_loadI 5 2), (103, f_iald), (104, f_push (-1) 1), (105, f_icmp cEq cNe 110), (108, f_push 0 1), (109, f_zret), (110, f_iinc 5 1), (113, f_goto 91), (116, f_loadR 0 1), (117, f_getI 5 14), (120, f_if0 cLe cGt 127), (123, f_push 1 1), (124, f_goto 128), (127, f_push 0 1), (128, f_zret)]
def k_X6_isAt : List (Nat × tF) := [(0, f_loadR 0 1), (1, f_loadR 0 1), (2, f_getR 5 9 (fun i => 92)), (5, f_push 30 2), (7, f_loadI 1 1), (8, f_mul), (9, f_loadI 2 1), (10, f_add), (11, f_iald), (12, f_loadR 0 1), (13, f_getR 5 15 (fun i => 96)), (16, f_loadI 3 1), (17, f_iald), (18, f_callV 5 81 2), (21, f_zret)]
def k_X6_leads : List (Nat × tF) := [(0, f_loadR 0 1), (1, f_getR 5 8 (fun i => 91)), (4, f_push 30 2), (6, f_loadI 1 1), (7, f_mul), (8, f_loadI 3 1), (9, f_add), (10, f_iald), (11, f_loadR 0 1), (12, f_getR 5 8 (fun i => 91)), (15, f_push 30 2), (17, f_loadI 1 1), (18, f_mul), (19, f_loadI 2 1), (20, f_add), (21, f_iald), (22, f_sub), (23, f_loadR 0 1), (24, f_getI 5 2), (27, f_icmp cGt cLe 34), (30, f_push 1 1), (31, f_goto 35), (34, f_push 0 1), (35, f_zret)]
def k_X6_spans : List (Nat × tF) := [(0, f_loadR 0 1), (1, f_getR 5 8 (fun i => 91)), (4, f_push 30 2), (6, f_loadI 1 1), (7, f_mul), (8, f_loadI 3 1), (9, f_add), (10, f_iald), (11, f_loadR 0 1), (12, f_getR 5 8 (fun i => 91)), (15, f_push 30 2), (17, f_loadI 1 1), (18, f_mul), (19, f_loadI 2 1), (20, f_add), (21, f_iald), (22, f_sub), (23, f_loadR 0 1), (24, f_getI 5 3), (27, f_icmp cGt cLe 34), (30, f_push 1 1), (31, f_goto 35), (34, f_push 0 1), (35, f_zret)]
def k_X6_maps : List (Nat × tF) := [(0, f_push 0 1), (1, f_storeI 2 1), (2, f_loadI 2 1), (3, f_push 16 2), (5, f_icmp cGe cLt 26), (8, f_loadR 0 1), (9, f_getR 5 16 (fun i => 97)), (12, f_push 16 2), (14, f_loadI 1 1), (15, f_mul), (16, f_loadI 2 1), (17, f_add), (18, f_push 0 1), (19, f_iast), (20, f_iinc 2 1), (23, f_goto 2), (26, f_push 0 1), (27, f_storeI 2 1), (28, f_loadI 2 1), (29, f_loadR 0 1), (30, f_getR 5 7 (fun i => 90)), (33, f_loadI 1 1), (34, f_iald), (35, f_icmp cGe cLt 192), (38, f_push 0 1), (39, f_storeI 3 1), (40, f_loadI 3 1), (41, f_push 16 2), (43, f_icmp cGe cLt 88), (46, f_loadR 0 1), (47, f_loadR 0 1), (48, f_getR 5 9 (fun i => 92)), (51, f_push 30 2), (53, f_loadI 1 1), (54, f_mul), (55, f_loadI 2 1), (56, f_add), (57, f_iald), (58, f_loadI 3 1), (59, f_callV 5 81 2), (62, f_if0 cEq cNe 82), (65, f_loadR 0 1), (66, f_getR 5 16 (fun i => 97)), (69, f_push 16 2), (71, f_loadI 1 1), (72, f_mul), (73, f_loadI 3 1), (74, f_add), (75, f_dup2), (76, f_iald), (77, f_push 1 1), (78, f_loadI 2 1), (79, f_shl), (80, f_or), (81, f_iast), (82, f_iinc 3 1), (85, f_goto 40), (88, f_push 0 1), (89, f_storeI 3 1), (90, f_push 0 1), (91, f_storeI 4 2), (93, f_loadI 2 1), (94, f_push 1 1), (95, f_add), (96, f_storeI 5 2), (98, f_loadI 5 2), (100, f_loadR 0 1), (101, f_getR 5 7 (fun i => 90)), (104, f_loadI 1 1), (105, f_iald), (106, f_icmp cGe cLt 161), (109, f_loadI 3 1), (110, f_loadR 0 1), (111, f_loadI 1 1), (112, f_loadI 2 1), (113, f_loadI 5 2), (115, f_callV 5 91 3), (118, f_if0 cEq cNe 128), (121, f_push 1 1), (122, f_loadI 5 2), (124, f_shl), (125, f_goto 129), (128, f_push 0 1), (129, f_or), (130, f_storeI 3 1), (131, f_loadI 4 2), (133, f_loadR 0 1), (134, f_loadI 1 1), (135, f_loadI 2 1), (136, f_loadI 5 2), (138, f_callV 5 92 3), (141, f_if0 cEq cNe 151), (144, f_push 1 1), (145, f_loadI 5 2), (147, f_shl), (148, f_goto 152), (151, f_push 0 1), (152, f_or), (153, f_storeI 4 2), (155, f_iinc 5 1), (158, f_goto 98), (161, f_loadR 0 1), (162, f_getR 5 17 (fun i => 98)), (165, f_push 30 2), (167, f_loadI 1 1), (168, f_mul), (169, f_loadI 2 1), (170, f_add), (171, f_loadI 3 1), (172, f_iast), (173, f_loadR 0 1), (174, f_getR 5 18 (fun i => 99)), (177, f_push 30 2), (179, f_loadI 1 1), (180, f_mul), (181, f_loadI 2 1), (182, f_add), (183, f_loadI 4 2), (185, f_iast), (186, f_iinc 2 1), (189, f_goto 28), (192, f_vret)]
def k_X6_mapsAll : List (Nat × tF) := [(0, f_push 0 1), (1, f_storeI 1 1), (2, f_loadI 1 1), (3, f_loadR 0 1), (4, f_getI 5 0), (7, f_icmp cGe cLt 30), (10, f_loadR 0 1), (11, f_getR 5 6 (fun i => 89)), (14, f_loadI 1 1), (15, f_zald), (16, f_if0 cNe cEq 24), (19, f_loadR 0 1), (20, f_loadI 1 1), (21, f_callV 5 93 1), (24, f_iinc 1 1), (27, f_goto 2), (30, f_vret)]
def k_X6_ends : List (Nat × tF) := [(0, f_push 1 1), (1, f_loadI 2 1), (2, f_shl), (3, f_loadR 0 1), (4, f_getR 5 16 (fun i => 97)), (7, f_push 16 2), (9, f_loadI 1 1), (10, f_mul), (11, f_loadR 0 1), (12, f_getR 5 15 (fun i => 96)), (15, f_push 0 1), (16, f_iald), (17, f_add), (18, f_iald), (19, f_and), (20, f_storeI 4 2), (22, f_push 1 1), (23, f_storeI 5 2), (25, f_loadI 5 2), (27, f_loadI 3 1), (28, f_icmp cGe cLt 127), (31, f_loadI 4 2), (33, f_if0 cEq cNe 127), (36, f_push 0 1), (37, f_storeI 6 2), (39, f_push 0 1), (40, f_storeI 7 2), (42, f_loadI 7 2), (44, f_loadR 0 1), (45, f_getR 5 7 (fun i => 90)), (48, f_loadI 1 1), (49, f_iald), (50, f_icmp cGe cLt 87), (53, f_loadI 4 2), (55, f_loadI 7 2), (57, f_shr), (58, f_push 1 1), (59, f_and), (60, f_push 1 1), (61, f_icmp cNe cEq 81), (64, f_loadI 6 2), (66, f_loadR 0 1), (67, f_getR 5 17 (fun i => 98)), (70, f_push 30 2), (72, f_loadI 1 1), (73, f_mul), (74, f_loadI 7 2), (76, f_add), (77, f_iald), (78, f_or), (79, f_storeI 6 2), (81, f_iinc 7 1), (84, f_goto 42), (87, f_loadI 6 2), (89, f_loadR 0 1), (90, f_getR 5 18 (fun i => 99)), (93, f_push 30 2), (95, f_loadI 1 1), (96, f_mul), (97, f_loadI 2 1), (98, f_add), (99, f_iald), (100, f_and), (101, f_loadR 0 1), (102, f_getR 5 16 (fun i => 97)), (105, f_push 16 2), (107, f_loadI 1 1), (108, f_mul), (109, f_loadR 0 1), (110, f_getR 5 15 (fun i => 96)), (113, f_loadI 5 2), (115, f_iald), (116, f_add), (117, f_iald), (118, f_and), (119, f_storeI 4 2), (121, f_iinc 5 1), (124, f_goto 25), (127, f_loadI 4 2), (129, f_iret)]
def k_X6_has : List (Nat × tF) := [(0, f_push 0 1), (1, f_storeI 3 1), (2, f_loadI 3 1), (3, f_loadR 0 1), (4, f_getR 5 7 (fun i => 90)), (7, f_loadI 1 1), (8, f_iald), (9, f_icmp cGe cLt 30), (12, f_loadR 0 1), (13, f_loadI 1 1), (14, f_loadI 3 1), (15, f_loadI 2 1), (16, f_callV 5 95 3), (19, f_if0 cEq cNe 24), (22, f_push 1 1), (23, f_zret), (24, f_iinc 3 1), (27, f_goto 2), (30, f_push 0 1), (31, f_zret)]
def k_X6_countOf : List (Nat × tF) := [(0, f_push 0 1), (1, f_storeI 2 1), (2, f_push 0 1), (3, f_storeI 3 1), (4, f_loadI 3 1), (5, f_loadR 0 1), (6, f_getI 5 0), (9, f_icmp cGe cLt 44), (12, f_loadI 2 1), (13, f_loadR 0 1), (14, f_getR 5 6 (fun i => 89)), (17, f_loadI 3 1), (18, f_zald), (19, f_if0 cNe cEq 35), (22, f_loadR 0 1), (23, f_loadI 3 1), (24, f_loadI 1 1), (25, f_callV 5 96 2), (28, f_if0 cEq cNe 35), (31, f_push 1 1), (32, f_goto 36), (35, f_push 0 1), (36, f_add), (37, f_storeI 2 1), (38, f_iinc 3 1), (41, f_goto 4), (44, f_loadI 2 1), (45, f_iret)]
def k_X6_count : List (Nat × tF) := [(0, f_loadR 0 1), (1, f_loadI 1 1), (2, f_loadI 2 1), (3, f_loadI 3 1), (4, f_loadI 4 2), (6, f_callV 5 89 4), (9, f_if0 cNe cEq 14), (12, f_push (-1) 1), (13, f_iret), (14, f_loadR 0 1), (15, f_callV 5 94 0), (18, f_loadR 0 1), (19, f_loadR 0 1), (20, f_getI 5 14), (23, f_callV 5 97 1), (26, f_iret)]
def k_X6_next : List (Nat × tF) := [(0, f_loadI 2 1), (1, f_if0 cEq cNe 8), (4, f_push 0 1), (5, f_goto 14), (8, f_loadR 0 1), (9, f_getI 5 14), (12, f_push 1 1), (13, f_sub), (14, f_storeI 3 1), (15, f_loadR 0 1), (16, f_getR 5 19 (fun i => 100)), (19, f_push 0 1), (20, f_loadI 2 1), (21, f_if0 cEq cNe 28), (24, f_push (-1) 1), (25, f_goto 34), (28, f_loadR 0 1), (29, f_getR 5 19 (fun i => 100)), (32, f_push 0 1), (33, f_iald), (34, f_iast), (35, f_loadI 3 1), (36, f_if0 cLt cGe 166), (39, f_loadR 0 1), (40, f_getR 5 19 (fun i => 100)), (43, f_loadI 3 1), (44, f_dup2), (45, f_iald), (46, f_push 1 1), (47, f_add), (48, f_iast), (49, f_loadR 0 1), (50, f_getR 5 19 (fun i => 100)), (53, f_loadI 3 1), (54, f_iald), (55, f_loadR 0 1), (56, f_getR 5 7 (fun i => 90)), (59, f_loadI 1 1), (60, f_iald), (61, f_icmp cLt cGe 70), (64, f_iinc 3 (-1)), (67, f_goto 35), (70, f_loadR 0 1), (71, f_loadI 1 1), (72, f_loadR 0 1), (73, f_getR 5 19 (fun i => 100)), (76, f_loadI 3 1), (77, f_iald), (78, f_loadI 3 1), (79, f_callV 5 90 3), (82, f_if0 cEq cNe 35), (85, f_loadI 3 1), (86, f_if0 cLe cGt 134), (89, f_loadR 0 1), (90, f_loadI 1 1), (91, f_loadR 0 1), (92, f_getR 5 19 (fun i => 100)), (95, f_loadI 3 1), (96, f_push 1 1), (97, f_sub), (98, f_iald), (99, f_loadR 0 1), (100, f_getR 5 19 (fun i => 100)), (103, f_loadI 3 1), (104, f_iald), (105, f_callV 5 91 3), (108, f_if0 cEq cNe 35), (111, f_loadR 0 1), (112, f_loadI 1 1), (113, f_loadR 0 1), (114, f_getR 5 19 (fun i => 100)), (117, f_push 0 1), (118, f_iald), (119, f_loadR 0 1), (120, f_getR 5 19 (fun i => 100)), (123, f_loadI 3 1), (124, f_iald), (125, f_callV 5 92 3), (128, f_if0 cNe cEq 134), (131, f_goto 35), (134, f_loadI 3 1), (135, f_loadR 0 1), (136, f_getI 5 14), (139, f_push 1 1), (140, f_sub), (141, f_icmp cNe cEq 146), (144, f_push 1 1), (145, f_zret), (146, f_loadR 0 1), (147, f_getR 5 19 (fun i => 100)), (150, f_loadI 3 1), (151, f_push 1 1), (152, f_add), (153, f_loadR 0 1), (154, f_getR 5 19 (fun i => 100)), (157, f_loadI 3 1), (158, f_iald), (159, f_iast), (160, f_iinc 3 1), (163, f_goto 35), (166, f_push 0 1), (167, f_zret)]
def k_X6_matches : List (Nat × tF) := [(0, f_loadR 0 1), (1, f_loadI 1 1), (2, f_callV 5 80 1), (5, f_if0 cEq cNe 21), (8, f_loadR 0 1), (9, f_loadI 2 1), (10, f_loadI 3 1), (11, f_loadI 4 2), (13, f_loadI 5 2), (15, f_callV 5 89 4), (18, f_if0 cNe cEq 25), (21, f_pushL (-1) 3), (24, f_lret), (25, f_pushL 0 1), (26, f_storeL 6 2), (28, f_loadR 0 1), (29, f_loadI 1 1), (30, f_push 1 1), (31, f_callV 5 99 2), (34, f_storeI 8 2), (36, f_loadI 8 2), (38, f_if0 cEq cNe 58), (41, f_loadL 6 2), (43, f_pushL 1 1), (44, f_ladd), (45, f_storeL 6 2), (47, f_loadR 0 1), (48, f_loadI 1 1), (49, f_push 0 1), (50, f_callV 5 99 2), (53, f_storeI 8 2), (55, f_goto 36), (58, f_loadL 6 2), (60, f_lret)]
def k_X6_match : List (Nat × tF) := [(0, f_loadR 0 1), (1, f_loadI 1 1), (2, f_callV 5 80 1), (5, f_if0 cEq cNe 45), (8, f_loadR 0 1), (9, f_loadI 2 1), (10, f_loadI 3 1), (11, f_loadI 4 2), (13, f_loadI 5 2), (15, f_callV 5 89 4), (18, f_if0 cEq cNe 45), (21, f_loadI 6 2), (23, f_push 0 1), (24, f_loadR 0 1), (25, f_getI 5 14), (28, f_push 1 1), (29, f_sub), (30, f_callS 78 3), (33, f_if0 cEq cNe 45), (36, f_loadR 0 1), (37, f_loadI 1 1), (38, f_push 1 1), (39, f_callV 5 99 2), (42, f_if0 cNe cEq 47), (45, f_push (-1) 1), (46, f_iret), (47, f_loadR 0 1), (48, f_getR 5 19 (fun i => 100)), (51, f_loadI 6 2), (53, f_iald), (54, f_iret)]
def k_X6_isThere : List (Nat × tF) := [(0, f_push 0 1), (1, f_storeI 2 1), (2, f_loadI 2 1), (3, f_loadR 0 1), (4, f_getI 5 0), (7, f_icmp cGe cLt 41), (10, f_loadR 0 1), (11, f_getR 5 6 (fun i => 89)), (14, f_loadI 2 1), (15, f_zald), (16, f_if0 cNe cEq 35), (19, f_loadR 0 1), (20, f_getR 5 16 (fun i => 97)), (23, f_push 16 2), (25, f_loadI 2 1), (26, f_mul), (27, f_loadI 1 1), (28, f_add), (29, f_iald), (30, f_if0 cEq cNe 35), (33, f_push 1 1), (34, f_zret), (35, f_iinc 2 1), (38, f_goto 2), (41, f_push 0 1), (42, f_zret)]
def k_X6_keeps : List (Nat × tF) := [(0, f_push 0 1), (1, f_storeI 3 1), (2, f_loadI 3 1), (3, f_push 4 1), (4, f_icmp cGe cLt 41), (7, f_loadR 0 1), (8, f_getR 5 11 (fun i => 93)), (11, f_push 4 1), (12, f_loadR 0 1), (13, f_getI 5 10), (16, f_mul), (17, f_loadI 3 1), (18, f_add), (19, f_loadI 3 1), (20, f_loadI 1 1), (21, f_icmp cGe cLt 33), (24, f_loadR 0 1), (25, f_getR 5 15 (fun i => 96)), (28, f_loadI 3 1), (29, f_iald), (30, f_goto 34), (33, f_push (-1) 1), (34, f_iast), (35, f_iinc 3 1), (38, f_goto 2), (41, f_loadR 0 1), (42, f_getR 5 12 (fun i => 94)), (45, f_loadR 0 1), (46, f_getI 5 10), (49, f_loadI 2 1), (50, f_iast), (51, f_loadR 0 1), (52, f_getR 5 13 (fun i => 95)), (55, f_loadR 0 1), (56, f_getI 5 10), (59, f_loadI 1 1), (60, f_iast), (61, f_loadR 0 1), (62, f_dup), (63, f_getI 5 10), (66, f_push 1 1), (67, f_add), (68, f_putI 5 10), (71, f_vret)]
def k_X6_find : List (Nat × tF) := [(0, f_loadI 1 1), (1, f_push 1 1), (2, f_push 24 2), (4, f_callS 78 3), (7, f_if0 cEq cNe 19), (10, f_loadI 2 1), (11, f_push 1 1), (12, f_push 4 1), (13, f_callS 78 3), (16, f_if0 cNe cEq 21), (19, f_push (-1) 1), (20, f_iret), (21, f_loadR 0 1), (22, f_callV 5 94 0), (25, f_loadR 0 1), (26, f_push 0 1), (27, f_putI 5 10), (30, f_push 0 1), (31, f_storeI 3 1), (32, f_push 1 1), (33, f_storeI 4 2), (35, f_push 1 1), (36, f_storeI 5 2), (38, f_loadI 5 2), (40, f_loadI 2 1), (41, f_icmp cGt cLe 199), (44, f_loadR 0 1), (45, f_getI 5 10), (48, f_storeI 6 2), (50, f_loadI 3 1), (51, f_storeI 7 2), (53, f_loadI 7 2), (55, f_loadI 4 2), (57, f_icmp cGe cLt 184), (60, f_loadR 0 1), (61, f_getI 5 10), (64, f_push 2000 3), (67, f_icmp cGe cLt 184), (70, f_push 0 1), (71, f_storeI 8 2), (73, f_loadI 8 2), (75, f_loadI 5 2), (77, f_push 1 1), (78, f_sub), (79, f_icmp cGe cLt 107), (82, f_loadR 0 1), (83, f_getR 5 15 (fun i => 96)), (86, f_loadI 8 2), (88, f_loadR 0 1), (89, f_getR 5 11 (fun i => 93)), (92, f_push 4 1), (93, f_loadI 7 2), (95, f_mul), (96, f_loadI 8 2), (98, f_add), (99, f_iald), (100, f_iast), (101, f_iinc 8 1), (104, f_goto 73), (107, f_push 0 1), (108, f_storeI 8 2), (110, f_loadI 8 2), (112, f_push 16 2), (114, f_icmp cGe cLt 178), (117, f_loadR 0 1), (118, f_getI 5 10), (121, f_push 2000 3), (124, f_icmp cGe cLt 178), (127, f_loadR 0 1), (128, f_loadI 8 2), (130, f_callV 5 102 1), (133, f_if0 cNe cEq 139), (136, f_goto 172), (139, f_loadR 0 1), (140, f_getR 5 15 (fun i => 96)), (143, f_loadI 5 2), (145, f_push 1 1), (146, f_sub), (147, f_loadI 8 2), (149, f_iast), (150, f_loadR 0 1), (151, f_loadI 5 2), (153, f_callV 5 97 1), (156, f_storeI 9 2), (158, f_loadI 9 2), (160, f_loadI 1 1), (161, f_icmp cLt cGe 172), (164, f_loadR 0 1), (165, f_loadI 5 2), (167, f_loadI 9 2), (169, f_callV 5 103 2), (172, f_iinc 8 1), (175, f_goto 110), (178, f_iinc 7 1), (181, f_goto 53), (184, f_loadI 6 2), (186, f_storeI 3 1), (187, f_loadR 0 1), (188, f_getI 5 10), (191, f_storeI 4 2), (193, f_iinc 5 1), (196, f_goto 38), (199, f_loadR 0 1), (200, f_getI 5 10), (203, f_iret)]
def k_X6_found : List (Nat × tF) := [(0, f_loadI 1 1), (1, f_push 0 1), (2, f_loadR 0 1), (3, f_getI 5 10), (6, f_push 1 1), (7, f_sub), (8, f_callS 78 3), (11, f_if0 cNe cEq 16), (14, f_push (-1) 1), (15, f_iret), (16, f_loadI 2 1), (17, f_push 0 1), (18, f_push 3 1), (19, f_callS 78 3), (22, f_if0 cEq cNe 38), (25, f_loadR 0 1), (26, f_getR 5 11 (fun i => 93)), (29, f_push 4 1), (30, f_loadI 1 1), (31, f_mul), (32, f_loadI 2 1), (33, f_add), (34, f_iald), (35, f_goto 67), (38, f_loadI 2 1), (39, f_push 4 1), (40, f_icmp cNe cEq 52), (43, f_loadR 0 1), (44, f_getR 5 12 (fun i => 94)), (47, f_loadI 1 1), (48, f_iald), (49, f_goto 67), (52, f_loadI 2 1), (53, f_push 5 1), (54, f_icmp cNe cEq 66), (57, f_loadR 0 1), (58, f_getR 5 13 (fun i => 95)), (61, f_loadI 1 1), (62, f_iald), (63, f_goto 67), (66, f_push (-1) 1), (67, f_iret)]
def k_X6_takesFound : List (Nat × tF) := [(0, f_loadR 0 1), (1, f_loadR 0 1), (2, f_getR 5 11 (fun i => 93)), (5, f_push 4 1), (6, f_loadI 1 1), (7, f_mul), (8, f_iald), (9, f_loadR 0 1), (10, f_getR 5 11 (fun i => 93)), (13, f_push 4 1), (14, f_loadI 1 1), (15, f_mul), (16, f_push 1 1), (17, f_add), (18, f_iald), (19, f_loadR 0 1), (20, f_getR 5 11 (fun i => 93)), (23, f_push 4 1), (24, f_loadI 1 1), (25, f_mul), (26, f_push 2 1), (27, f_add), (28, f_iald), (29, f_loadR 0 1), (30, f_getR 5 11 (fun i => 93)), (33, f_push 4 1), (34, f_loadI 1 1), (35, f_mul), (36, f_push 3 1), (37, f_add), (38, f_iald), (39, f_callV 5 89 4), (42, f_zret)]
def k_X6_closed : List (Nat × tF) := [(0, f_loadI 1 1), (1, f_push 0 1), (2, f_loadR 0 1), (3, f_getI 5 10), (6, f_push 1 1), (7, f_sub), (8, f_callS 78 3), (11, f_if0 cNe cEq 16), (14, f_push (-1) 1), (15, f_iret), (16, f_loadR 0 1), (17, f_callV 5 94 0), (20, f_loadR 0 1), (21, f_loadI 1 1), (22, f_callV 5 106 1), (25, f_storeI 2 1), (26, f_loadR 0 1), (27, f_getI 5 14), (30, f_storeI 3 1), (31, f_loadR 0 1), (32, f_loadI 3 1), (33, f_callV 5 97 1), (36, f_storeI 4 2), (38, f_push 0 1), (39, f_storeI 5 2), (41, f_loadI 5 2), (43, f_loadI 3 1), (44, f_icmp cGt cLe 147), (47, f_loadI 3 1), (48, f_push 4 1), (49, f_icmp cGe cLt 147), (52, f_push 0 1), (53, f_storeI 6 2), (55, f_loadI 6 2), (57, f_push 16 2), (59, f_icmp cGe cLt 141), (62, f_push 0 1), (63, f_storeI 7 2), (65, f_loadI 7 2), (67, f_loadI 3 1), (68, f_icmp cGt cLe 121), (71, f_loadR 0 1), (72, f_getR 5 15 (fun i => 96)), (75, f_loadI 7 2), (77, f_loadI 7 2), (79, f_loadI 5 2), (81, f_icmp cNe cEq 89), (84, f_loadI 6 2), (86, f_goto 114), (89, f_loadR 0 1), (90, f_getR 5 11 (fun i => 93)), (93, f_push 4 1), (94, f_loadI 1 1), (95, f_mul), (96, f_loadI 7 2), (98, f_loadI 5 2), (100, f_icmp cGe cLt 108), (103, f_loadI 7 2), (105, f_goto 112), (108, f_loadI 7 2), (110, f_push 1 1), (111, f_sub), (112, f_add), (113, f_iald), (114, f_iast), (115, f_iinc 7 1), (118, f_goto 65), (121, f_loadR 0 1), (122, f_loadI 3 1), (123, f_push 1 1), (124, f_add), (125, f_callV 5 97 1), (128, f_loadI 4 2), (130, f_icmp cNe cEq 135), (133, f_push 0 1), (134, f_iret), (135, f_iinc 6 1), (138, f_goto 55), (141, f_iinc 5 1), (144, f_goto 41), (147, f_push 0 1), (148, f_storeI 5 2), (150, f_loadI 5 2), (152, f_loadI 3 1), (153, f_icmp cGe cLt 259), (156, f_push 0 1), (157, f_storeI 6 2), (159, f_loadI 6 2), (161, f_push 16 2), (163, f_icmp cGe cLt 253), (166, f_loadR 0 1), (167, f_getR 5 4 (fun i => 87)), (170, f_loadI 6 2), (172, f_iald), (173, f_loadR 0 1), (174, f_getR 5 11 (fun i => 93)), (177, f_push 4 1), (178, f_loadI 1 1), (179, f_mul), (180, f_loadI 5 2), (182, f_add), (183, f_iald), (184, f_icmp cEq cNe 190), (187, f_goto 247), (190, f_push 0 1), (191, f_storeI 7 2), (193, f_loadI 7 2), (195, f_loadI 3 1), (196, f_icmp cGe cLt 235), (199, f_loadR 0 1), (200, f_getR 5 15 (fun i => 96)), (203, f_loadI 7 2), (205, f_loadI 7 2), (207, f_loadI 5 2), (209, f_icmp cNe cEq 217), (212, f_loadI 6 2), (214, f_goto 228), (217, f_loadR 0 1), (218, f_getR 5 11 (fun i => 93)), (221, f_push 4 1), (222, f_loadI 1 1), (223, f_mul), (224, f_loadI 7 2), (226, f_add), (227, f_iald), (228, f_iast), (229, f_iinc 7 1), (232, f_goto 193), (235, f_loadR 0 1), (236, f_loadI 3 1), (237, f_callV 5 97 1), (240, f_loadI 4 2), (242, f_icmp cNe cEq 247), (245, f_push 0 1), (246, f_iret), (247, f_iinc 6 1), (250, f_goto 159), (253, f_iinc 5 1), (256, f_goto 150), (259, f_push 1 1), (260, f_iret)]
def k_X6_inHeap : List (Nat × tF) := [(0, f_push 0 1), (1, f_storeI 3 1), (2, f_push 0 1), (3, f_storeI 4 2), (5, f_loadI 4 2), (7, f_loadR 0 1), (8, f_getI 5 0), (11, f_icmp cGe cLt 66), (14, f_loadI 3 1), (15, f_loadR 0 1), (16, f_getR 5 6 (fun i => 89)), (19, f_loadI 4 2), (21, f_zald), (22, f_if0 cNe cEq 57), (25, f_loadR 0 1), (26, f_getR 5 5 (fun i => 88)), (29, f_loadI 4 2), (31, f_iald), (32, f_loadI 1 1), (33, f_icmp cNe cEq 57), (36, f_loadI 2 1), (37, f_if0 cNe cEq 53), (40, f_loadR 0 1), (41, f_loadI 4 2), (43, f_loadR 0 1), (44, f_getI 5 14), (47, f_callV 5 96 2), (50, f_if0 cEq cNe 57), (53, f_push 1 1), (54, f_goto 58), (57, f_push 0 1), (58, f_add), (59, f_storeI 3 1), (60, f_iinc 4 1), (63, f_goto 5), (66, f_loadI 3 1), (67, f_iret)]
def k_X6_best : List (Nat × tF) := [(0, f_loadR 0 1), (1, f_getI 5 10), (4, f_if0 cNe cEq 9), (7, f_push (-1) 1), (8, f_iret), (9, f_loadR 0 1), (10, f_callV 5 94 0), (13, f_push (-1) 1), (14, f_storeI 1 1), (15, f_push 0 1), (16, f_storeI 2 1), (17, f_push 0 1), (18, f_storeI 3 1), (19, f_loadI 3 1), (20, f_loadR 0 1), (21, f_getI 5 10), (24, f_icmp cGe cLt 103), (27, f_loadR 0 1), (28, f_loadI 3 1), (29, f_callV 5 106 1), (32, f_storeI 4 2), (34, f_loadR 0 1), (35, f_push 0 1), (36, f_push 0 1), (37, f_callV 5 108 2), (40, f_loadR 0 1), (41, f_push 1 1), (42, f_push 1 1), (43, f_callV 5 108 2), (46, f_mul), (47, f_loadR 0 1), (48, f_push 1 1), (49, f_push 0 1), (50, f_callV 5 108 2), (53, f_loadR 0 1), (54, f_push 0 1), (55, f_push 1 1), (56, f_callV 5 108 2), (59, f_mul), (60, f_sub), (61, f_storeI 5 2), (63, f_loadI 5 2), (65, f_if0 cGe cLt 74), (68, f_loadI 5 2), (70, f_neg), (71, f_goto 76), (74, f_loadI 5 2), (76, f_storeI 5 2), (78, f_loadI 1 1), (79, f_push (-1) 1), (80, f_icmp cEq cNe 92), (83, f_loadI 5 2), (85, f_loadI 2 1), (86, f_icmp cGt cLe 92), (89, f_goto 97), (92, f_loadI 3 1), (93, f_storeI 1 1), (94, f_loadI 5 2), (96, f_storeI 2 1), (97, f_iinc 3 1), (100, f_goto 19), (103, f_loadI 1 1), (104, f_iret)]
def k_X6_those : List (Nat × tF) := [(0, f_push 0 1), (1, f_storeI 3 1), (2, f_push 0 1), (3, f_storeI 4 2), (5, f_loadI 4 2), (7, f_loadR 0 1), (8, f_getR 5 7 (fun i => 90)), (11, f_loadI 1 1), (12, f_iald), (13, f_icmp cGe cLt 50), (16, f_loadI 3 1), (17, f_loadR 0 1), (18, f_loadR 0 1), (19, f_getR 5 9 (fun i => 92)), (22, f_push 30 2), (24, f_loadI 1 1), (25, f_mul), (26, f_loadI 4 2), (28, f_add), (29, f_iald), (30, f_loadI 2 1), (31, f_callV 5 81 2), (34, f_if0 cEq cNe 41), (37, f_push 1 1), (38, f_goto 42), (41, f_push 0 1), (42, f_add), (43, f_storeI 3 1), (44, f_iinc 4 1), (47, f_goto 5), (50, f_loadI 3 1), (51, f_iret)]
def k_X6_ways : List (Nat × tF) := [(0, f_pushL 1 1), (1, f_storeL 2 1), (2, f_push 1 1), (3, f_storeI 4 2), (5, f_loadI 4 2), (7, f_loadI 0 1), (8, f_icmp cGt cLe 29), (11, f_loadL 2 1), (12, f_loadI 1 1), (13, f_loadI 4 2), (15, f_add), (16, f_i2l), (17, f_lmul), (18, f_loadI 4 2), (20, f_i2l), (21, f_ldiv), (22, f_storeL 2 1), (23, f_iinc 4 1), (26, f_goto 5), (29, f_loadL 2 1), (30, f_lret)]
def k_X6_expected : List (Nat × tF) := [(0, f_loadI 1 1), (1, f_callS 79 1), (4, f_if0 cEq cNe 32), (7, f_loadI 2 1), (8, f_callS 79 1), (11, f_if0 cEq cNe 32), (14, f_loadR 0 1), (15, f_loadI 1 1), (16, f_loadI 2 1), (17, f_callV 5 81 2), (20, f_if0 cNe cEq 32), (23, f_loadR 0 1), (24, f_loadI 2 1), (25, f_loadI 1 1), (26, f_callV 5 81 2), (29, f_if0 cEq cNe 36), (32, f_pushL (-1) 3), (35, f_lret), (36, f_pushL 0 1), (37, f_storeL 3 1), (38, f_push 0 1), (39, f_storeI 5 2), (41, f_loadI 5 2), (43, f_loadR 0 1), (44, f_getI 5 0), (47, f_icmp cGe cLt 116), (50, f_loadR 0 1), (51, f_getR 5 6 (fun i => 89)), (54, f_loadI 5 2), (56, f_zald), (57, f_if0 cEq cNe 64), (60, f_push 0 1), (61, f_goto 71), (64, f_loadR 0 1), (65, f_loadI 5 2), (67, f_loadI 1 1), (68, f_callV 5 110 2), (71, f_storeI 6 2), (73, f_loadR 0 1), (74, f_loadI 5 2), (76, f_loadI 2 1), (77, f_callV 5 110 2), (80, f_storeI 7 2), (82, f_loadI 6 2), (84, f_if0 cLe cGt 110), (87, f_loadI 7 2), (89, f_if0 cLe cGt 110), (92, f_loadL 3 1), (93, f_pushL (1000000) 3), (96, f_pushL (1000000) 3), (99, f_loadI 6 2), (101, f_loadI 7 2), (103, f_callS 111 2), (106, f_ldiv), (107, f_lsub), (108, f_ladd), (109, f_storeL 3 1), (110, f_iinc 5 1), (113, f_goto 41), (116, f_loadL 3 1), (117, f_lret)]
def k_X6_share : List (Nat × tF) := [(0, f_loadR 0 1), (1, f_loadI 1 1), (2, f_loadI 2 1), (3, f_loadI 3 1), (4, f_loadI 4 2), (6, f_callV 5 89 4), (9, f_if0 cEq cNe 20), (12, f_loadR 0 1), (13, f_getI 5 14), (16, f_push 1 1), (17, f_icmp cNe cEq 22), (20, f_push (-1) 1), (21, f_iret), (22, f_loadR 0 1), (23, f_callV 5 94 0), (26, f_loadR 0 1), (27, f_loadR 0 1), (28, f_getI 5 14), (31, f_push 1 1), (32, f_sub), (33, f_callV 5 97 1), (36, f_storeI 5 2), (38, f_loadI 5 2), (40, f_if0 cNe cEq 47), (43, f_push 0 1), (44, f_goto 62), (47, f_push 1000 3), (50, f_loadR 0 1), (51, f_loadR 0 1), (52, f_getI 5 14), (55, f_callV 5 97 1), (58, f_mul), (59, f_loadI 5 2), (61, f_div), (62, f_iret)]
def k_X6_isLacking : List (Nat × tF) := [(0, f_loadR 0 1), (1, f_getR 5 6 (fun i => 89)), (4, f_loadI 1 1), (5, f_zald), (6, f_if0 cNe cEq 39), (9, f_loadR 0 1), (10, f_loadI 1 1), (11, f_loadR 0 1), (12, f_getI 5 14), (15, f_push 1 1), (16, f_sub), (17, f_callV 5 96 2), (20, f_if0 cEq cNe 39), (23, f_loadR 0 1), (24, f_loadI 1 1), (25, f_loadR 0 1), (26, f_getI 5 14), (29, f_callV 5 96 2), (32, f_if0 cNe cEq 39), (35, f_push 1 1), (36, f_goto 40), (39, f_push 0 1), (40, f_zret)]
def k_X6_lacking : List (Nat × tF) := [(0, f_loadR 0 1), (1, f_loadI 1 1), (2, f_loadI 2 1), (3, f_loadI 3 1), (4, f_loadI 4 2), (6, f_callV 5 89 4), (9, f_if0 cEq cNe 25), (12, f_loadR 0 1), (13, f_getI 5 14), (16, f_push 1 1), (17, f_icmp cEq cNe 25), (20, f_loadI 5 2), (22, f_if0 cGe cLt 27), (25, f_push (-1) 1), (26, f_iret), (27, f_loadR 0 1), (28, f_callV 5 94 0), (31, f_push 0 1), (32, f_storeI 6 2), (34, f_push 0 1), (35, f_storeI 7 2), (37, f_loadI 7 2), (39, f_loadR 0 1), (40, f_getI 5 0), (43, f_icmp cGe cLt 77), (46, f_loadR 0 1), (47, f_loadI 7 2), (49, f_callV 5 114 1), (52, f_if0 cNe cEq 58), (55, f_goto 71), (58, f_loadI 6 2), (60, f_loadI 5 2), (62, f_icmp cNe cEq 68), (65, f_loadI 7 2), (67, f_iret), (68, f_iinc 6 1), (71, f_iinc 7 1), (74, f_goto 37), (77, f_push (-1) 1), (78, f_iret)]
def k_X6_sure : List (Nat × tF) := [(0, f_loadR 0 1), (1, f_loadI 1 1), (2, f_callV 5 80 1), (5, f_if0 cEq cNe 29), (8, f_loadR 0 1), (9, f_loadI 2 1), (10, f_loadI 3 1), (11, f_loadI 4 2), (13, f_loadI 5 2), (15, f_callV 5 89 4), (18, f_if0 cEq cNe 29), (21, f_loadR 0 1), (22, f_getI 5 14), (25, f_push 1 1), (26, f_icmp cNe cEq 31), (29, f_push (-1) 1), (30, f_iret), (31, f_loadR 0 1), (32, f_callV 5 94 0), (35, f_loadR 0 1), (36, f_loadI 1 1), (37, f_callV 5 114 1), (40, f_if0 cNe cEq 45), (43, f_push (-1) 1), (44, f_iret), (45, f_push 0 1), (46, f_storeI 6 2), (48, f_push 0 1), (49, f_storeI 7 2), (51, f_loadI 7 2), (53, f_loadR 0 1), (54, f_getR 5 7 (fun i => 90)), (57, f_loadI 1 1), (58, f_iald), (59, f_icmp cGe cLt 86), (62, f_loadI 6 2), (64, f_loadR 0 1), (65, f_loadI 1 1), (66, f_loadI 7 2), (68, f_loadR 0 1), (69, f_getI 5 14), (72, f_push 1 1), (73, f_sub), (74, f_callV 5 95 3), (77, f_or), (78, f_storeI 6 2), (80, f_iinc 7 1), (83, f_goto 51), (86, f_push 0 1), (87, f_storeI 7 2), (89, f_push 0 1), (90, f_storeI 8 2), (92, f_loadI 8 2), (94, f_loadR 0 1), (95, f_getR 5 7 (fun i => 90)), (98, f_loadI 1 1), (99, f_iald), (100, f_icmp cGe cLt 129), (103, f_loadI 6 2), (105, f_loadI 8 2), (107, f_shr), (108, f_push 1 1), (109, f_and), (110, f_push 1 1), (111, f_icmp cNe cEq 119), (114, f_loadI 8 2), (116, f_goto 121), (119, f_loadI 7 2), (121, f_storeI 7 2), (123, f_iinc 8 1), (126, f_goto 92), (129, f_loadR 0 1), (130, f_getR 5 8 (fun i => 91)), (133, f_push 30 2), (135, f_loadI 1 1), (136, f_mul), (137, f_loadI 7 2), (139, f_add), (140, f_iald), (141, f_loadR 0 1), (142, f_getI 5 2), (145, f_add), (146, f_storeI 8 2), (148, f_loadI 8 2), (150, f_push 9999 3), (153, f_icmp cGe cLt 161), (156, f_loadI 8 2), (158, f_goto 164), (161, f_push 9999 3), (164, f_iret)]
def k_X6_look : List (Nat × tF) := [(0, f_loadR 0 1), (1, f_loadI 1 1), (2, f_callV 5 80 1), (5, f_if0 cNe cEq 10), (8, f_push (-1) 1), (9, f_iret), (10, f_loadI 2 1), (11, f_push (-1) 1), (12, f_icmp cNe cEq 66), (15, f_loadI 3 1), (16, f_if0 cNe cEq 28), (19, f_loadR 0 1), (20, f_getR 5 5 (fun i => 88)), (23, f_loadI 1 1), (24, f_iald), (25, f_goto 65), (28, f_loadI 3 1), (29, f_push 1 1), (30, f_icmp cNe cEq 50), (33, f_loadR 0 1), (34, f_getR 5 6 (fun i => 89)), (37, f_loadI 1 1), (38, f_zald), (39, f_if0 cEq cNe 46), (42, f_push 0 1), (43, f_goto 65), (46, f_push 1 1), (47, f_goto 65), (50, f_loadI 3 1), (51, f_push 2 1), (52, f_icmp cNe cEq 64), (55, f_loadR 0 1), (56, f_getR 5 7 (fun i => 90)), (59, f_loadI 1 1), (60, f_iald), (61, f_goto 65), (64, f_push (-1) 1), (65, f_iret), (66, f_loadI 2 1), (67, f_push 0 1), (68, f_loadR 0 1), (69, f_getR 5 7 (fun i => 90)), (72, f_loadI 1 1), (73, f_iald), (74, f_push 1 1), (75, f_sub), (76, f_callS 78 3), (79, f_if0 cNe cEq 84), (82, f_push (-1) 1), (83, f_iret), (84, f_loadI 3 1), (85, f_if0 cNe cEq 102), (88, f_loadR 0 1), (89, f_getR 5 8 (fun i => 91)), (92, f_push 30 2), (94, f_loadI 1 1), (95, f_mul), (96, f_loadI 2 1), (97, f_add), (98, f_iald), (99, f_goto 122), (102, f_loadI 3 1), (103, f_push 1 1), (104, f_icmp cNe cEq 121), (107, f_loadR 0 1), (108, f_getR 5 9 (fun i => 92)), (111, f_push 30 2), (113, f_loadI 1 1), (114, f_mul), (115, f_loadI 2 1), (116, f_add), (117, f_iald), (118, f_goto 122), (121, f_push (-1) 1), (122, f_iret)]
def k_X6_tell : List (Nat × tF) := [(0, f_push 0 1), (1, f_storeI 2 1), (2, f_loadI 1 1), (3, f_tsw 0 5 [40, 45, 80, 85, 90, 95] 100), (40, f_loadR 0 1), (41, f_getI 5 0), (44, f_iret), (45, f_push 0 1), (46, f_storeI 3 1), (47, f_loadI 3 1), (48, f_loadR 0 1), (49, f_getI 5 0), (52, f_icmp cGe cLt 78), (55, f_loadI 2 1), (56, f_loadR 0 1), (57, f_getR 5 6 (fun i => 89)), (60, f_loadI 3 1), (61, f_zald), (62, f_if0 cEq cNe 69), (65, f_push 0 1), (66, f_goto 70), (69, f_push 1 1), (70, f_add), (71, f_storeI 2 1), (72, f_iinc 3 1), (75, f_goto 47), (78, f_loadI 2 1), (79, f_iret), (80, f_loadR 0 1), (81, f_getI 5 2), (84, f_iret), (85, f_loadR 0 1), (86, f_getI 5 3), (89, f_iret), (90, f_loadR 0 1), (91, f_getI 5 10), (94, f_iret), (95, f_loadR 0 1), (96, f_getI 5 1), (99, f_iret), (100, f_push (-1) 1), (101, f_iret)]
def k_J6_bitCount_0f7a4 : List (Nat × tF) := [(0, f_loadI 0 1), (1, f_loadI 0 1), (2, f_push 1 1), (3, f_ushr), (4, f_push 1431655765 3), (7, f_and), (8, f_sub), (9, f_storeI 0 1), (10, f_loadI 0 1), (11, f_push 858993459 3), (14, f_and), (15, f_loadI 0 1), (16, f_push 2 1), (17, f_ushr), (18, f_push 858993459 3), (21, f_and), (22, f_add), (23, f_storeI 0 1), (24, f_loadI 0 1), (25, f_loadI 0 1), (26, f_push 4 1), (27, f_ushr), (28, f_add), (29, f_push 252645135 3), (32, f_and), (33, f_storeI 0 1), (34, f_loadI 0 1), (35, f_loadI 0 1), (36, f_push 8 2), (38, f_ushr), (39, f_add), (40, f_storeI 0 1), (41, f_loadI 0 1), (42, f_loadI 0 1), (43, f_push 16 2), (45, f_ushr), (46, f_add), (47, f_storeI 0 1), (48, f_loadI 0 1), (49, f_push 63 2), (51, f_and), (52, f_iret)]
def k_J9_abs_0f7a4 : List (Nat × tF) := [(0, f_loadI 0 1), (1, f_if0 cGe cLt 9), (4, f_loadI 0 1), (5, f_neg), (6, f_goto 10), (9, f_loadI 0 1), (10, f_iret)]
def k_J9_min_7cf53 : List (Nat × tF) := [(0, f_loadI 0 1), (1, f_loadI 1 1), (2, f_icmp cGt cLe 9), (5, f_loadI 0 1), (6, f_goto 10), (9, f_loadI 1 1), (10, f_iret)]
theorem mm_X0_forget : AllS (fun e => FMono e.2) k_X0_forget := ⟨m_loadR 0 1, m_push 0 1, m_putI 0 2, m_vret, trivial⟩
theorem mo_X0_forget : ∀ pc, FMono (tabF k_X0_forget pc) := tabF_all (P := fun e => FMono e.2) (fun _ => m_no) k_X0_forget mm_X0_forget
theorem mm_X0_add : AllS (fun e => FMono e.2) k_X0_add := ⟨m_loadR 0 1, m_getI 0 2, m_push 2000 3, m_icmp cGe cLt 40, m_loadR 0 1, m_getR 0 0 (fun i => 10), m_loadR 0 1, m_getI 0 2, m_loadI 1 1, m_iast, m_loadR 0 1, m_getR 0 1 (fun i => 11), m_loadR 0 1, m_getI 0 2, m_loadI 2 1, m_iast, m_loadR 0 1, m_dup, m_getI 0 2, m_push 1 1, m_add, m_putI 0 2, m_vret, trivial⟩
theorem mo_X0_add : ∀ pc, FMono (tabF k_X0_add pc) := tabF_all (P := fun e => FMono e.2) (fun _ => m_no) k_X0_add mm_X0_add
theorem mm_X0_isFull : AllS (fun e => FMono e.2) k_X0_isFull := ⟨m_loadR 0 1, m_getI 0 2, m_push 2000 3, m_icmp cLt cGe 14, m_push 1 1, m_goto 15, m_push 0 1, m_zret, trivial⟩
theorem mo_X0_isFull : ∀ pc, FMono (tabF k_X0_isFull pc) := tabF_all (P := fun e => FMono e.2) (fun _ => m_no) k_X0_isFull mm_X0_isFull
theorem mm_X0_holds : AllS (fun e => FMono e.2) k_X0_holds := ⟨m_loadI 1 1, m_if0 cLt cGe 16, m_loadI 1 1, m_loadR 0 1, m_getI 0 2, m_icmp cGe cLt 16, m_push 1 1, m_goto 17, m_push 0 1, m_zret, trivial⟩
theorem mo_X0_holds : ∀ pc, FMono (tabF k_X0_holds pc) := tabF_all (P := fun e => FMono e.2) (fun _ => m_no) k_X0_holds mm_X0_holds
theorem mm_X0_size : AllS (fun e => FMono e.2) k_X0_size := ⟨m_loadR 0 1, m_getI 0 2, m_iret, trivial⟩
theorem mo_X0_size : ∀ pc, FMono (tabF k_X0_size pc) := tabF_all (P := fun e => FMono e.2) (fun _ => m_no) k_X0_size mm_X0_size
theorem mm_X0_patternAt : AllS (fun e => FMono e.2) k_X0_patternAt := ⟨m_loadR 0 1, m_loadI 1 1, m_callV 0 3 1, m_if0 cEq cNe 17, m_loadR 0 1, m_getR 0 0 (fun i => 10), m_loadI 1 1, m_iald, m_goto 18, m_push (-1) 1, m_iret, trivial⟩
theorem mo_X0_patternAt : ∀ pc, FMono (tabF k_X0_patternAt pc) := tabF_all (P := fun e => FMono e.2) (fun _ => m_no) k_X0_patternAt mm_X0_patternAt
theorem mm_X0_rowsThenAt : AllS (fun e => FMono e.2) k_X0_rowsThenAt := ⟨m_loadR 0 1, m_loadI 1 1, m_callV 0 3 1, m_if0 cEq cNe 17, m_loadR 0 1, m_getR 0 1 (fun i => 11), m_loadI 1 1, m_iald, m_goto 18, m_push 0 1, m_iret, trivial⟩
theorem mo_X0_rowsThenAt : ∀ pc, FMono (tabF k_X0_rowsThenAt pc) := tabF_all (P := fun e => FMono e.2) (fun _ => m_no) k_X0_rowsThenAt mm_X0_rowsThenAt
theorem mm_X1_lay : AllS (fun e => FMono e.2) k_X1_lay := ⟨m_loadI 2 1, m_push (-1) 1, m_icmp cEq cNe 16, m_loadR 0 1, m_loadI 2 1, m_loadI 1 1, m_callV 1 9 2, m_if0 cEq cNe 16, m_push 0 1, m_zret, m_loadR 0 1, m_getR 1 1 (fun i => 3), m_loadI 1 1, m_loadI 2 1, m_iast, m_push 0 1, m_storeI 3 1, m_loadI 3 1, m_push 16 2, m_icmp cGe cLt 48, m_loadR 0 1, m_getR 1 0 (fun i => 2), m_loadI 3 1, m_loadR 0 1, m_loadI 3 1, m_callV 1 8 1, m_iast, m_iinc 3 1, m_goto 25, m_push 1 1, m_zret, trivial⟩
theorem mo_X1_lay : ∀ pc, FMono (tabF k_X1_lay pc) := tabF_all (P := fun e => FMono e.2) (fun _ => m_no) k_X1_lay mm_X1_lay
theorem mm_X1_climb : AllS (fun e => FMono e.2) k_X1_climb := ⟨m_push 0 1, m_storeI 2 1, m_loadI 1 1, m_storeI 3 1, m_push 0 1, m_storeI 4 2, m_loadI 4 2, m_push 16 2, m_icmp cGe cLt 38, m_loadI 3 1, m_push (-1) 1, m_icmp cEq cNe 38, m_loadI 2 1, m_push 1 1, m_loadI 3 1, m_shl, m_or, m_storeI 2 1, m_loadR 0 1, m_getR 1 1 (fun i => 3), m_loadI 3 1, m_iald, m_storeI 3 1, m_iinc 4 1, m_goto 7, m_loadI 2 1, m_iret, trivial⟩
theorem mo_X1_climb : ∀ pc, FMono (tabF k_X1_climb pc) := tabF_all (P := fun e => FMono e.2) (fun _ => m_no) k_X1_climb mm_X1_climb
theorem mm_X1_is : AllS (fun e => FMono e.2) k_X1_is := ⟨m_loadR 0 1, m_getR 1 0 (fun i => 2), m_loadI 1 1, m_iald, m_loadI 2 1, m_shr, m_push 1 1, m_and, m_if0 cEq cNe 17, m_push 1 1, m_goto 18, m_push 0 1, m_zret, trivial⟩
theorem mo_X1_is : ∀ pc, FMono (tabF k_X1_is pc) := tabF_all (P := fun e => FMono e.2) (fun _ => m_no) k_X1_is mm_X1_is
theorem mm_X1_liesJustUnder : AllS (fun e => FMono e.2) k_X1_liesJustUnder := ⟨m_loadR 0 1, m_getR 1 1 (fun i => 3), m_loadI 1 1, m_iald, m_loadI 2 1, m_icmp cNe cEq 14, m_push 1 1, m_goto 15, m_push 0 1, m_zret, trivial⟩
theorem mo_X1_liesJustUnder : ∀ pc, FMono (tabF k_X1_liesJustUnder pc) := tabF_all (P := fun e => FMono e.2) (fun _ => m_no) k_X1_liesJustUnder mm_X1_liesJustUnder
theorem mm_X2_takeUp : AllS (fun e => FMono e.2) k_X2_takeUp := ⟨m_loadR 0 1, m_loadI 1 1, m_callS 27 1, m_putI 2 3, m_push 0 1, m_storeI 2 1, m_loadI 2 1, m_push 16 2, m_icmp cGe cLt 89, m_loadR 0 1, m_getR 2 2 (fun i => 1), m_getR 1 0 (fun i => 2), m_loadI 2 1, m_iald, m_storeI 3 1, m_loadI 1 1, m_storeI 4 2, m_loadR 0 1, m_getR 2 4 (fun i => 5), m_loadI 2 1, m_push 0 1, m_iast, m_loadR 0 1, m_getI 2 3, m_push 1 1, m_sub, m_storeI 5 2, m_loadI 5 2, m_if0 cLt cGe 83, m_loadR 0 1, m_getR 2 4 (fun i => 5), m_loadI 2 1, m_dup2, m_iald, m_loadI 3 1, m_loadI 4 2, m_callS 29 1, m_shr, m_push 1 1, m_and, m_loadI 5 2, m_shl, m_or, m_iast, m_loadI 4 2, m_callS 30 1, m_storeI 4 2, m_iinc 5 (-1), m_goto 44, m_iinc 2 1, m_goto 10, m_vret, trivial⟩
theorem mo_X2_takeUp : ∀ pc, FMono (tabF k_X2_takeUp pc) := tabF_all (P := fun e => FMono e.2) (fun _ => m_no) k_X2_takeUp mm_X2_takeUp
theorem mm_X2_isIn : AllS (fun e => FMono e.2) k_X2_isIn := ⟨m_loadR 0 1, m_callV 2 15 0, m_push 0 1, m_storeI 2 1, m_loadI 2 1, m_loadR 1 1, m_callV 3 35 0, m_icmp cGe cLt 31, m_loadR 0 1, m_loadR 1 1, m_loadI 2 1, m_callV 2 16 2, m_if0 cEq cNe 25, m_push 1 1, m_zret, m_iinc 2 1, m_goto 6, m_push 0 1, m_zret, trivial⟩
theorem mo_X2_isIn : ∀ pc, FMono (tabF k_X2_isIn pc) := tabF_all (P := fun e => FMono e.2) (fun _ => m_no) k_X2_isIn mm_X2_isIn
theorem mm_X2_lastEnd : AllS (fun e => FMono e.2) k_X2_lastEnd := ⟨m_loadR 0 1, m_callV 2 15 0, m_push (-1) 1, m_storeI 2 1, m_push 0 1, m_storeI 3 1, m_loadI 3 1, m_loadR 1 1, m_callV 3 35 0, m_icmp cGe cLt 37, m_loadR 0 1, m_loadR 1 1, m_loadI 3 1, m_callV 2 16 2, m_if0 cEq cNe 31, m_loadR 1 1, m_loadI 3 1, m_callV 3 36 1, m_storeI 2 1, m_iinc 3 1, m_goto 8, m_loadI 2 1, m_iret, trivial⟩
theorem mo_X2_lastEnd : ∀ pc, FMono (tabF k_X2_lastEnd pc) := tabF_all (P := fun e => FMono e.2) (fun _ => m_no) k_X2_lastEnd mm_X2_lastEnd
theorem mm_X2_kindsBehind : AllS (fun e => FMono e.2) k_X2_kindsBehind := ⟨m_loadR 0 1, m_callV 2 15 0, m_push 0 1, m_storeI 2 1, m_push 0 1, m_storeI 3 1, m_loadI 3 1, m_loadR 1 1, m_callV 3 35 0, m_icmp cGe cLt 60, m_loadR 0 1, m_loadR 0 1, m_getI 2 3, m_loadR 1 1, m_loadI 3 1, m_callV 3 36 1, m_callV 2 17 2, m_if0 cEq cNe 47, m_loadI 2 1, m_loadR 1 1, m_loadI 3 1, m_loadR 0 1, m_getR 2 2 (fun i => 1), m_getR 1 0 (fun i => 2), m_callV 3 38 2, m_or, m_storeI 2 1, m_loadR 0 1, m_loadR 1 1, m_loadI 3 1, m_callV 2 16 2, m_pop, m_iinc 3 1, m_goto 8, m_loadI 2 1, m_iret, trivial⟩
theorem mo_X2_kindsBehind : ∀ pc, FMono (tabF k_X2_kindsBehind pc) := tabF_all (P := fun e => FMono e.2) (fun _ => m_no) k_X2_kindsBehind mm_X2_kindsBehind
theorem mm_X2_loseChains : AllS (fun e => FMono e.2) k_X2_loseChains := ⟨m_push 0 1, m_storeI 1 1, m_loadI 1 1, m_push 4 1, m_icmp cGe cLt 27, m_loadR 0 1, m_getR 2 5 (fun i => 6), m_loadI 1 1, m_push (-1) 1, m_iast, m_loadR 0 1, m_getR 2 6 (fun i => 7), m_loadI 1 1, m_push (-1) 1, m_iast, m_iinc 1 1, m_goto 2, m_vret, trivial⟩
theorem mo_X2_loseChains : ∀ pc, FMono (tabF k_X2_loseChains pc) := tabF_all (P := fun e => FMono e.2) (fun _ => m_no) k_X2_loseChains mm_X2_loseChains
theorem mm_X2_endsMatch : AllS (fun e => FMono e.2) k_X2_endsMatch := ⟨m_loadR 1 1, m_loadI 2 1, m_loadR 0 1, m_getR 2 4 (fun i => 5), m_callV 3 38 2, m_storeI 3 1, m_loadR 1 1, m_loadI 2 1, m_callV 3 36 1, m_storeI 4 2, m_push 0 1, m_storeI 5 2, m_loadR 0 1, m_getI 2 3, m_push 1 1, m_sub, m_storeI 6 2, m_loadI 3 1, m_if0 cEq cNe 119, m_loadI 6 2, m_if0 cLt cGe 119, m_loadI 3 1, m_loadI 6 2, m_shr, m_push 1 1, m_and, m_if0 cEq cNe 113, m_loadR 0 1, m_loadI 6 2, m_loadI 4 2, m_callV 2 17 2, m_if0 cEq cNe 113, m_loadR 0 1, m_getR 2 5 (fun i => 6), m_loadI 6 2, m_loadI 6 2, m_if0 cNe cEq 73, m_loadI 4 2, m_goto 82, m_loadR 0 1, m_getR 2 5 (fun i => 6), m_loadI 6 2, m_push 1 1, m_sub, m_iald, m_iast, m_loadR 0 1, m_getR 2 6 (fun i => 7), m_loadI 6 2, m_loadI 4 2, m_iast, m_loadI 5 2, m_loadI 6 2, m_loadR 0 1, m_getI 2 3, m_push 1 1, m_sub, m_icmp cNe cEq 109, m_push 1 1, m_goto 110, m_push 0 1, m_or, m_storeI 5 2, m_iinc 6 (-1), m_goto 28, m_loadI 5 2, m_zret, trivial⟩
theorem mo_X2_endsMatch : ∀ pc, FMono (tabF k_X2_endsMatch pc) := tabF_all (P := fun e => FMono e.2) (fun _ => m_no) k_X2_endsMatch mm_X2_endsMatch
theorem mm_X2_canFollow : AllS (fun e => FMono e.2) k_X2_canFollow := ⟨m_loadI 1 1, m_if0 cNe cEq 6, m_push 1 1, m_zret, m_loadI 1 1, m_push 1 1, m_sub, m_storeI 3 1, m_loadR 0 1, m_getR 2 6 (fun i => 7), m_loadI 3 1, m_iald, m_push (-1) 1, m_icmp cEq cNe 54, m_loadI 2 1, m_loadR 0 1, m_getR 2 6 (fun i => 7), m_loadI 3 1, m_iald, m_sub, m_loadR 0 1, m_getI 2 0, m_icmp cGt cLe 54, m_loadI 2 1, m_loadR 0 1, m_getR 2 5 (fun i => 6), m_loadI 3 1, m_iald, m_sub, m_loadR 0 1, m_getI 2 1, m_icmp cGt cLe 54, m_push 1 1, m_goto 55, m_push 0 1, m_zret, trivial⟩
theorem mo_X2_canFollow : ∀ pc, FMono (tabF k_X2_canFollow pc) := tabF_all (P := fun e => FMono e.2) (fun _ => m_no) k_X2_canFollow mm_X2_canFollow
theorem mm_X2_matchesIn : AllS (fun e => FMono e.2) k_X2_matchesIn := ⟨m_pushL 0 1, m_storeL 2 1, m_loadR 0 1, m_loadR 1 1, m_callV 2 20 1, m_storeI 4 2, m_loadI 4 2, m_if0 cEq cNe 42, m_loadL 2 1, m_pushL (27405) 3, m_lcmp, m_if0 cGe cLt 42, m_loadL 2 1, m_pushL 1 1, m_ladd, m_storeL 2 1, m_loadR 0 1, m_loadR 1 1, m_loadR 0 1, m_getI 2 3, m_push 1 1, m_sub, m_callV 2 21 2, m_storeI 4 2, m_goto 9, m_loadL 2 1, m_lret, trivial⟩
theorem mo_X2_matchesIn : ∀ pc, FMono (tabF k_X2_matchesIn pc) := tabF_all (P := fun e => FMono e.2) (fun _ => m_no) k_X2_matchesIn mm_X2_matchesIn
theorem mm_X2_placeInFirst : AllS (fun e => FMono e.2) k_X2_placeInFirst := ⟨m_loadI 2 1, m_if0 cLt cGe 29, m_loadI 2 1, m_loadR 0 1, m_getI 2 3, m_icmp cGe cLt 29, m_loadR 0 1, m_loadR 1 1, m_callV 2 20 1, m_if0 cEq cNe 29, m_loadR 0 1, m_getR 2 7 (fun i => 8), m_loadI 2 1, m_iald, m_goto 30, m_push (-1) 1, m_iret, trivial⟩
theorem mo_X2_placeInFirst : ∀ pc, FMono (tabF k_X2_placeInFirst pc) := tabF_all (P := fun e => FMono e.2) (fun _ => m_no) k_X2_placeInFirst mm_X2_placeInFirst
theorem mm_X2_goToFirstMatch : AllS (fun e => FMono e.2) k_X2_goToFirstMatch := ⟨m_loadR 0 1, m_getR 2 7 (fun i => 8), m_push 0 1, m_push (-1) 1, m_iast, m_loadR 0 1, m_loadR 1 1, m_push 0 1, m_callV 2 21 2, m_zret, trivial⟩
theorem mo_X2_goToFirstMatch : ∀ pc, FMono (tabF k_X2_goToFirstMatch pc) := tabF_all (P := fun e => FMono e.2) (fun _ => m_no) k_X2_goToFirstMatch mm_X2_goToFirstMatch
theorem mm_X2_goToNextMatch : AllS (fun e => FMono e.2) k_X2_goToNextMatch := ⟨m_loadI 2 1, m_storeI 3 1, m_push 0 1, m_storeI 4 2, m_loadI 4 2, m_push 1000000 2, m_icmp cGe cLt 79, m_loadI 3 1, m_if0 cLt cGe 79, m_loadR 0 1, m_getR 2 7 (fun i => 8), m_loadI 3 1, m_loadR 0 1, m_loadR 1 1, m_loadI 3 1, m_callV 2 22 2, m_iast, m_loadR 0 1, m_getR 2 7 (fun i => 8), m_loadI 3 1, m_iald, m_push (-1) 1, m_icmp cNe cEq 44, m_iinc 3 (-1), m_goto 73, m_loadI 3 1, m_loadR 0 1, m_getI 2 3, m_push 1 1, m_sub, m_icmp cLt cGe 56, m_push 1 1, m_zret, m_loadR 0 1, m_getR 2 7 (fun i => 8), m_loadI 3 1, m_push 1 1, m_add, m_loadR 0 1, m_getR 2 7 (fun i => 8), m_loadI 3 1, m_iald, m_iast, m_iinc 3 1, m_iinc 4 1, m_goto 5, m_push 0 1, m_zret, trivial⟩
theorem mo_X2_goToNextMatch : ∀ pc, FMono (tabF k_X2_goToNextMatch pc) := tabF_all (P := fun e => FMono e.2) (fun _ => m_no) k_X2_goToNextMatch mm_X2_goToNextMatch
theorem mm_X2_nextPlace : AllS (fun e => FMono e.2) k_X2_nextPlace := ⟨m_loadR 0 1, m_getR 2 7 (fun i => 8), m_loadI 2 1, m_iald, m_push 1 1, m_add, m_storeI 3 1, m_loadI 3 1, m_loadR 1 1, m_callV 3 35 0, m_icmp cGe cLt 35, m_loadR 0 1, m_loadR 1 1, m_loadI 3 1, m_loadI 2 1, m_callV 2 23 3, m_if0 cEq cNe 29, m_loadI 3 1, m_iret, m_iinc 3 1, m_goto 9, m_push (-1) 1, m_iret, trivial⟩
theorem mo_X2_nextPlace : ∀ pc, FMono (tabF k_X2_nextPlace pc) := tabF_all (P := fun e => FMono e.2) (fun _ => m_no) k_X2_nextPlace mm_X2_nextPlace
theorem mm_X2_canStandAt : AllS (fun e => FMono e.2) k_X2_canStandAt := ⟨m_loadR 1 1, m_loadI 2 1, m_loadR 0 1, m_getR 2 4 (fun i => 5), m_callV 3 38 2, m_loadI 3 1, m_shr, m_push 1 1, m_and, m_if0 cNe cEq 18, m_push 0 1, m_zret, m_loadR 1 1, m_loadI 2 1, m_callV 3 36 1, m_storeI 4 2, m_loadI 3 1, m_if0 cEq cNe 71, m_loadI 4 2, m_loadR 1 1, m_loadR 0 1, m_getR 2 7 (fun i => 8), m_loadI 3 1, m_push 1 1, m_sub, m_iald, m_callV 3 36 1, m_sub, m_loadR 0 1, m_getI 2 0, m_icmp cGt cLe 75, m_loadI 4 2, m_loadR 1 1, m_loadR 0 1, m_getR 2 7 (fun i => 8), m_push 0 1, m_iald, m_callV 3 36 1, m_sub, m_loadR 0 1, m_getI 2 1, m_icmp cGt cLe 75, m_push 1 1, m_goto 76, m_push 0 1, m_zret, trivial⟩
theorem mo_X2_canStandAt : ∀ pc, FMono (tabF k_X2_canStandAt pc) := tabF_all (P := fun e => FMono e.2) (fun _ => m_no) k_X2_canStandAt mm_X2_canStandAt
theorem mm_X3_of : AllS (fun e => FMono e.2) k_X3_of := ⟨m_loadI 0 1, m_callS 60 1, m_if0 cEq cNe 28, m_loadI 1 1, m_callS 25 1, m_if0 cEq cNe 28, m_loadI 2 1, m_callS 25 1, m_if0 cEq cNe 28, m_loadI 3 1, m_callS 25 1, m_if0 cNe cEq 30, m_push (-1) 1, m_iret, m_loadI 1 1, m_push (-1) 1, m_icmp cNe cEq 40, m_loadI 2 1, m_push (-1) 1, m_icmp cNe cEq 50, m_loadI 2 1, m_push (-1) 1, m_icmp cNe cEq 52, m_loadI 3 1, m_push (-1) 1, m_icmp cEq cNe 52, m_push (-1) 1, m_iret, m_push 1 1, m_loadI 0 1, m_callS 26 2, m_loadI 1 1, m_callS 26 2, m_loadI 2 1, m_callS 26 2, m_loadI 3 1, m_callS 26 2, m_iret, trivial⟩
theorem mo_X3_of : ∀ pc, FMono (tabF k_X3_of pc) := tabF_all (P := fun e => FMono e.2) (fun _ => m_no) k_X3_of mm_X3_of
theorem mm_X3_isKindOrNone : AllS (fun e => FMono e.2) k_X3_isKindOrNone := ⟨m_loadI 0 1, m_push (-1) 1, m_icmp cEq cNe 12, m_loadI 0 1, m_callS 60 1, m_if0 cEq cNe 16, m_push 1 1, m_goto 17, m_push 0 1, m_zret, trivial⟩
theorem mo_X3_isKindOrNone : ∀ pc, FMono (tabF k_X3_isKindOrNone pc) := tabF_all (P := fun e => FMono e.2) (fun _ => m_no) k_X3_isKindOrNone mm_X3_isKindOrNone
theorem mm_X3_lengthen : AllS (fun e => FMono e.2) k_X3_lengthen := ⟨m_loadI 1 1, m_push (-1) 1, m_icmp cNe cEq 9, m_loadI 0 1, m_goto 15, m_loadI 0 1, m_push 0 1, m_loadI 1 1, m_callS 31 3, m_iret, trivial⟩
theorem mo_X3_lengthen : ∀ pc, FMono (tabF k_X3_lengthen pc) := tabF_all (P := fun e => FMono e.2) (fun _ => m_no) k_X3_lengthen mm_X3_lengthen
theorem mm_X3_length : AllS (fun e => FMono e.2) k_X3_length := ⟨m_push 0 1, m_storeI 1 1, m_loadI 1 1, m_push 4 1, m_icmp cGe cLt 23, m_loadI 0 1, m_push 4 1, m_loadI 1 1, m_push 1 1, m_add, m_mul, m_shr, m_if0 cLe cGt 23, m_iinc 1 1, m_goto 2, m_loadI 1 1, m_iret, trivial⟩
theorem mo_X3_length : ∀ pc, FMono (tabF k_X3_length pc) := tabF_all (P := fun e => FMono e.2) (fun _ => m_no) k_X3_length mm_X3_length
theorem mm_X3_item : AllS (fun e => FMono e.2) k_X3_item := ⟨m_loadI 0 1, m_callS 27 1, m_storeI 2 1, m_loadI 1 1, m_if0 cLt cGe 14, m_loadI 1 1, m_loadI 2 1, m_icmp cLt cGe 18, m_push (-1) 1, m_goto 30, m_loadI 0 1, m_push 4 1, m_loadI 2 1, m_push 1 1, m_sub, m_loadI 1 1, m_sub, m_mul, m_shr, m_push 15 2, m_and, m_iret, trivial⟩
theorem mo_X3_item : ∀ pc, FMono (tabF k_X3_item pc) := tabF_all (P := fun e => FMono e.2) (fun _ => m_no) k_X3_item mm_X3_item
theorem mm_X3_lastItem : AllS (fun e => FMono e.2) k_X3_lastItem := ⟨m_loadI 0 1, m_push 15 2, m_and, m_iret, trivial⟩
theorem mo_X3_lastItem : ∀ pc, FMono (tabF k_X3_lastItem pc) := tabF_all (P := fun e => FMono e.2) (fun _ => m_no) k_X3_lastItem mm_X3_lastItem
theorem mm_X3_withoutLast : AllS (fun e => FMono e.2) k_X3_withoutLast := ⟨m_loadI 0 1, m_push 4 1, m_shr, m_iret, trivial⟩
theorem mo_X3_withoutLast : ∀ pc, FMono (tabF k_X3_withoutLast pc) := tabF_all (P := fun e => FMono e.2) (fun _ => m_no) k_X3_withoutLast mm_X3_withoutLast
theorem mm_X3_insert : AllS (fun e => FMono e.2) k_X3_insert := ⟨m_push 4 1, m_loadI 1 1, m_mul, m_storeI 3 1, m_loadI 0 1, m_push 1 1, m_loadI 3 1, m_shl, m_push 1 1, m_sub, m_and, m_storeI 4 2, m_loadI 0 1, m_loadI 3 1, m_shr, m_push 4 1, m_shl, m_loadI 2 1, m_or, m_loadI 3 1, m_shl, m_loadI 4 2, m_or, m_iret, trivial⟩
theorem mo_X3_insert : ∀ pc, FMono (tabF k_X3_insert pc) := tabF_all (P := fun e => FMono e.2) (fun _ => m_no) k_X3_insert mm_X3_insert
theorem mm_X3_replace : AllS (fun e => FMono e.2) k_X3_replace := ⟨m_push 4 1, m_loadI 0 1, m_callS 27 1, m_push 1 1, m_sub, m_loadI 1 1, m_sub, m_mul, m_storeI 3 1, m_loadI 0 1, m_push 15 2, m_loadI 3 1, m_shl, m_push (-1) 1, m_xor, m_and, m_loadI 2 1, m_loadI 3 1, m_shl, m_or, m_iret, trivial⟩
theorem mo_X3_replace : ∀ pc, FMono (tabF k_X3_replace pc) := tabF_all (P := fun e => FMono e.2) (fun _ => m_no) k_X3_replace mm_X3_replace
theorem mm_X4_begin : AllS (fun e => FMono e.2) k_X4_begin := ⟨m_loadR 0 1, m_loadI 1 1, m_putI 3 0, m_loadR 0 1, m_push 1 1, m_putZ 3 1, m_loadR 0 1, m_push 0 1, m_putI 3 4, m_vret, trivial⟩
theorem mo_X4_begin : ∀ pc, FMono (tabF k_X4_begin pc) := tabF_all (P := fun e => FMono e.2) (fun _ => m_no) k_X4_begin mm_X4_begin
theorem mm_X4_append : AllS (fun e => FMono e.2) k_X4_append := ⟨m_loadR 0 1, m_getI 3 4, m_push 30 2, m_icmp cGe cLt 23, m_loadI 1 1, m_loadR 0 1, m_loadR 0 1, m_getI 3 4, m_push 1 1, m_sub, m_callV 3 36 1, m_icmp cGe cLt 25, m_push (-1) 1, m_iret, m_loadR 0 1, m_getR 3 2 (fun i => i + 24), m_loadR 0 1, m_getI 3 4, m_loadI 1 1, m_iast, m_loadR 0 1, m_getR 3 3 (fun i => i + 48), m_loadR 0 1, m_getI 3 4, m_loadI 2 1, m_iast, m_loadR 0 1, m_dup, m_getI 3 4, m_push 1 1, m_add, m_putI 3 4, m_loadR 0 1, m_getI 3 4, m_push 1 1, m_sub, m_iret, trivial⟩
theorem mo_X4_append : ∀ pc, FMono (tabF k_X4_append pc) := tabF_all (P := fun e => FMono e.2) (fun _ => m_no) k_X4_append mm_X4_append
theorem mm_X4_size : AllS (fun e => FMono e.2) k_X4_size := ⟨m_loadR 0 1, m_getI 3 4, m_iret, trivial⟩
theorem mo_X4_size : ∀ pc, FMono (tabF k_X4_size pc) := tabF_all (P := fun e => FMono e.2) (fun _ => m_no) k_X4_size mm_X4_size
theorem mm_X4_tickAt : AllS (fun e => FMono e.2) k_X4_tickAt := ⟨m_loadI 1 1, m_if0 cLt cGe 21, m_loadI 1 1, m_loadR 0 1, m_getI 3 4, m_icmp cGe cLt 21, m_loadR 0 1, m_getR 3 2 (fun i => i + 24), m_loadI 1 1, m_iald, m_goto 22, m_push (-1) 1, m_iret, trivial⟩
theorem mo_X4_tickAt : ∀ pc, FMono (tabF k_X4_tickAt pc) := tabF_all (P := fun e => FMono e.2) (fun _ => m_no) k_X4_tickAt mm_X4_tickAt
theorem mm_X4_kindAt : AllS (fun e => FMono e.2) k_X4_kindAt := ⟨m_loadI 1 1, m_if0 cLt cGe 21, m_loadI 1 1, m_loadR 0 1, m_getI 3 4, m_icmp cGe cLt 21, m_loadR 0 1, m_getR 3 3 (fun i => i + 48), m_loadI 1 1, m_iald, m_goto 22, m_push (-1) 1, m_iret, trivial⟩
theorem mo_X4_kindAt : ∀ pc, FMono (tabF k_X4_kindAt pc) := tabF_all (P := fun e => FMono e.2) (fun _ => m_no) k_X4_kindAt mm_X4_kindAt
theorem mm_X4_bitsAt : AllS (fun e => FMono e.2) k_X4_bitsAt := ⟨m_loadI 1 1, m_if0 cLt cGe 23, m_loadI 1 1, m_loadR 0 1, m_getI 3 4, m_icmp cGe cLt 23, m_loadR 2 1, m_loadR 0 1, m_getR 3 3 (fun i => i + 48), m_loadI 1 1, m_iald, m_iald, m_goto 24, m_push 0 1, m_iret, trivial⟩
theorem mo_X4_bitsAt : ∀ pc, FMono (tabF k_X4_bitsAt pc) := tabF_all (P := fun e => FMono e.2) (fun _ => m_no) k_X4_bitsAt mm_X4_bitsAt
theorem mm_X4_howMany : AllS (fun e => FMono e.2) k_X4_howMany := ⟨m_push 0 1, m_storeI 3 1, m_push 0 1, m_storeI 4 2, m_loadI 4 2, m_loadR 0 1, m_getI 3 4, m_icmp cGe cLt 37, m_loadI 3 1, m_loadR 0 1, m_loadI 4 2, m_loadR 1 1, m_getR 1 0 (fun i => 2), m_callV 3 38 2, m_loadI 2 1, m_shr, m_push 1 1, m_and, m_add, m_storeI 3 1, m_iinc 4 1, m_goto 5, m_loadI 3 1, m_iret, trivial⟩
theorem mo_X4_howMany : ∀ pc, FMono (tabF k_X4_howMany pc) := tabF_all (P := fun e => FMono e.2) (fun _ => m_no) k_X4_howMany mm_X4_howMany
theorem mm_X5_under : AllS (fun e => FMono e.2) k_X5_under := ⟨m_loadI 1 1, m_callS 60 1, m_if0 cEq cNe 35, m_loadI 2 1, m_push (-1) 1, m_icmp cEq cNe 19, m_loadI 2 1, m_callS 60 1, m_if0 cEq cNe 35, m_loadR 0 1, m_getR 4 0 (fun i => 1), m_loadI 1 1, m_loadI 2 1, m_callV 1 7 2, m_if0 cEq cNe 35, m_push 1 1, m_goto 36, m_push 0 1, m_zret, trivial⟩
theorem mo_X5_under : ∀ pc, FMono (tabF k_X5_under pc) := tabF_all (P := fun e => FMono e.2) (fun _ => m_no) k_X5_under mm_X5_under
theorem mm_X5_row : AllS (fun e => FMono e.2) k_X5_row := ⟨m_loadI 1 1, m_if0 cLt cGe 18, m_loadI 1 1, m_push 2 1, m_icmp cGe cLt 18, m_loadR 0 1, m_getI 4 5, m_push 24 2, m_icmp cLt cGe 20, m_push (-1) 1, m_iret, m_loadR 0 1, m_getR 4 3 (fun i => 12), m_loadR 0 1, m_getI 4 5, m_aald, m_loadI 1 1, m_callV 3 33 1, m_loadR 0 1, m_dup, m_getI 4 5, m_push 1 1, m_add, m_putI 4 5, m_loadR 0 1, m_getI 4 5, m_push 1 1, m_sub, m_iret, trivial⟩
theorem mo_X5_row : ∀ pc, FMono (tabF k_X5_row pc) := tabF_all (P := fun e => FMono e.2) (fun _ => m_no) k_X5_row mm_X5_row
theorem mm_X5_put : AllS (fun e => FMono e.2) k_X5_put := ⟨m_loadR 0 1, m_loadI 1 1, m_callV 4 63 1, m_if0 cEq cNe 36, m_loadI 2 1, m_callS 61 1, m_if0 cEq cNe 36, m_loadI 3 1, m_callS 60 1, m_if0 cEq cNe 36, m_loadR 0 1, m_getR 4 3 (fun i => 12), m_loadI 1 1, m_aald, m_loadI 2 1, m_loadI 3 1, m_callV 3 34 2, m_goto 37, m_push (-1) 1, m_iret, trivial⟩
theorem mo_X5_put : ∀ pc, FMono (tabF k_X5_put pc) := tabF_all (P := fun e => FMono e.2) (fun _ => m_no) k_X5_put mm_X5_put
theorem mm_X5_take : AllS (fun e => FMono e.2) k_X5_take := ⟨m_loadR 0 1, m_loadI 1 1, m_callV 4 63 1, m_if0 cEq cNe 21, m_loadR 0 1, m_getR 4 3 (fun i => 12), m_loadI 1 1, m_aald, m_getI 3 1, m_loadI 2 1, m_icmp cNe cEq 23, m_push 0 1, m_zret, m_loadR 0 1, m_getR 4 3 (fun i => 12), m_loadI 1 1, m_aald, m_loadI 2 1, m_putZ 3 1, m_push 1 1, m_zret, trivial⟩
theorem mo_X5_take : ∀ pc, FMono (tabF k_X5_take pc) := tabF_all (P := fun e => FMono e.2) (fun _ => m_no) k_X5_take mm_X5_take
theorem mm_X5_gap : AllS (fun e => FMono e.2) k_X5_gap := ⟨m_loadI 1 1, m_callS 61 1, m_if0 cNe cEq 9, m_push 0 1, m_zret, m_loadR 0 1, m_getR 4 1 (fun i => 4), m_loadI 1 1, m_putI 2 0, m_push 1 1, m_zret, trivial⟩
theorem mo_X5_gap : ∀ pc, FMono (tabF k_X5_gap pc) := tabF_all (P := fun e => FMono e.2) (fun _ => m_no) k_X5_gap mm_X5_gap
theorem mm_X5_span : AllS (fun e => FMono e.2) k_X5_span := ⟨m_loadI 1 1, m_callS 61 1, m_if0 cNe cEq 9, m_push 0 1, m_zret, m_loadR 0 1, m_getR 4 1 (fun i => 4), m_loadI 1 1, m_putI 2 1, m_push 1 1, m_zret, trivial⟩
theorem mo_X5_span : ∀ pc, FMono (tabF k_X5_span pc) := tabF_all (P := fun e => FMono e.2) (fun _ => m_no) k_X5_span mm_X5_span
theorem mm_X5_count : AllS (fun e => FMono e.2) k_X5_count := ⟨m_loadI 1 1, m_loadI 2 1, m_loadI 3 1, m_loadI 4 2, m_callS 24 4, m_storeI 5 2, m_loadI 5 2, m_push (-1) 1, m_icmp cNe cEq 20, m_push (-1) 1, m_goto 26, m_loadR 0 1, m_loadI 5 2, m_callV 4 69 1, m_iret, trivial⟩
theorem mo_X5_count : ∀ pc, FMono (tabF k_X5_count pc) := tabF_all (P := fun e => FMono e.2) (fun _ => m_no) k_X5_count mm_X5_count
theorem mm_X5_matches : AllS (fun e => FMono e.2) k_X5_matches := ⟨m_loadI 2 1, m_loadI 3 1, m_loadI 4 2, m_loadI 5 2, m_callS 24 4, m_storeI 6 2, m_loadR 0 1, m_loadI 1 1, m_callV 4 63 1, m_if0 cEq cNe 25, m_loadI 6 2, m_push (-1) 1, m_icmp cNe cEq 29, m_pushL (-1) 3, m_lret, m_loadR 0 1, m_getR 4 1 (fun i => 4), m_loadI 6 2, m_callV 2 11 1, m_loadR 0 1, m_getR 4 1 (fun i => 4), m_loadR 0 1, m_getR 4 3 (fun i => 12), m_loadI 1 1, m_aald, m_callV 2 18 1, m_lret, trivial⟩
theorem mo_X5_matches : ∀ pc, FMono (tabF k_X5_matches pc) := tabF_all (P := fun e => FMono e.2) (fun _ => m_no) k_X5_matches mm_X5_matches
theorem mm_X5_match : AllS (fun e => FMono e.2) k_X5_match := ⟨m_loadI 2 1, m_loadI 3 1, m_loadI 4 2, m_loadI 5 2, m_callS 24 4, m_storeI 7 2, m_loadR 0 1, m_loadI 1 1, m_callV 4 63 1, m_if0 cEq cNe 25, m_loadI 7 2, m_push (-1) 1, m_icmp cNe cEq 27, m_push (-1) 1, m_iret, m_loadR 0 1, m_getR 4 1 (fun i => 4), m_loadI 7 2, m_callV 2 11 1, m_loadR 0 1, m_getR 4 1 (fun i => 4), m_loadR 0 1, m_getR 4 3 (fun i => 12), m_loadI 1 1, m_aald, m_loadI 6 2, m_callV 2 19 2, m_iret, trivial⟩
theorem mo_X5_match : ∀ pc, FMono (tabF k_X5_match pc) := tabF_all (P := fun e => FMono e.2) (fun _ => m_no) k_X5_match mm_X5_match
theorem mm_X5_find : AllS (fun e => FMono e.2) k_X5_find := ⟨m_loadI 1 1, m_push 1 1, m_icmp cLt cGe 21, m_loadI 1 1, m_push 24 2, m_icmp cGt cLe 21, m_loadI 2 1, m_push 1 1, m_icmp cLt cGe 21, m_loadI 2 1, m_push 4 1, m_icmp cLe cGt 23, m_push (-1) 1, m_iret, m_loadR 0 1, m_getR 4 2 (fun i => 9), m_callV 0 0 0, m_loadR 0 1, m_push 1 1, m_loadR 0 1, m_callV 4 67 0, m_loadI 1 1, m_callV 4 72 3, m_push 0 1, m_storeI 3 1, m_loadI 3 1, m_loadR 0 1, m_getR 4 2 (fun i => 9), m_callV 0 4 0, m_icmp cGe cLt 115, m_loadI 3 1, m_push 2000 3, m_icmp cGe cLt 115, m_loadR 0 1, m_getR 4 2 (fun i => 9), m_callV 0 2 0, m_if0 cNe cEq 115, m_loadR 0 1, m_getR 4 2 (fun i => 9), m_loadI 3 1, m_callV 0 5 1, m_callS 27 1, m_loadI 2 1, m_icmp cLt cGe 88, m_goto 115, m_loadR 0 1, m_loadR 0 1, m_getR 4 2 (fun i => 9), m_loadI 3 1, m_callV 0 5 1, m_loadR 0 1, m_getR 4 2 (fun i => 9), m_loadI 3 1, m_callV 0 6 1, m_loadI 1 1, m_callV 4 72 3, m_iinc 3 1, m_goto 42, m_loadR 0 1, m_getR 4 2 (fun i => 9), m_callV 0 4 0, m_iret, trivial⟩
theorem mo_X5_find : ∀ pc, FMono (tabF k_X5_find pc) := tabF_all (P := fun e => FMono e.2) (fun _ => m_no) k_X5_find mm_X5_find
theorem mm_X5_found : AllS (fun e => FMono e.2) k_X5_found := ⟨m_loadR 0 1, m_getR 4 2 (fun i => 9), m_loadI 1 1, m_callV 0 3 1, m_if0 cNe cEq 13, m_push (-1) 1, m_iret, m_loadI 2 1, m_push 4 1, m_icmp cNe cEq 30, m_loadR 0 1, m_getR 4 2 (fun i => 9), m_loadI 1 1, m_callV 0 6 1, m_callS 119 1, m_iret, m_loadI 2 1, m_push 5 1, m_icmp cNe cEq 49, m_loadR 0 1, m_getR 4 2 (fun i => 9), m_loadI 1 1, m_callV 0 5 1, m_callS 27 1, m_goto 61, m_loadR 0 1, m_getR 4 2 (fun i => 9), m_loadI 1 1, m_callV 0 5 1, m_loadI 2 1, m_callS 28 2, m_iret, trivial⟩
theorem mo_X5_found : ∀ pc, FMono (tabF k_X5_found pc) := tabF_all (P := fun e => FMono e.2) (fun _ => m_no) k_X5_found mm_X5_found
theorem mm_X5_closed : AllS (fun e => FMono e.2) k_X5_closed := ⟨m_loadR 0 1, m_getR 4 2 (fun i => 9), m_loadI 1 1, m_callV 0 3 1, m_if0 cNe cEq 13, m_push (-1) 1, m_iret, m_loadR 0 1, m_getR 4 2 (fun i => 9), m_loadI 1 1, m_callV 0 5 1, m_storeI 2 1, m_loadR 0 1, m_loadI 2 1, m_callV 4 69 1, m_storeI 3 1, m_loadR 0 1, m_loadI 2 1, m_loadI 3 1, m_callV 4 73 2, m_if0 cNe cEq 46, m_loadR 0 1, m_loadI 2 1, m_loadI 3 1, m_callV 4 74 2, m_if0 cEq cNe 50, m_push 0 1, m_goto 51, m_push 1 1, m_iret, trivial⟩
theorem mo_X5_closed : ∀ pc, FMono (tabF k_X5_closed pc) := tabF_all (P := fun e => FMono e.2) (fun _ => m_no) k_X5_closed mm_X5_closed
theorem mm_X5_best : AllS (fun e => FMono e.2) k_X5_best := ⟨m_loadR 0 1, m_push 0 1, m_callV 4 66 1, m_storeI 1 1, m_loadR 0 1, m_push 1 1, m_callV 4 66 1, m_storeI 2 1, m_push (-1) 1, m_storeI 3 1, m_push (-1) 1, m_storeI 4 2, m_push (-1) 1, m_storeI 5 2, m_push 0 1, m_storeI 6 2, m_loadI 6 2, m_loadR 0 1, m_getR 4 2 (fun i => 9), m_callV 0 4 0, m_icmp cGe cLt 110, m_loadR 0 1, m_getR 4 2 (fun i => 9), m_loadI 6 2, m_callV 0 5 1, m_storeI 7 2, m_loadI 7 2, m_callS 30 1, m_storeI 8 2, m_loadI 8 2, m_loadI 5 2, m_icmp cEq cNe 73, m_loadR 0 1, m_loadI 8 2, m_loadI 1 1, m_loadI 2 1, m_or, m_callV 4 71 2, m_loadI 8 2, m_storeI 5 2, m_loadR 0 1, m_getR 4 4 (fun i => 13), m_loadI 7 2, m_callS 29 1, m_iald, m_loadI 1 1, m_loadI 2 1, m_callS 75 3, m_storeI 9 2, m_loadI 9 2, m_loadI 4 2, m_icmp cLe cGt 104, m_loadI 9 2, m_storeI 4 2, m_loadI 6 2, m_storeI 3 1, m_iinc 6 1, m_goto 23, m_loadI 3 1, m_iret, trivial⟩
theorem mo_X5_best : ∀ pc, FMono (tabF k_X5_best pc) := tabF_all (P := fun e => FMono e.2) (fun _ => m_no) k_X5_best mm_X5_best
theorem mm_X5_expected : AllS (fun e => FMono e.2) k_X5_expected := ⟨m_loadI 1 1, m_callS 60 1, m_if0 cEq cNe 38, m_loadI 2 1, m_callS 60 1, m_if0 cEq cNe 38, m_loadR 0 1, m_getR 4 0 (fun i => 1), m_loadI 1 1, m_loadI 2 1, m_callV 1 9 2, m_if0 cNe cEq 38, m_loadR 0 1, m_getR 4 0 (fun i => 1), m_loadI 2 1, m_loadI 1 1, m_callV 1 9 2, m_if0 cEq cNe 42, m_pushL (-1) 3, m_lret, m_pushL 0 1, m_storeL 3 1, m_push 0 1, m_storeI 5 2, m_loadI 5 2, m_loadR 0 1, m_getI 4 5, m_icmp cGe cLt 111, m_loadR 0 1, m_getR 4 3 (fun i => 12), m_loadI 5 2, m_aald, m_getI 3 1, m_if0 cEq cNe 105, m_loadL 3 1, m_loadR 0 1, m_getR 4 3 (fun i => 12), m_loadI 5 2, m_aald, m_loadR 0 1, m_getR 4 0 (fun i => 1), m_loadI 1 1, m_callV 3 39 2, m_loadR 0 1, m_getR 4 3 (fun i => 12), m_loadI 5 2, m_aald, m_loadR 0 1, m_getR 4 0 (fun i => 1), m_loadI 2 1, m_callV 3 39 2, m_callS 76 2, m_ladd, m_storeL 3 1, m_iinc 5 1, m_goto 47, m_loadL 3 1, m_lret, trivial⟩
theorem mo_X5_expected : ∀ pc, FMono (tabF k_X5_expected pc) := tabF_all (P := fun e => FMono e.2) (fun _ => m_no) k_X5_expected mm_X5_expected
theorem mm_X5_share : AllS (fun e => FMono e.2) k_X5_share := ⟨m_loadI 1 1, m_loadI 2 1, m_loadI 3 1, m_loadI 4 2, m_callS 24 4, m_storeI 5 2, m_loadI 5 2, m_callS 27 1, m_push 2 1, m_icmp cGe cLt 21, m_push (-1) 1, m_iret, m_loadR 0 1, m_loadI 5 2, m_callS 30 1, m_callV 4 69 1, m_storeI 6 2, m_loadI 6 2, m_if0 cNe cEq 41, m_push 0 1, m_goto 54, m_loadR 0 1, m_loadI 5 2, m_callV 4 69 1, m_push 1000 3, m_mul, m_loadI 6 2, m_div, m_iret, trivial⟩
theorem mo_X5_share : ∀ pc, FMono (tabF k_X5_share pc) := tabF_all (P := fun e => FMono e.2) (fun _ => m_no) k_X5_share mm_X5_share
theorem mm_X5_lacking : AllS (fun e => FMono e.2) k_X5_lacking := ⟨m_loadR 0 1, m_loadI 1 1, m_loadI 2 1, m_loadI 3 1, m_loadI 4 2, m_callS 24 4, m_callV 4 70 1, m_storeI 6 2, m_push 0 1, m_storeI 7 2, m_push 0 1, m_storeI 8 2, m_loadI 8 2, m_loadR 0 1, m_getI 4 5, m_icmp cGe cLt 58, m_loadI 8 2, m_loadI 6 2, m_callS 62 2, m_if0 cEq cNe 52, m_loadI 7 2, m_loadI 5 2, m_icmp cNe cEq 49, m_loadI 8 2, m_iret, m_iinc 7 1, m_iinc 8 1, m_goto 20, m_push (-1) 1, m_iret, trivial⟩
theorem mo_X5_lacking : ∀ pc, FMono (tabF k_X5_lacking pc) := tabF_all (P := fun e => FMono e.2) (fun _ => m_no) k_X5_lacking mm_X5_lacking
theorem mm_X5_sure : AllS (fun e => FMono e.2) k_X5_sure := ⟨m_loadI 2 1, m_loadI 3 1, m_loadI 4 2, m_loadI 5 2, m_callS 24 4, m_storeI 6 2, m_loadR 0 1, m_loadI 1 1, m_callV 4 63 1, m_if0 cEq cNe 32, m_loadI 1 1, m_loadR 0 1, m_loadI 6 2, m_callV 4 70 1, m_callS 62 2, m_if0 cNe cEq 34, m_push (-1) 1, m_iret, m_loadR 0 1, m_getR 4 1 (fun i => 4), m_loadI 6 2, m_callS 30 1, m_callV 2 11 1, m_push 9999 3, m_loadR 0 1, m_getR 4 1 (fun i => 4), m_loadR 0 1, m_getR 4 3 (fun i => 12), m_loadI 1 1, m_aald, m_callV 2 13 1, m_loadR 0 1, m_getR 4 1 (fun i => 4), m_getI 2 0, m_add, m_callS 121 2, m_iret, trivial⟩
theorem mo_X5_sure : ∀ pc, FMono (tabF k_X5_sure pc) := tabF_all (P := fun e => FMono e.2) (fun _ => m_no) k_X5_sure mm_X5_sure
theorem mm_X5_look : AllS (fun e => FMono e.2) k_X5_look := ⟨m_loadR 0 1, m_loadI 1 1, m_callV 4 63 1, m_if0 cNe cEq 10, m_push (-1) 1, m_iret, m_loadI 2 1, m_push (-1) 1, m_icmp cNe cEq 26, m_loadR 0 1, m_getR 4 3 (fun i => 12), m_loadI 1 1, m_aald, m_loadI 3 1, m_callS 64 2, m_iret, m_loadI 3 1, m_lsw2 0 1 52 63 74, m_loadR 0 1, m_getR 4 3 (fun i => 12), m_loadI 1 1, m_aald, m_loadI 2 1, m_callV 3 36 1, m_iret, m_loadR 0 1, m_getR 4 3 (fun i => 12), m_loadI 1 1, m_aald, m_loadI 2 1, m_callV 3 37 1, m_iret, m_push (-1) 1, m_iret, trivial⟩
theorem mo_X5_look : ∀ pc, FMono (tabF k_X5_look pc) := tabF_all (P := fun e => FMono e.2) (fun _ => m_no) k_X5_look mm_X5_look
theorem mm_X5_isUnder : AllS (fun e => FMono e.2) k_X5_isUnder := ⟨m_loadI 1 1, m_callS 60 1, m_if0 cEq cNe 14, m_loadI 2 1, m_callS 60 1, m_if0 cNe cEq 16, m_push (-1) 1, m_iret, m_loadI 1 1, m_loadI 2 1, m_icmp cEq cNe 37, m_loadR 0 1, m_getR 4 0 (fun i => 1), m_loadI 1 1, m_loadI 2 1, m_callV 1 9 2, m_if0 cEq cNe 37, m_push 1 1, m_goto 38, m_push 0 1, m_iret, trivial⟩
theorem mo_X5_isUnder : ∀ pc, FMono (tabF k_X5_isUnder pc) := tabF_all (P := fun e => FMono e.2) (fun _ => m_no) k_X5_isUnder mm_X5_isUnder
theorem mm_X5_tell : AllS (fun e => FMono e.2) k_X5_tell := ⟨m_loadI 1 1, m_tsw 0 5 [40, 45, 53, 61, 69, 77] 82, m_loadR 0 1, m_getI 4 5, m_iret, m_loadR 0 1, m_callV 4 67 0, m_callS 119 1, m_iret, m_loadR 0 1, m_getR 4 1 (fun i => 4), m_getI 2 0, m_iret, m_loadR 0 1, m_getR 4 1 (fun i => 4), m_getI 2 1, m_iret, m_loadR 0 1, m_getR 4 2 (fun i => 9), m_callV 0 4 0, m_iret, m_loadR 0 1, m_callV 4 65 0, m_iret, m_push (-1) 1, m_iret, trivial⟩
theorem mo_X5_tell : ∀ pc, FMono (tabF k_X5_tell pc) := tabF_all (P := fun e => FMono e.2) (fun _ => m_no) k_X5_tell mm_X5_tell
theorem mm_X5_isKind : AllS (fun e => FMono e.2) k_X5_isKind := ⟨m_loadI 0 1, m_if0 cLt cGe 14, m_loadI 0 1, m_push 16 2, m_icmp cGe cLt 14, m_push 1 1, m_goto 15, m_push 0 1, m_zret, trivial⟩
theorem mo_X5_isKind : ∀ pc, FMono (tabF k_X5_isKind pc) := tabF_all (P := fun e => FMono e.2) (fun _ => m_no) k_X5_isKind mm_X5_isKind
theorem mm_X5_isTick : AllS (fun e => FMono e.2) k_X5_isTick := ⟨m_loadI 0 1, m_if0 cLt cGe 15, m_loadI 0 1, m_push 9999 3, m_icmp cGt cLe 15, m_push 1 1, m_goto 16, m_push 0 1, m_zret, trivial⟩
theorem mo_X5_isTick : ∀ pc, FMono (tabF k_X5_isTick pc) := tabF_all (P := fun e => FMono e.2) (fun _ => m_no) k_X5_isTick mm_X5_isTick
theorem mm_X5_isAmong : AllS (fun e => FMono e.2) k_X5_isAmong := ⟨m_loadI 1 1, m_loadI 0 1, m_shr, m_push 1 1, m_and, m_if0 cEq cNe 12, m_push 1 1, m_goto 13, m_push 0 1, m_zret, trivial⟩
theorem mo_X5_isAmong : ∀ pc, FMono (tabF k_X5_isAmong pc) := tabF_all (P := fun e => FMono e.2) (fun _ => m_no) k_X5_isAmong mm_X5_isAmong
theorem mm_X5_isRow : AllS (fun e => FMono e.2) k_X5_isRow := ⟨m_loadI 1 1, m_if0 cLt cGe 16, m_loadI 1 1, m_loadR 0 1, m_getI 4 5, m_icmp cGe cLt 16, m_push 1 1, m_goto 17, m_push 0 1, m_zret, trivial⟩
theorem mo_X5_isRow : ∀ pc, FMono (tabF k_X5_isRow pc) := tabF_all (P := fun e => FMono e.2) (fun _ => m_no) k_X5_isRow mm_X5_isRow
theorem mm_X5_lookAtRow : AllS (fun e => FMono e.2) k_X5_lookAtRow := ⟨m_loadI 1 1, m_tsw 0 2 [28, 33, 46] 51, m_loadR 0 1, m_getI 3 0, m_iret, m_loadR 0 1, m_getI 3 1, m_if0 cEq cNe 44, m_push 1 1, m_goto 45, m_push 0 1, m_iret, m_loadR 0 1, m_callV 3 35 0, m_iret, m_push (-1) 1, m_iret, trivial⟩
theorem mo_X5_lookAtRow : ∀ pc, FMono (tabF k_X5_lookAtRow pc) := tabF_all (P := fun e => FMono e.2) (fun _ => m_no) k_X5_lookAtRow mm_X5_lookAtRow
theorem mm_X5_happeningsInAll : AllS (fun e => FMono e.2) k_X5_happeningsInAll := ⟨m_push 0 1, m_storeI 1 1, m_push 0 1, m_storeI 2 1, m_loadI 2 1, m_loadR 0 1, m_getI 4 5, m_icmp cGe cLt 30, m_loadI 1 1, m_loadR 0 1, m_getR 4 3 (fun i => 12), m_loadI 2 1, m_aald, m_callV 3 35 0, m_add, m_storeI 1 1, m_iinc 2 1, m_goto 4, m_loadI 1 1, m_iret, trivial⟩
theorem mo_X5_happeningsInAll : ∀ pc, FMono (tabF k_X5_happeningsInAll pc) := tabF_all (P := fun e => FMono e.2) (fun _ => m_no) k_X5_happeningsInAll mm_X5_happeningsInAll
theorem mm_X5_rowsInOf : AllS (fun e => FMono e.2) k_X5_rowsInOf := ⟨m_push 0 1, m_storeI 2 1, m_push 0 1, m_storeI 3 1, m_loadI 3 1, m_loadR 0 1, m_getI 4 5, m_icmp cGe cLt 49, m_loadR 0 1, m_getR 4 3 (fun i => 12), m_loadI 3 1, m_aald, m_getI 3 1, m_if0 cEq cNe 43, m_loadR 0 1, m_getR 4 3 (fun i => 12), m_loadI 3 1, m_aald, m_getI 3 0, m_loadI 1 1, m_icmp cNe cEq 43, m_loadI 2 1, m_push 1 1, m_loadI 3 1, m_shl, m_or, m_storeI 2 1, m_iinc 3 1, m_goto 4, m_loadI 2 1, m_iret, trivial⟩
theorem mo_X5_rowsInOf : ∀ pc, FMono (tabF k_X5_rowsInOf pc) := tabF_all (P := fun e => FMono e.2) (fun _ => m_no) k_X5_rowsInOf mm_X5_rowsInOf
theorem mm_X5_rowsIn : AllS (fun e => FMono e.2) k_X5_rowsIn := ⟨m_loadR 0 1, m_push 0 1, m_callV 4 66 1, m_loadR 0 1, m_push 1 1, m_callV 4 66 1, m_or, m_iret, trivial⟩
theorem mo_X5_rowsIn : ∀ pc, FMono (tabF k_X5_rowsIn pc) := tabF_all (P := fun e => FMono e.2) (fun _ => m_no) k_X5_rowsIn mm_X5_rowsIn
theorem mm_X5_rowsWith : AllS (fun e => FMono e.2) k_X5_rowsWith := ⟨m_loadR 0 1, m_getR 4 1 (fun i => 4), m_loadI 1 1, m_callV 2 11 1, m_push 0 1, m_storeI 2 1, m_push 0 1, m_storeI 3 1, m_loadI 3 1, m_loadR 0 1, m_getI 4 5, m_icmp cGe cLt 60, m_loadR 0 1, m_getR 4 3 (fun i => 12), m_loadI 3 1, m_aald, m_getI 3 1, m_if0 cEq cNe 54, m_loadR 0 1, m_getR 4 1 (fun i => 4), m_loadR 0 1, m_getR 4 3 (fun i => 12), m_loadI 3 1, m_aald, m_callV 2 12 1, m_if0 cEq cNe 54, m_loadI 2 1, m_push 1 1, m_loadI 3 1, m_shl, m_or, m_storeI 2 1, m_iinc 3 1, m_goto 12, m_loadI 2 1, m_iret, trivial⟩
theorem mo_X5_rowsWith : ∀ pc, FMono (tabF k_X5_rowsWith pc) := tabF_all (P := fun e => FMono e.2) (fun _ => m_no) k_X5_rowsWith mm_X5_rowsWith
theorem mm_X5_countOf : AllS (fun e => FMono e.2) k_X5_countOf := ⟨m_loadR 0 1, m_loadI 1 1, m_callV 4 68 1, m_callS 119 1, m_iret, trivial⟩
theorem mo_X5_countOf : ∀ pc, FMono (tabF k_X5_countOf pc) := tabF_all (P := fun e => FMono e.2) (fun _ => m_no) k_X5_countOf mm_X5_countOf
theorem mm_X5_rowsLacking : AllS (fun e => FMono e.2) k_X5_rowsLacking := ⟨m_loadI 1 1, m_callS 27 1, m_push 2 1, m_icmp cGe cLt 12, m_push 0 1, m_goto 28, m_loadR 0 1, m_loadI 1 1, m_callS 30 1, m_callV 4 68 1, m_loadR 0 1, m_loadI 1 1, m_callV 4 68 1, m_push (-1) 1, m_xor, m_and, m_iret, trivial⟩
theorem mo_X5_rowsLacking : ∀ pc, FMono (tabF k_X5_rowsLacking pc) := tabF_all (P := fun e => FMono e.2) (fun _ => m_no) k_X5_rowsLacking mm_X5_rowsLacking
theorem mm_X5_gatherRowsBehind : AllS (fun e => FMono e.2) k_X5_gatherRowsBehind := ⟨m_loadR 0 1, m_getR 4 1 (fun i => 4), m_loadI 1 1, m_callV 2 11 1, m_push 0 1, m_storeI 3 1, m_loadI 3 1, m_push 16 2, m_icmp cGe cLt 29, m_loadR 0 1, m_getR 4 4 (fun i => 13), m_loadI 3 1, m_push 0 1, m_iast, m_iinc 3 1, m_goto 10, m_push 0 1, m_storeI 3 1, m_loadI 3 1, m_loadR 0 1, m_getI 4 5, m_icmp cGe cLt 107, m_loadI 3 1, m_loadI 2 1, m_callS 62 2, m_if0 cEq cNe 63, m_loadR 0 1, m_getR 4 1 (fun i => 4), m_loadR 0 1, m_getR 4 3 (fun i => 12), m_loadI 3 1, m_aald, m_callV 2 14 1, m_goto 64, m_push 0 1, m_storeI 4 2, m_push 0 1, m_storeI 5 2, m_loadI 5 2, m_push 16 2, m_icmp cGe cLt 101, m_loadR 0 1, m_getR 4 4 (fun i => 13), m_loadI 5 2, m_dup2, m_iald, m_loadI 4 2, m_loadI 5 2, m_shr, m_push 1 1, m_and, m_loadI 3 1, m_shl, m_or, m_iast, m_iinc 5 1, m_goto 69, m_iinc 3 1, m_goto 31, m_vret, trivial⟩
theorem mo_X5_gatherRowsBehind : ∀ pc, FMono (tabF k_X5_gatherRowsBehind pc) := tabF_all (P := fun e => FMono e.2) (fun _ => m_no) k_X5_gatherRowsBehind mm_X5_gatherRowsBehind
theorem mm_X5_findLonger : AllS (fun e => FMono e.2) k_X5_findLonger := ⟨m_loadR 0 1, m_loadI 1 1, m_loadI 2 1, m_callV 4 71 2, m_push 0 1, m_storeI 4 2, m_loadI 4 2, m_push 16 2, m_icmp cGe cLt 57, m_loadR 0 1, m_getR 4 4 (fun i => 13), m_loadI 4 2, m_iald, m_callS 119 1, m_loadI 3 1, m_icmp cLt cGe 51, m_loadR 0 1, m_getR 4 2 (fun i => 9), m_loadI 1 1, m_push 0 1, m_loadI 4 2, m_callS 31 3, m_loadR 0 1, m_getR 4 4 (fun i => 13), m_loadI 4 2, m_iald, m_callV 0 1 2, m_iinc 4 1, m_goto 9, m_vret, trivial⟩
theorem mo_X5_findLonger : ∀ pc, FMono (tabF k_X5_findLonger pc) := tabF_all (P := fun e => FMono e.2) (fun _ => m_no) k_X5_findLonger mm_X5_findLonger
theorem mm_X5_longerSays : AllS (fun e => FMono e.2) k_X5_longerSays := ⟨m_loadI 1 1, m_callS 27 1, m_storeI 3 1, m_push 0 1, m_storeI 4 2, m_loadI 3 1, m_push 4 1, m_icmp cGe cLt 59, m_loadI 4 2, m_loadI 3 1, m_icmp cGt cLe 59, m_push 0 1, m_storeI 5 2, m_loadI 5 2, m_push 16 2, m_icmp cGe cLt 53, m_loadR 0 1, m_loadI 1 1, m_loadI 4 2, m_loadI 5 2, m_callS 31 3, m_callV 4 69 1, m_loadI 2 1, m_icmp cNe cEq 47, m_push 1 1, m_zret, m_iinc 5 1, m_goto 22, m_iinc 4 1, m_goto 8, m_push 0 1, m_zret, trivial⟩
theorem mo_X5_longerSays : ∀ pc, FMono (tabF k_X5_longerSays pc) := tabF_all (P := fun e => FMono e.2) (fun _ => m_no) k_X5_longerSays mm_X5_longerSays
theorem mm_X5_narrowerSays : AllS (fun e => FMono e.2) k_X5_narrowerSays := ⟨m_loadI 1 1, m_callS 27 1, m_storeI 3 1, m_push 0 1, m_storeI 4 2, m_loadI 4 2, m_loadI 3 1, m_icmp cGe cLt 76, m_loadI 1 1, m_loadI 4 2, m_callS 28 2, m_storeI 5 2, m_push 0 1, m_storeI 6 2, m_loadI 6 2, m_push 16 2, m_icmp cGe cLt 70, m_loadR 0 1, m_getR 4 0 (fun i => 1), m_loadI 6 2, m_loadI 5 2, m_callV 1 10 2, m_if0 cEq cNe 64, m_loadR 0 1, m_loadI 1 1, m_loadI 4 2, m_loadI 6 2, m_callS 32 3, m_callV 4 69 1, m_loadI 2 1, m_icmp cNe cEq 64, m_push 1 1, m_zret, m_iinc 6 1, m_goto 25, m_iinc 4 1, m_goto 8, m_push 0 1, m_zret, trivial⟩
theorem mo_X5_narrowerSays : ∀ pc, FMono (tabF k_X5_narrowerSays pc) := tabF_all (P := fun e => FMono e.2) (fun _ => m_no) k_X5_narrowerSays mm_X5_narrowerSays
theorem mm_X5_howFarApart : AllS (fun e => FMono e.2) k_X5_howFarApart := ⟨m_loadI 0 1, m_loadI 1 1, m_and, m_callS 119 1, m_storeI 3 1, m_loadI 0 1, m_loadI 2 1, m_and, m_callS 119 1, m_storeI 4 2, m_loadI 3 1, m_loadI 2 1, m_callS 119 1, m_mul, m_loadI 4 2, m_loadI 1 1, m_callS 119 1, m_mul, m_sub, m_callS 120 1, m_iret, trivial⟩
theorem mo_X5_howFarApart : ∀ pc, FMono (tabF k_X5_howFarApart pc) := tabF_all (P := fun e => FMono e.2) (fun _ => m_no) k_X5_howFarApart mm_X5_howFarApart
theorem mm_X5_chanceAhead : AllS (fun e => FMono e.2) k_X5_chanceAhead := ⟨m_loadI 0 1, m_loadI 0 1, m_loadI 1 1, m_add, m_callS 77 2, m_storeL 2 1, m_loadL 2 1, m_pushL 1 1, m_lcmp, m_if0 cGt cLe 18, m_pushL 0 1, m_goto 27, m_pushL (1000000) 3, m_pushL (1000000) 3, m_loadL 2 1, m_ldiv, m_lsub, m_lret, trivial⟩
theorem mo_X5_chanceAhead : ∀ pc, FMono (tabF k_X5_chanceAhead pc) := tabF_all (P := fun e => FMono e.2) (fun _ => m_no) k_X5_chanceAhead mm_X5_chanceAhead
theorem mm_X5_waysToChoose : AllS (fun e => FMono e.2) k_X5_waysToChoose := ⟨m_pushL 1 1, m_storeL 2 1, m_push 1 1, m_storeI 4 2, m_loadI 4 2, m_loadI 0 1, m_icmp cGt cLe 31, m_loadL 2 1, m_loadI 1 1, m_loadI 0 1, m_sub, m_loadI 4 2, m_add, m_i2l, m_lmul, m_loadI 4 2, m_i2l, m_ldiv, m_storeL 2 1, m_iinc 4 1, m_goto 5, m_loadL 2 1, m_lret, trivial⟩
theorem mo_X5_waysToChoose : ∀ pc, FMono (tabF k_X5_waysToChoose pc) := tabF_all (P := fun e => FMono e.2) (fun _ => m_no) k_X5_waysToChoose mm_X5_waysToChoose
theorem mm_X6_lies : AllS (fun e => FMono e.2) k_X6_lies := ⟨m_loadI 0 1, m_loadI 1 1, m_icmp cLt cGe 14, m_loadI 0 1, m_loadI 2 1, m_icmp cGt cLe 14, m_push 1 1, m_goto 15, m_push 0 1, m_zret, trivial⟩
theorem mo_X6_lies : ∀ pc, FMono (tabF k_X6_lies pc) := tabF_all (P := fun e => FMono e.2) (fun _ => m_no) k_X6_lies mm_X6_lies
theorem mm_X6_isKind : AllS (fun e => FMono e.2) k_X6_isKind := ⟨m_loadI 0 1, m_push 0 1, m_push 15 2, m_callS 78 3, m_zret, trivial⟩
theorem mo_X6_isKind : ∀ pc, FMono (tabF k_X6_isKind pc) := tabF_all (P := fun e => FMono e.2) (fun _ => m_no) k_X6_isKind mm_X6_isKind
theorem mm_X6_isRow : AllS (fun e => FMono e.2) k_X6_isRow := ⟨m_loadI 1 1, m_push 0 1, m_loadR 0 1, m_getI 5 0, m_push 1 1, m_sub, m_callS 78 3, m_zret, trivial⟩
theorem mo_X6_isRow : ∀ pc, FMono (tabF k_X6_isRow pc) := tabF_all (P := fun e => FMono e.2) (fun _ => m_no) k_X6_isRow mm_X6_isRow
theorem mm_X6_isOf : AllS (fun e => FMono e.2) k_X6_isOf := ⟨m_loadI 1 1, m_storeI 3 1, m_loadI 3 1, m_push (-1) 1, m_icmp cEq cNe 22, m_loadI 3 1, m_loadI 2 1, m_icmp cEq cNe 22, m_loadR 0 1, m_getR 5 4 (fun i => 87), m_loadI 3 1, m_iald, m_storeI 3 1, m_goto 2, m_loadI 3 1, m_loadI 2 1, m_icmp cNe cEq 31, m_push 1 1, m_goto 32, m_push 0 1, m_zret, trivial⟩
theorem mo_X6_isOf : ∀ pc, FMono (tabF k_X6_isOf pc) := tabF_all (P := fun e => FMono e.2) (fun _ => m_no) k_X6_isOf mm_X6_isOf
theorem mm_X6_under : AllS (fun e => FMono e.2) k_X6_under := ⟨m_loadI 1 1, m_callS 79 1, m_if0 cEq cNe 28, m_loadI 2 1, m_push (-1) 1, m_icmp cEq cNe 30, m_loadI 2 1, m_callS 79 1, m_if0 cEq cNe 28, m_loadR 0 1, m_loadI 2 1, m_loadI 1 1, m_callV 5 81 2, m_if0 cEq cNe 30, m_push 0 1, m_zret, m_loadR 0 1, m_getR 5 4 (fun i => 87), m_loadI 1 1, m_loadI 2 1, m_iast, m_push 1 1, m_zret, trivial⟩
theorem mo_X6_under : ∀ pc, FMono (tabF k_X6_under pc) := tabF_all (P := fun e => FMono e.2) (fun _ => m_no) k_X6_under mm_X6_under
theorem mm_X6_isUnder : AllS (fun e => FMono e.2) k_X6_isUnder := ⟨m_loadI 1 1, m_callS 79 1, m_if0 cEq cNe 14, m_loadI 2 1, m_callS 79 1, m_if0 cNe cEq 18, m_push (-1) 1, m_goto 37, m_loadI 1 1, m_loadI 2 1, m_icmp cEq cNe 36, m_loadR 0 1, m_loadI 1 1, m_loadI 2 1, m_callV 5 81 2, m_if0 cEq cNe 36, m_push 1 1, m_goto 37, m_push 0 1, m_iret, trivial⟩
theorem mo_X6_isUnder : ∀ pc, FMono (tabF k_X6_isUnder pc) := tabF_all (P := fun e => FMono e.2) (fun _ => m_no) k_X6_isUnder mm_X6_isUnder
theorem mm_X6_row : AllS (fun e => FMono e.2) k_X6_row := ⟨m_loadI 1 1, m_push 0 1, m_push 1 1, m_callS 78 3, m_if0 cEq cNe 18, m_loadR 0 1, m_getI 5 0, m_push 24 2, m_icmp cNe cEq 20, m_push (-1) 1, m_iret, m_loadR 0 1, m_getR 5 5 (fun i => 88), m_loadR 0 1, m_getI 5 0, m_loadI 1 1, m_iast, m_loadR 0 1, m_dup, m_getI 5 0, m_push 1 1, m_add, m_putI 5 0, m_loadR 0 1, m_getI 5 0, m_push 1 1, m_sub, m_iret, trivial⟩
theorem mo_X6_row : ∀ pc, FMono (tabF k_X6_row pc) := tabF_all (P := fun e => FMono e.2) (fun _ => m_no) k_X6_row mm_X6_row
theorem mm_X6_put : AllS (fun e => FMono e.2) k_X6_put := ⟨m_loadR 0 1, m_loadI 1 1, m_callV 5 80 1, m_if0 cEq cNe 37, m_loadI 2 1, m_push 0 1, m_push 9999 3, m_callS 78 3, m_if0 cEq cNe 37, m_loadI 3 1, m_callS 79 1, m_if0 cEq cNe 37, m_loadR 0 1, m_getR 5 7 (fun i => 90), m_loadI 1 1, m_iald, m_push 30 2, m_icmp cNe cEq 39, m_push (-1) 1, m_iret, m_push 30 2, m_loadI 1 1, m_mul, m_loadR 0 1, m_getR 5 7 (fun i => 90), m_loadI 1 1, m_iald, m_add, m_storeI 4 2, m_loadR 0 1, m_getR 5 7 (fun i => 90), m_loadI 1 1, m_iald, m_if0 cLe cGt 76, m_loadI 2 1, m_loadR 0 1, m_getR 5 8 (fun i => 91), m_loadI 4 2, m_push 1 1, m_sub, m_iald, m_icmp cGe cLt 76, m_push (-1) 1, m_iret, m_loadR 0 1, m_getR 5 8 (fun i => 91), m_loadI 4 2, m_loadI 2 1, m_iast, m_loadR 0 1, m_getR 5 9 (fun i => 92), m_loadI 4 2, m_loadI 3 1, m_iast, m_loadR 0 1, m_getR 5 7 (fun i => 90), m_loadI 1 1, m_dup2, m_iald, m_push 1 1, m_add, m_iast, m_loadR 0 1, m_dup, m_getI 5 1, m_push 1 1, m_add, m_putI 5 1, m_loadR 0 1, m_getR 5 7 (fun i => 90), m_loadI 1 1, m_iald, m_push 1 1, m_sub, m_iret, trivial⟩
theorem mo_X6_put : ∀ pc, FMono (tabF k_X6_put pc) := tabF_all (P := fun e => FMono e.2) (fun _ => m_no) k_X6_put mm_X6_put
theorem mm_X6_take : AllS (fun e => FMono e.2) k_X6_take := ⟨m_loadR 0 1, m_loadI 1 1, m_callV 5 80 1, m_if0 cEq cNe 18, m_loadR 0 1, m_getR 5 6 (fun i => 89), m_loadI 1 1, m_zald, m_loadI 2 1, m_icmp cEq cNe 20, m_push 0 1, m_zret, m_loadR 0 1, m_getR 5 6 (fun i => 89), m_loadI 1 1, m_loadI 2 1, m_if0 cNe cEq 33, m_push 1 1, m_goto 34, m_push 0 1, m_zast, m_push 1 1, m_zret, trivial⟩
theorem mo_X6_take : ∀ pc, FMono (tabF k_X6_take pc) := tabF_all (P := fun e => FMono e.2) (fun _ => m_no) k_X6_take mm_X6_take
theorem mm_X6_gap : AllS (fun e => FMono e.2) k_X6_gap := ⟨m_loadI 1 1, m_push 0 1, m_push 9999 3, m_callS 78 3, m_if0 cNe cEq 13, m_push 0 1, m_zret, m_loadR 0 1, m_loadI 1 1, m_putI 5 2, m_push 1 1, m_zret, trivial⟩
theorem mo_X6_gap : ∀ pc, FMono (tabF k_X6_gap pc) := tabF_all (P := fun e => FMono e.2) (fun _ => m_no) k_X6_gap mm_X6_gap
theorem mm_X6_span : AllS (fun e => FMono e.2) k_X6_span := ⟨m_loadI 1 1, m_push 0 1, m_push 9999 3, m_callS 78 3, m_if0 cNe cEq 13, m_push 0 1, m_zret, m_loadR 0 1, m_loadI 1 1, m_putI 5 3, m_push 1 1, m_zret, trivial⟩
theorem mo_X6_span : ∀ pc, FMono (tabF k_X6_span pc) := tabF_all (P := fun e => FMono e.2) (fun _ => m_no) k_X6_span mm_X6_span
theorem mm_X6_takes : AllS (fun e => FMono e.2) k_X6_takes := ⟨m_loadR 0 1, m_getR 5 15 (fun i => 96), m_push 0 1, m_loadI 1 1, m_iast, m_loadR 0 1, m_getR 5 15 (fun i => 96), m_push 1 1, m_loadI 2 1, m_iast, m_loadR 0 1, m_getR 5 15 (fun i => 96), m_push 2 1, m_loadI 3 1, m_iast, m_loadR 0 1, m_getR 5 15 (fun i => 96), m_push 3 1, m_loadI 4 2, m_iast, m_loadR 0 1, m_push 0 1, m_putI 5 14, m_loadR 0 1, m_getI 5 14, m_push 4 1, m_icmp cGe cLt 85, m_loadR 0 1, m_getR 5 15 (fun i => 96), m_loadR 0 1, m_getI 5 14, m_iald, m_push (-1) 1, m_icmp cEq cNe 85, m_loadR 0 1, m_getR 5 15 (fun i => 96), m_loadR 0 1, m_getI 5 14, m_iald, m_callS 79 1, m_if0 cNe cEq 72, m_push 0 1, m_zret, m_loadR 0 1, m_dup, m_getI 5 14, m_push 1 1, m_add, m_putI 5 14, m_goto 34, m_loadR 0 1, m_getI 5 14, m_storeI 5 2, m_loadI 5 2, m_push 4 1, m_icmp cGe cLt 116, m_loadR 0 1, m_getR 5 15 (fun i => 96), m_loadI 5 2, m_iald, m_push (-1) 1, m_icmp cEq cNe 110, m_push 0 1, m_zret, m_iinc 5 1, m_goto 91, m_loadR 0 1, m_getI 5 14, m_if0 cLe cGt 127, m_push 1 1, m_goto 128, m_push 0 1, m_zret, trivial⟩
theorem mo_X6_takes : ∀ pc, FMono (tabF k_X6_takes pc) := tabF_all (P := fun e => FMono e.2) (fun _ => m_no) k_X6_takes mm_X6_takes
theorem mm_X6_isAt : AllS (fun e => FMono e.2) k_X6_isAt := ⟨m_loadR 0 1, m_loadR 0 1, m_getR 5 9 (fun i => 92), m_push 30 2, m_loadI 1 1, m_mul, m_loadI 2 1, m_add, m_iald, m_loadR 0 1, m_getR 5 15 (fun i => 96), m_loadI 3 1, m_iald, m_callV 5 81 2, m_zret, trivial⟩
theorem mo_X6_isAt : ∀ pc, FMono (tabF k_X6_isAt pc) := tabF_all (P := fun e => FMono e.2) (fun _ => m_no) k_X6_isAt mm_X6_isAt
theorem mm_X6_leads : AllS (fun e => FMono e.2) k_X6_leads := ⟨m_loadR 0 1, m_getR 5 8 (fun i => 91), m_push 30 2, m_loadI 1 1, m_mul, m_loadI 3 1, m_add, m_iald, m_loadR 0 1, m_getR 5 8 (fun i => 91), m_push 30 2, m_loadI 1 1, m_mul, m_loadI 2 1, m_add, m_iald, m_sub, m_loadR 0 1, m_getI 5 2, m_icmp cGt cLe 34, m_push 1 1, m_goto 35, m_push 0 1, m_zret, trivial⟩
theorem mo_X6_leads : ∀ pc, FMono (tabF k_X6_leads pc) := tabF_all (P := fun e => FMono e.2) (fun _ => m_no) k_X6_leads mm_X6_leads
theorem mm_X6_spans : AllS (fun e => FMono e.2) k_X6_spans := ⟨m_loadR 0 1, m_getR 5 8 (fun i => 91), m_push 30 2, m_loadI 1 1, m_mul, m_loadI 3 1, m_add, m_iald, m_loadR 0 1, m_getR 5 8 (fun i => 91), m_push 30 2, m_loadI 1 1, m_mul, m_loadI 2 1, m_add, m_iald, m_sub, m_loadR 0 1, m_getI 5 3, m_icmp cGt cLe 34, m_push 1 1, m_goto 35, m_push 0 1, m_zret, trivial⟩
theorem mo_X6_spans : ∀ pc, FMono (tabF k_X6_spans pc) := tabF_all (P := fun e => FMono e.2) (fun _ => m_no) k_X6_spans mm_X6_spans
theorem mm_X6_maps : AllS (fun e => FMono e.2) k_X6_maps := ⟨m_push 0 1, m_storeI 2 1, m_loadI 2 1, m_push 16 2, m_icmp cGe cLt 26, m_loadR 0 1, m_getR 5 16 (fun i => 97), m_push 16 2, m_loadI 1 1, m_mul, m_loadI 2 1, m_add, m_push 0 1, m_iast, m_iinc 2 1, m_goto 2, m_push 0 1, m_storeI 2 1, m_loadI 2 1, m_loadR 0 1, m_getR 5 7 (fun i => 90), m_loadI 1 1, m_iald, m_icmp cGe cLt 192, m_push 0 1, m_storeI 3 1, m_loadI 3 1, m_push 16 2, m_icmp cGe cLt 88, m_loadR 0 1, m_loadR 0 1, m_getR 5 9 (fun i => 92), m_push 30 2, m_loadI 1 1, m_mul, m_loadI 2 1, m_add, m_iald, m_loadI 3 1, m_callV 5 81 2, m_if0 cEq cNe 82, m_loadR 0 1, m_getR 5 16 (fun i => 97), m_push 16 2, m_loadI 1 1, m_mul, m_loadI 3 1, m_add, m_dup2, m_iald, m_push 1 1, m_loadI 2 1, m_shl, m_or, m_iast, m_iinc 3 1, m_goto 40, m_push 0 1, m_storeI 3 1, m_push 0 1, m_storeI 4 2, m_loadI 2 1, m_push 1 1, m_add, m_storeI 5 2, m_loadI 5 2, m_loadR 0 1, m_getR 5 7 (fun i => 90), m_loadI 1 1, m_iald, m_icmp cGe cLt 161, m_loadI 3 1, m_loadR 0 1, m_loadI 1 1, m_loadI 2 1, m_loadI 5 2, m_callV 5 91 3, m_if0 cEq cNe 128, m_push 1 1, m_loadI 5 2, m_shl, m_goto 129, m_push 0 1, m_or, m_storeI 3 1, m_loadI 4 2, m_loadR 0 1, m_loadI 1 1, m_loadI 2 1, m_loadI 5 2, m_callV 5 92 3, m_if0 cEq cNe 151, m_push 1 1, m_loadI 5 2, m_shl, m_goto 152, m_push 0 1, m_or, m_storeI 4 2, m_iinc 5 1, m_goto 98, m_loadR 0 1, m_getR 5 17 (fun i => 98), m_push 30 2, m_loadI 1 1, m_mul, m_loadI 2 1, m_add, m_loadI 3 1, m_iast, m_loadR 0 1, m_getR 5 18 (fun i => 99), m_push 30 2, m_loadI 1 1, m_mul, m_loadI 2 1, m_add, m_loadI 4 2, m_iast, m_iinc 2 1, m_goto 28, m_vret, trivial⟩
theorem mo_X6_maps : ∀ pc, FMono (tabF k_X6_maps pc) := tabF_all (P := fun e => FMono e.2) (fun _ => m_no) k_X6_maps mm_X6_maps
theorem mm_X6_mapsAll : AllS (fun e => FMono e.2) k_X6_mapsAll := ⟨m_push 0 1, m_storeI 1 1, m_loadI 1 1, m_loadR 0 1, m_getI 5 0, m_icmp cGe cLt 30, m_loadR 0 1, m_getR 5 6 (fun i => 89), m_loadI 1 1, m_zald, m_if0 cNe cEq 24, m_loadR 0 1, m_loadI 1 1, m_callV 5 93 1, m_iinc 1 1, m_goto 2, m_vret, trivial⟩
theorem mo_X6_mapsAll : ∀ pc, FMono (tabF k_X6_mapsAll pc) := tabF_all (P := fun e => FMono e.2) (fun _ => m_no) k_X6_mapsAll mm_X6_mapsAll
theorem mm_X6_ends : AllS (fun e => FMono e.2) k_X6_ends := ⟨m_push 1 1, m_loadI 2 1, m_shl, m_loadR 0 1, m_getR 5 16 (fun i => 97), m_push 16 2, m_loadI 1 1, m_mul, m_loadR 0 1, m_getR 5 15 (fun i => 96), m_push 0 1, m_iald, m_add, m_iald, m_and, m_storeI 4 2, m_push 1 1, m_storeI 5 2, m_loadI 5 2, m_loadI 3 1, m_icmp cGe cLt 127, m_loadI 4 2, m_if0 cEq cNe 127, m_push 0 1, m_storeI 6 2, m_push 0 1, m_storeI 7 2, m_loadI 7 2, m_loadR 0 1, m_getR 5 7 (fun i => 90), m_loadI 1 1, m_iald, m_icmp cGe cLt 87, m_loadI 4 2, m_loadI 7 2, m_shr, m_push 1 1, m_and, m_push 1 1, m_icmp cNe cEq 81, m_loadI 6 2, m_loadR 0 1, m_getR 5 17 (fun i => 98), m_push 30 2, m_loadI 1 1, m_mul, m_loadI 7 2, m_add, m_iald, m_or, m_storeI 6 2, m_iinc 7 1, m_goto 42, m_loadI 6 2, m_loadR 0 1, m_getR 5 18 (fun i => 99), m_push 30 2, m_loadI 1 1, m_mul, m_loadI 2 1, m_add, m_iald, m_and, m_loadR 0 1, m_getR 5 16 (fun i => 97), m_push 16 2, m_loadI 1 1, m_mul, m_loadR 0 1, m_getR 5 15 (fun i => 96), m_loadI 5 2, m_iald, m_add, m_iald, m_and, m_storeI 4 2, m_iinc 5 1, m_goto 25, m_loadI 4 2, m_iret, trivial⟩
theorem mo_X6_ends : ∀ pc, FMono (tabF k_X6_ends pc) := tabF_all (P := fun e => FMono e.2) (fun _ => m_no) k_X6_ends mm_X6_ends
theorem mm_X6_has : AllS (fun e => FMono e.2) k_X6_has := ⟨m_push 0 1, m_storeI 3 1, m_loadI 3 1, m_loadR 0 1, m_getR 5 7 (fun i => 90), m_loadI 1 1, m_iald, m_icmp cGe cLt 30, m_loadR 0 1, m_loadI 1 1, m_loadI 3 1, m_loadI 2 1, m_callV 5 95 3, m_if0 cEq cNe 24, m_push 1 1, m_zret, m_iinc 3 1, m_goto 2, m_push 0 1, m_zret, trivial⟩
theorem mo_X6_has : ∀ pc, FMono (tabF k_X6_has pc) := tabF_all (P := fun e => FMono e.2) (fun _ => m_no) k_X6_has mm_X6_has
theorem mm_X6_countOf : AllS (fun e => FMono e.2) k_X6_countOf := ⟨m_push 0 1, m_storeI 2 1, m_push 0 1, m_storeI 3 1, m_loadI 3 1, m_loadR 0 1, m_getI 5 0, m_icmp cGe cLt 44, m_loadI 2 1, m_loadR 0 1, m_getR 5 6 (fun i => 89), m_loadI 3 1, m_zald, m_if0 cNe cEq 35, m_loadR 0 1, m_loadI 3 1, m_loadI 1 1, m_callV 5 96 2, m_if0 cEq cNe 35, m_push 1 1, m_goto 36, m_push 0 1, m_add, m_storeI 2 1, m_iinc 3 1, m_goto 4, m_loadI 2 1, m_iret, trivial⟩
theorem mo_X6_countOf : ∀ pc, FMono (tabF k_X6_countOf pc) := tabF_all (P := fun e => FMono e.2) (fun _ => m_no) k_X6_countOf mm_X6_countOf
theorem mm_X6_count : AllS (fun e => FMono e.2) k_X6_count := ⟨m_loadR 0 1, m_loadI 1 1, m_loadI 2 1, m_loadI 3 1, m_loadI 4 2, m_callV 5 89 4, m_if0 cNe cEq 14, m_push (-1) 1, m_iret, m_loadR 0 1, m_callV 5 94 0, m_loadR 0 1, m_loadR 0 1, m_getI 5 14, m_callV 5 97 1, m_iret, trivial⟩
theorem mo_X6_count : ∀ pc, FMono (tabF k_X6_count pc) := tabF_all (P := fun e => FMono e.2) (fun _ => m_no) k_X6_count mm_X6_count
theorem mm_X6_next : AllS (fun e => FMono e.2) k_X6_next := ⟨m_loadI 2 1, m_if0 cEq cNe 8, m_push 0 1, m_goto 14, m_loadR 0 1, m_getI 5 14, m_push 1 1, m_sub, m_storeI 3 1, m_loadR 0 1, m_getR 5 19 (fun i => 100), m_push 0 1, m_loadI 2 1, m_if0 cEq cNe 28, m_push (-1) 1, m_goto 34, m_loadR 0 1, m_getR 5 19 (fun i => 100), m_push 0 1, m_iald, m_iast, m_loadI 3 1, m_if0 cLt cGe 166, m_loadR 0 1, m_getR 5 19 (fun i => 100), m_loadI 3 1, m_dup2, m_iald, m_push 1 1, m_add, m_iast, m_loadR 0 1, m_getR 5 19 (fun i => 100), m_loadI 3 1, m_iald, m_loadR 0 1, m_getR 5 7 (fun i => 90), m_loadI 1 1, m_iald, m_icmp cLt cGe 70, m_iinc 3 (-1), m_goto 35, m_loadR 0 1, m_loadI 1 1, m_loadR 0 1, m_getR 5 19 (fun i => 100), m_loadI 3 1, m_iald, m_loadI 3 1, m_callV 5 90 3, m_if0 cEq cNe 35, m_loadI 3 1, m_if0 cLe cGt 134, m_loadR 0 1, m_loadI 1 1, m_loadR 0 1, m_getR 5 19 (fun i => 100), m_loadI 3 1, m_push 1 1, m_sub, m_iald, m_loadR 0 1, m_getR 5 19 (fun i => 100), m_loadI 3 1, m_iald, m_callV 5 91 3, m_if0 cEq cNe 35, m_loadR 0 1, m_loadI 1 1, m_loadR 0 1, m_getR 5 19 (fun i => 100), m_push 0 1, m_iald, m_loadR 0 1, m_getR 5 19 (fun i => 100), m_loadI 3 1, m_iald, m_callV 5 92 3, m_if0 cNe cEq 134, m_goto 35, m_loadI 3 1, m_loadR 0 1, m_getI 5 14, m_push 1 1, m_sub, m_icmp cNe cEq 146, m_push 1 1, m_zret, m_loadR 0 1, m_getR 5 19 (fun i => 100), m_loadI 3 1, m_push 1 1, m_add, m_loadR 0 1, m_getR 5 19 (fun i => 100), m_loadI 3 1, m_iald, m_iast, m_iinc 3 1, m_goto 35, m_push 0 1, m_zret, trivial⟩
theorem mo_X6_next : ∀ pc, FMono (tabF k_X6_next pc) := tabF_all (P := fun e => FMono e.2) (fun _ => m_no) k_X6_next mm_X6_next
theorem mm_X6_matches : AllS (fun e => FMono e.2) k_X6_matches := ⟨m_loadR 0 1, m_loadI 1 1, m_callV 5 80 1, m_if0 cEq cNe 21, m_loadR 0 1, m_loadI 2 1, m_loadI 3 1, m_loadI 4 2, m_loadI 5 2, m_callV 5 89 4, m_if0 cNe cEq 25, m_pushL (-1) 3, m_lret, m_pushL 0 1, m_storeL 6 2, m_loadR 0 1, m_loadI 1 1, m_push 1 1, m_callV 5 99 2, m_storeI 8 2, m_loadI 8 2, m_if0 cEq cNe 58, m_loadL 6 2, m_pushL 1 1, m_ladd, m_storeL 6 2, m_loadR 0 1, m_loadI 1 1, m_push 0 1, m_callV 5 99 2, m_storeI 8 2, m_goto 36, m_loadL 6 2, m_lret, trivial⟩
theorem mo_X6_matches : ∀ pc, FMono (tabF k_X6_matches pc) := tabF_all (P := fun e => FMono e.2) (fun _ => m_no) k_X6_matches mm_X6_matches
theorem mm_X6_match : AllS (fun e => FMono e.2) k_X6_match := ⟨m_loadR 0 1, m_loadI 1 1, m_callV 5 80 1, m_if0 cEq cNe 45, m_loadR 0 1, m_loadI 2 1, m_loadI 3 1, m_loadI 4 2, m_loadI 5 2, m_callV 5 89 4, m_if0 cEq cNe 45, m_loadI 6 2, m_push 0 1, m_loadR 0 1, m_getI 5 14, m_push 1 1, m_sub, m_callS 78 3, m_if0 cEq cNe 45, m_loadR 0 1, m_loadI 1 1, m_push 1 1, m_callV 5 99 2, m_if0 cNe cEq 47, m_push (-1) 1, m_iret, m_loadR 0 1, m_getR 5 19 (fun i => 100), m_loadI 6 2, m_iald, m_iret, trivial⟩
theorem mo_X6_match : ∀ pc, FMono (tabF k_X6_match pc) := tabF_all (P := fun e => FMono e.2) (fun _ => m_no) k_X6_match mm_X6_match
theorem mm_X6_isThere : AllS (fun e => FMono e.2) k_X6_isThere := ⟨m_push 0 1, m_storeI 2 1, m_loadI 2 1, m_loadR 0 1, m_getI 5 0, m_icmp cGe cLt 41, m_loadR 0 1, m_getR 5 6 (fun i => 89), m_loadI 2 1, m_zald, m_if0 cNe cEq 35, m_loadR 0 1, m_getR 5 16 (fun i => 97), m_push 16 2, m_loadI 2 1, m_mul, m_loadI 1 1, m_add, m_iald, m_if0 cEq cNe 35, m_push 1 1, m_zret, m_iinc 2 1, m_goto 2, m_push 0 1, m_zret, trivial⟩
theorem mo_X6_isThere : ∀ pc, FMono (tabF k_X6_isThere pc) := tabF_all (P := fun e => FMono e.2) (fun _ => m_no) k_X6_isThere mm_X6_isThere
theorem mm_X6_keeps : AllS (fun e => FMono e.2) k_X6_keeps := ⟨m_push 0 1, m_storeI 3 1, m_loadI 3 1, m_push 4 1, m_icmp cGe cLt 41, m_loadR 0 1, m_getR 5 11 (fun i => 93), m_push 4 1, m_loadR 0 1, m_getI 5 10, m_mul, m_loadI 3 1, m_add, m_loadI 3 1, m_loadI 1 1, m_icmp cGe cLt 33, m_loadR 0 1, m_getR 5 15 (fun i => 96), m_loadI 3 1, m_iald, m_goto 34, m_push (-1) 1, m_iast, m_iinc 3 1, m_goto 2, m_loadR 0 1, m_getR 5 12 (fun i => 94), m_loadR 0 1, m_getI 5 10, m_loadI 2 1, m_iast, m_loadR 0 1, m_getR 5 13 (fun i => 95), m_loadR 0 1, m_getI 5 10, m_loadI 1 1, m_iast, m_loadR 0 1, m_dup, m_getI 5 10, m_push 1 1, m_add, m_putI 5 10, m_vret, trivial⟩
theorem mo_X6_keeps : ∀ pc, FMono (tabF k_X6_keeps pc) := tabF_all (P := fun e => FMono e.2) (fun _ => m_no) k_X6_keeps mm_X6_keeps
theorem mm_X6_find : AllS (fun e => FMono e.2) k_X6_find := ⟨m_loadI 1 1, m_push 1 1, m_push 24 2, m_callS 78 3, m_if0 cEq cNe 19, m_loadI 2 1, m_push 1 1, m_push 4 1, m_callS 78 3, m_if0 cNe cEq 21, m_push (-1) 1, m_iret, m_loadR 0 1, m_callV 5 94 0, m_loadR 0 1, m_push 0 1, m_putI 5 10, m_push 0 1, m_storeI 3 1, m_push 1 1, m_storeI 4 2, m_push 1 1, m_storeI 5 2, m_loadI 5 2, m_loadI 2 1, m_icmp cGt cLe 199, m_loadR 0 1, m_getI 5 10, m_storeI 6 2, m_loadI 3 1, m_storeI 7 2, m_loadI 7 2, m_loadI 4 2, m_icmp cGe cLt 184, m_loadR 0 1, m_getI 5 10, m_push 2000 3, m_icmp cGe cLt 184, m_push 0 1, m_storeI 8 2, m_loadI 8 2, m_loadI 5 2, m_push 1 1, m_sub, m_icmp cGe cLt 107, m_loadR 0 1, m_getR 5 15 (fun i => 96), m_loadI 8 2, m_loadR 0 1, m_getR 5 11 (fun i => 93), m_push 4 1, m_loadI 7 2, m_mul, m_loadI 8 2, m_add, m_iald, m_iast, m_iinc 8 1, m_goto 73, m_push 0 1, m_storeI 8 2, m_loadI 8 2, m_push 16 2, m_icmp cGe cLt 178, m_loadR 0 1, m_getI 5 10, m_push 2000 3, m_icmp cGe cLt 178, m_loadR 0 1, m_loadI 8 2, m_callV 5 102 1, m_if0 cNe cEq 139, m_goto 172, m_loadR 0 1, m_getR 5 15 (fun i => 96), m_loadI 5 2, m_push 1 1, m_sub, m_loadI 8 2, m_iast, m_loadR 0 1, m_loadI 5 2, m_callV 5 97 1, m_storeI 9 2, m_loadI 9 2, m_loadI 1 1, m_icmp cLt cGe 172, m_loadR 0 1, m_loadI 5 2, m_loadI 9 2, m_callV 5 103 2, m_iinc 8 1, m_goto 110, m_iinc 7 1, m_goto 53, m_loadI 6 2, m_storeI 3 1, m_loadR 0 1, m_getI 5 10, m_storeI 4 2, m_iinc 5 1, m_goto 38, m_loadR 0 1, m_getI 5 10, m_iret, trivial⟩
theorem mo_X6_find : ∀ pc, FMono (tabF k_X6_find pc) := tabF_all (P := fun e => FMono e.2) (fun _ => m_no) k_X6_find mm_X6_find
theorem mm_X6_found : AllS (fun e => FMono e.2) k_X6_found := ⟨m_loadI 1 1, m_push 0 1, m_loadR 0 1, m_getI 5 10, m_push 1 1, m_sub, m_callS 78 3, m_if0 cNe cEq 16, m_push (-1) 1, m_iret, m_loadI 2 1, m_push 0 1, m_push 3 1, m_callS 78 3, m_if0 cEq cNe 38, m_loadR 0 1, m_getR 5 11 (fun i => 93), m_push 4 1, m_loadI 1 1, m_mul, m_loadI 2 1, m_add, m_iald, m_goto 67, m_loadI 2 1, m_push 4 1, m_icmp cNe cEq 52, m_loadR 0 1, m_getR 5 12 (fun i => 94), m_loadI 1 1, m_iald, m_goto 67, m_loadI 2 1, m_push 5 1, m_icmp cNe cEq 66, m_loadR 0 1, m_getR 5 13 (fun i => 95), m_loadI 1 1, m_iald, m_goto 67, m_push (-1) 1, m_iret, trivial⟩
theorem mo_X6_found : ∀ pc, FMono (tabF k_X6_found pc) := tabF_all (P := fun e => FMono e.2) (fun _ => m_no) k_X6_found mm_X6_found
theorem mm_X6_takesFound : AllS (fun e => FMono e.2) k_X6_takesFound := ⟨m_loadR 0 1, m_loadR 0 1, m_getR 5 11 (fun i => 93), m_push 4 1, m_loadI 1 1, m_mul, m_iald, m_loadR 0 1, m_getR 5 11 (fun i => 93), m_push 4 1, m_loadI 1 1, m_mul, m_push 1 1, m_add, m_iald, m_loadR 0 1, m_getR 5 11 (fun i => 93), m_push 4 1, m_loadI 1 1, m_mul, m_push 2 1, m_add, m_iald, m_loadR 0 1, m_getR 5 11 (fun i => 93), m_push 4 1, m_loadI 1 1, m_mul, m_push 3 1, m_add, m_iald, m_callV 5 89 4, m_zret, trivial⟩
theorem mo_X6_takesFound : ∀ pc, FMono (tabF k_X6_takesFound pc) := tabF_all (P := fun e => FMono e.2) (fun _ => m_no) k_X6_takesFound mm_X6_takesFound
theorem mm_X6_closed : AllS (fun e => FMono e.2) k_X6_closed := ⟨m_loadI 1 1, m_push 0 1, m_loadR 0 1, m_getI 5 10, m_push 1 1, m_sub, m_callS 78 3, m_if0 cNe cEq 16, m_push (-1) 1, m_iret, m_loadR 0 1, m_callV 5 94 0, m_loadR 0 1, m_loadI 1 1, m_callV 5 106 1, m_storeI 2 1, m_loadR 0 1, m_getI 5 14, m_storeI 3 1, m_loadR 0 1, m_loadI 3 1, m_callV 5 97 1, m_storeI 4 2, m_push 0 1, m_storeI 5 2, m_loadI 5 2, m_loadI 3 1, m_icmp cGt cLe 147, m_loadI 3 1, m_push 4 1, m_icmp cGe cLt 147, m_push 0 1, m_storeI 6 2, m_loadI 6 2, m_push 16 2, m_icmp cGe cLt 141, m_push 0 1, m_storeI 7 2, m_loadI 7 2, m_loadI 3 1, m_icmp cGt cLe 121, m_loadR 0 1, m_getR 5 15 (fun i => 96), m_loadI 7 2, m_loadI 7 2, m_loadI 5 2, m_icmp cNe cEq 89, m_loadI 6 2, m_goto 114, m_loadR 0 1, m_getR 5 11 (fun i => 93), m_push 4 1, m_loadI 1 1, m_mul, m_loadI 7 2, m_loadI 5 2, m_icmp cGe cLt 108, m_loadI 7 2, m_goto 112, m_loadI 7 2, m_push 1 1, m_sub, m_add, m_iald, m_iast, m_iinc 7 1, m_goto 65, m_loadR 0 1, m_loadI 3 1, m_push 1 1, m_add, m_callV 5 97 1, m_loadI 4 2, m_icmp cNe cEq 135, m_push 0 1, m_iret, m_iinc 6 1, m_goto 55, m_iinc 5 1, m_goto 41, m_push 0 1, m_storeI 5 2, m_loadI 5 2, m_loadI 3 1, m_icmp cGe cLt 259, m_push 0 1, m_storeI 6 2, m_loadI 6 2, m_push 16 2, m_icmp cGe cLt 253, m_loadR 0 1, m_getR 5 4 (fun i => 87), m_loadI 6 2, m_iald, m_loadR 0 1, m_getR 5 11 (fun i => 93), m_push 4 1, m_loadI 1 1, m_mul, m_loadI 5 2, m_add, m_iald, m_icmp cEq cNe 190, m_goto 247, m_push 0 1, m_storeI 7 2, m_loadI 7 2, m_loadI 3 1, m_icmp cGe cLt 235, m_loadR 0 1, m_getR 5 15 (fun i => 96), m_loadI 7 2, m_loadI 7 2, m_loadI 5 2, m_icmp cNe cEq 217, m_loadI 6 2, m_goto 228, m_loadR 0 1, m_getR 5 11 (fun i => 93), m_push 4 1, m_loadI 1 1, m_mul, m_loadI 7 2, m_add, m_iald, m_iast, m_iinc 7 1, m_goto 193, m_loadR 0 1, m_loadI 3 1, m_callV 5 97 1, m_loadI 4 2, m_icmp cNe cEq 247, m_push 0 1, m_iret, m_iinc 6 1, m_goto 159, m_iinc 5 1, m_goto 150, m_push 1 1, m_iret, trivial⟩
theorem mo_X6_closed : ∀ pc, FMono (tabF k_X6_closed pc) := tabF_all (P := fun e => FMono e.2) (fun _ => m_no) k_X6_closed mm_X6_closed
theorem mm_X6_inHeap : AllS (fun e => FMono e.2) k_X6_inHeap := ⟨m_push 0 1, m_storeI 3 1, m_push 0 1, m_storeI 4 2, m_loadI 4 2, m_loadR 0 1, m_getI 5 0, m_icmp cGe cLt 66, m_loadI 3 1, m_loadR 0 1, m_getR 5 6 (fun i => 89), m_loadI 4 2, m_zald, m_if0 cNe cEq 57, m_loadR 0 1, m_getR 5 5 (fun i => 88), m_loadI 4 2, m_iald, m_loadI 1 1, m_icmp cNe cEq 57, m_loadI 2 1, m_if0 cNe cEq 53, m_loadR 0 1, m_loadI 4 2, m_loadR 0 1, m_getI 5 14, m_callV 5 96 2, m_if0 cEq cNe 57, m_push 1 1, m_goto 58, m_push 0 1, m_add, m_storeI 3 1, m_iinc 4 1, m_goto 5, m_loadI 3 1, m_iret, trivial⟩
theorem mo_X6_inHeap : ∀ pc, FMono (tabF k_X6_inHeap pc) := tabF_all (P := fun e => FMono e.2) (fun _ => m_no) k_X6_inHeap mm_X6_inHeap
theorem mm_X6_best : AllS (fun e => FMono e.2) k_X6_best := ⟨m_loadR 0 1, m_getI 5 10, m_if0 cNe cEq 9, m_push (-1) 1, m_iret, m_loadR 0 1, m_callV 5 94 0, m_push (-1) 1, m_storeI 1 1, m_push 0 1, m_storeI 2 1, m_push 0 1, m_storeI 3 1, m_loadI 3 1, m_loadR 0 1, m_getI 5 10, m_icmp cGe cLt 103, m_loadR 0 1, m_loadI 3 1, m_callV 5 106 1, m_storeI 4 2, m_loadR 0 1, m_push 0 1, m_push 0 1, m_callV 5 108 2, m_loadR 0 1, m_push 1 1, m_push 1 1, m_callV 5 108 2, m_mul, m_loadR 0 1, m_push 1 1, m_push 0 1, m_callV 5 108 2, m_loadR 0 1, m_push 0 1, m_push 1 1, m_callV 5 108 2, m_mul, m_sub, m_storeI 5 2, m_loadI 5 2, m_if0 cGe cLt 74, m_loadI 5 2, m_neg, m_goto 76, m_loadI 5 2, m_storeI 5 2, m_loadI 1 1, m_push (-1) 1, m_icmp cEq cNe 92, m_loadI 5 2, m_loadI 2 1, m_icmp cGt cLe 92, m_goto 97, m_loadI 3 1, m_storeI 1 1, m_loadI 5 2, m_storeI 2 1, m_iinc 3 1, m_goto 19, m_loadI 1 1, m_iret, trivial⟩
theorem mo_X6_best : ∀ pc, FMono (tabF k_X6_best pc) := tabF_all (P := fun e => FMono e.2) (fun _ => m_no) k_X6_best mm_X6_best
theorem mm_X6_those : AllS (fun e => FMono e.2) k_X6_those := ⟨m_push 0 1, m_storeI 3 1, m_push 0 1, m_storeI 4 2, m_loadI 4 2, m_loadR 0 1, m_getR 5 7 (fun i => 90), m_loadI 1 1, m_iald, m_icmp cGe cLt 50, m_loadI 3 1, m_loadR 0 1, m_loadR 0 1, m_getR 5 9 (fun i => 92), m_push 30 2, m_loadI 1 1, m_mul, m_loadI 4 2, m_add, m_iald, m_loadI 2 1, m_callV 5 81 2, m_if0 cEq cNe 41, m_push 1 1, m_goto 42, m_push 0 1, m_add, m_storeI 3 1, m_iinc 4 1, m_goto 5, m_loadI 3 1, m_iret, trivial⟩
theorem mo_X6_those : ∀ pc, FMono (tabF k_X6_those pc) := tabF_all (P := fun e => FMono e.2) (fun _ => m_no) k_X6_those mm_X6_those
theorem mm_X6_ways : AllS (fun e => FMono e.2) k_X6_ways := ⟨m_pushL 1 1, m_storeL 2 1, m_push 1 1, m_storeI 4 2, m_loadI 4 2, m_loadI 0 1, m_icmp cGt cLe 29, m_loadL 2 1, m_loadI 1 1, m_loadI 4 2, m_add, m_i2l, m_lmul, m_loadI 4 2, m_i2l, m_ldiv, m_storeL 2 1, m_iinc 4 1, m_goto 5, m_loadL 2 1, m_lret, trivial⟩
theorem mo_X6_ways : ∀ pc, FMono (tabF k_X6_ways pc) := tabF_all (P := fun e => FMono e.2) (fun _ => m_no) k_X6_ways mm_X6_ways
theorem mm_X6_expected : AllS (fun e => FMono e.2) k_X6_expected := ⟨m_loadI 1 1, m_callS 79 1, m_if0 cEq cNe 32, m_loadI 2 1, m_callS 79 1, m_if0 cEq cNe 32, m_loadR 0 1, m_loadI 1 1, m_loadI 2 1, m_callV 5 81 2, m_if0 cNe cEq 32, m_loadR 0 1, m_loadI 2 1, m_loadI 1 1, m_callV 5 81 2, m_if0 cEq cNe 36, m_pushL (-1) 3, m_lret, m_pushL 0 1, m_storeL 3 1, m_push 0 1, m_storeI 5 2, m_loadI 5 2, m_loadR 0 1, m_getI 5 0, m_icmp cGe cLt 116, m_loadR 0 1, m_getR 5 6 (fun i => 89), m_loadI 5 2, m_zald, m_if0 cEq cNe 64, m_push 0 1, m_goto 71, m_loadR 0 1, m_loadI 5 2, m_loadI 1 1, m_callV 5 110 2, m_storeI 6 2, m_loadR 0 1, m_loadI 5 2, m_loadI 2 1, m_callV 5 110 2, m_storeI 7 2, m_loadI 6 2, m_if0 cLe cGt 110, m_loadI 7 2, m_if0 cLe cGt 110, m_loadL 3 1, m_pushL (1000000) 3, m_pushL (1000000) 3, m_loadI 6 2, m_loadI 7 2, m_callS 111 2, m_ldiv, m_lsub, m_ladd, m_storeL 3 1, m_iinc 5 1, m_goto 41, m_loadL 3 1, m_lret, trivial⟩
theorem mo_X6_expected : ∀ pc, FMono (tabF k_X6_expected pc) := tabF_all (P := fun e => FMono e.2) (fun _ => m_no) k_X6_expected mm_X6_expected
theorem mm_X6_share : AllS (fun e => FMono e.2) k_X6_share := ⟨m_loadR 0 1, m_loadI 1 1, m_loadI 2 1, m_loadI 3 1, m_loadI 4 2, m_callV 5 89 4, m_if0 cEq cNe 20, m_loadR 0 1, m_getI 5 14, m_push 1 1, m_icmp cNe cEq 22, m_push (-1) 1, m_iret, m_loadR 0 1, m_callV 5 94 0, m_loadR 0 1, m_loadR 0 1, m_getI 5 14, m_push 1 1, m_sub, m_callV 5 97 1, m_storeI 5 2, m_loadI 5 2, m_if0 cNe cEq 47, m_push 0 1, m_goto 62, m_push 1000 3, m_loadR 0 1, m_loadR 0 1, m_getI 5 14, m_callV 5 97 1, m_mul, m_loadI 5 2, m_div, m_iret, trivial⟩
theorem mo_X6_share : ∀ pc, FMono (tabF k_X6_share pc) := tabF_all (P := fun e => FMono e.2) (fun _ => m_no) k_X6_share mm_X6_share
theorem mm_X6_isLacking : AllS (fun e => FMono e.2) k_X6_isLacking := ⟨m_loadR 0 1, m_getR 5 6 (fun i => 89), m_loadI 1 1, m_zald, m_if0 cNe cEq 39, m_loadR 0 1, m_loadI 1 1, m_loadR 0 1, m_getI 5 14, m_push 1 1, m_sub, m_callV 5 96 2, m_if0 cEq cNe 39, m_loadR 0 1, m_loadI 1 1, m_loadR 0 1, m_getI 5 14, m_callV 5 96 2, m_if0 cNe cEq 39, m_push 1 1, m_goto 40, m_push 0 1, m_zret, trivial⟩
theorem mo_X6_isLacking : ∀ pc, FMono (tabF k_X6_isLacking pc) := tabF_all (P := fun e => FMono e.2) (fun _ => m_no) k_X6_isLacking mm_X6_isLacking
theorem mm_X6_lacking : AllS (fun e => FMono e.2) k_X6_lacking := ⟨m_loadR 0 1, m_loadI 1 1, m_loadI 2 1, m_loadI 3 1, m_loadI 4 2, m_callV 5 89 4, m_if0 cEq cNe 25, m_loadR 0 1, m_getI 5 14, m_push 1 1, m_icmp cEq cNe 25, m_loadI 5 2, m_if0 cGe cLt 27, m_push (-1) 1, m_iret, m_loadR 0 1, m_callV 5 94 0, m_push 0 1, m_storeI 6 2, m_push 0 1, m_storeI 7 2, m_loadI 7 2, m_loadR 0 1, m_getI 5 0, m_icmp cGe cLt 77, m_loadR 0 1, m_loadI 7 2, m_callV 5 114 1, m_if0 cNe cEq 58, m_goto 71, m_loadI 6 2, m_loadI 5 2, m_icmp cNe cEq 68, m_loadI 7 2, m_iret, m_iinc 6 1, m_iinc 7 1, m_goto 37, m_push (-1) 1, m_iret, trivial⟩
theorem mo_X6_lacking : ∀ pc, FMono (tabF k_X6_lacking pc) := tabF_all (P := fun e => FMono e.2) (fun _ => m_no) k_X6_lacking mm_X6_lacking
theorem mm_X6_sure : AllS (fun e => FMono e.2) k_X6_sure := ⟨m_loadR 0 1, m_loadI 1 1, m_callV 5 80 1, m_if0 cEq cNe 29, m_loadR 0 1, m_loadI 2 1, m_loadI 3 1, m_loadI 4 2, m_loadI 5 2, m_callV 5 89 4, m_if0 cEq cNe 29, m_loadR 0 1, m_getI 5 14, m_push 1 1, m_icmp cNe cEq 31, m_push (-1) 1, m_iret, m_loadR 0 1, m_callV 5 94 0, m_loadR 0 1, m_loadI 1 1, m_callV 5 114 1, m_if0 cNe cEq 45, m_push (-1) 1, m_iret, m_push 0 1, m_storeI 6 2, m_push 0 1, m_storeI 7 2, m_loadI 7 2, m_loadR 0 1, m_getR 5 7 (fun i => 90), m_loadI 1 1, m_iald, m_icmp cGe cLt 86, m_loadI 6 2, m_loadR 0 1, m_loadI 1 1, m_loadI 7 2, m_loadR 0 1, m_getI 5 14, m_push 1 1, m_sub, m_callV 5 95 3, m_or, m_storeI 6 2, m_iinc 7 1, m_goto 51, m_push 0 1, m_storeI 7 2, m_push 0 1, m_storeI 8 2, m_loadI 8 2, m_loadR 0 1, m_getR 5 7 (fun i => 90), m_loadI 1 1, m_iald, m_icmp cGe cLt 129, m_loadI 6 2, m_loadI 8 2, m_shr, m_push 1 1, m_and, m_push 1 1, m_icmp cNe cEq 119, m_loadI 8 2, m_goto 121, m_loadI 7 2, m_storeI 7 2, m_iinc 8 1, m_goto 92, m_loadR 0 1, m_getR 5 8 (fun i => 91), m_push 30 2, m_loadI 1 1, m_mul, m_loadI 7 2, m_add, m_iald, m_loadR 0 1, m_getI 5 2, m_add, m_storeI 8 2, m_loadI 8 2, m_push 9999 3, m_icmp cGe cLt 161, m_loadI 8 2, m_goto 164, m_push 9999 3, m_iret, trivial⟩
theorem mo_X6_sure : ∀ pc, FMono (tabF k_X6_sure pc) := tabF_all (P := fun e => FMono e.2) (fun _ => m_no) k_X6_sure mm_X6_sure
theorem mm_X6_look : AllS (fun e => FMono e.2) k_X6_look := ⟨m_loadR 0 1, m_loadI 1 1, m_callV 5 80 1, m_if0 cNe cEq 10, m_push (-1) 1, m_iret, m_loadI 2 1, m_push (-1) 1, m_icmp cNe cEq 66, m_loadI 3 1, m_if0 cNe cEq 28, m_loadR 0 1, m_getR 5 5 (fun i => 88), m_loadI 1 1, m_iald, m_goto 65, m_loadI 3 1, m_push 1 1, m_icmp cNe cEq 50, m_loadR 0 1, m_getR 5 6 (fun i => 89), m_loadI 1 1, m_zald, m_if0 cEq cNe 46, m_push 0 1, m_goto 65, m_push 1 1, m_goto 65, m_loadI 3 1, m_push 2 1, m_icmp cNe cEq 64, m_loadR 0 1, m_getR 5 7 (fun i => 90), m_loadI 1 1, m_iald, m_goto 65, m_push (-1) 1, m_iret, m_loadI 2 1, m_push 0 1, m_loadR 0 1, m_getR 5 7 (fun i => 90), m_loadI 1 1, m_iald, m_push 1 1, m_sub, m_callS 78 3, m_if0 cNe cEq 84, m_push (-1) 1, m_iret, m_loadI 3 1, m_if0 cNe cEq 102, m_loadR 0 1, m_getR 5 8 (fun i => 91), m_push 30 2, m_loadI 1 1, m_mul, m_loadI 2 1, m_add, m_iald, m_goto 122, m_loadI 3 1, m_push 1 1, m_icmp cNe cEq 121, m_loadR 0 1, m_getR 5 9 (fun i => 92), m_push 30 2, m_loadI 1 1, m_mul, m_loadI 2 1, m_add, m_iald, m_goto 122, m_push (-1) 1, m_iret, trivial⟩
theorem mo_X6_look : ∀ pc, FMono (tabF k_X6_look pc) := tabF_all (P := fun e => FMono e.2) (fun _ => m_no) k_X6_look mm_X6_look
theorem mm_X6_tell : AllS (fun e => FMono e.2) k_X6_tell := ⟨m_push 0 1, m_storeI 2 1, m_loadI 1 1, m_tsw 0 5 [40, 45, 80, 85, 90, 95] 100, m_loadR 0 1, m_getI 5 0, m_iret, m_push 0 1, m_storeI 3 1, m_loadI 3 1, m_loadR 0 1, m_getI 5 0, m_icmp cGe cLt 78, m_loadI 2 1, m_loadR 0 1, m_getR 5 6 (fun i => 89), m_loadI 3 1, m_zald, m_if0 cEq cNe 69, m_push 0 1, m_goto 70, m_push 1 1, m_add, m_storeI 2 1, m_iinc 3 1, m_goto 47, m_loadI 2 1, m_iret, m_loadR 0 1, m_getI 5 2, m_iret, m_loadR 0 1, m_getI 5 3, m_iret, m_loadR 0 1, m_getI 5 10, m_iret, m_loadR 0 1, m_getI 5 1, m_iret, m_push (-1) 1, m_iret, trivial⟩
theorem mo_X6_tell : ∀ pc, FMono (tabF k_X6_tell pc) := tabF_all (P := fun e => FMono e.2) (fun _ => m_no) k_X6_tell mm_X6_tell
theorem mm_J6_bitCount_0f7a4 : AllS (fun e => FMono e.2) k_J6_bitCount_0f7a4 := ⟨m_loadI 0 1, m_loadI 0 1, m_push 1 1, m_ushr, m_push 1431655765 3, m_and, m_sub, m_storeI 0 1, m_loadI 0 1, m_push 858993459 3, m_and, m_loadI 0 1, m_push 2 1, m_ushr, m_push 858993459 3, m_and, m_add, m_storeI 0 1, m_loadI 0 1, m_loadI 0 1, m_push 4 1, m_ushr, m_add, m_push 252645135 3, m_and, m_storeI 0 1, m_loadI 0 1, m_loadI 0 1, m_push 8 2, m_ushr, m_add, m_storeI 0 1, m_loadI 0 1, m_loadI 0 1, m_push 16 2, m_ushr, m_add, m_storeI 0 1, m_loadI 0 1, m_push 63 2, m_and, m_iret, trivial⟩
theorem mo_J6_bitCount_0f7a4 : ∀ pc, FMono (tabF k_J6_bitCount_0f7a4 pc) := tabF_all (P := fun e => FMono e.2) (fun _ => m_no) k_J6_bitCount_0f7a4 mm_J6_bitCount_0f7a4
theorem mm_J9_abs_0f7a4 : AllS (fun e => FMono e.2) k_J9_abs_0f7a4 := ⟨m_loadI 0 1, m_if0 cGe cLt 9, m_loadI 0 1, m_neg, m_goto 10, m_loadI 0 1, m_iret, trivial⟩
theorem mo_J9_abs_0f7a4 : ∀ pc, FMono (tabF k_J9_abs_0f7a4 pc) := tabF_all (P := fun e => FMono e.2) (fun _ => m_no) k_J9_abs_0f7a4 mm_J9_abs_0f7a4
theorem mm_J9_min_7cf53 : AllS (fun e => FMono e.2) k_J9_min_7cf53 := ⟨m_loadI 0 1, m_loadI 1 1, m_icmp cGt cLe 9, m_loadI 0 1, m_goto 10, m_loadI 1 1, m_iret, trivial⟩
theorem mo_J9_min_7cf53 : ∀ pc, FMono (tabF k_J9_min_7cf53 pc) := tabF_all (P := fun e => FMono e.2) (fun _ => m_no) k_J9_min_7cf53 mm_J9_min_7cf53
end
section
/-! calls, ends of methods, and what a method's contract is -/
abbrev vNw (s : State) : Prop := va_Nw (.methodLinkNest RX3 9 yX5_isKind RX5) s
def sC (l : Launch) (L : Nat → Nat) (D : va_G) (cI cZ cR : ClassId) : tC := fun d k as M Q =>
  iL L → noL as = true → as.length ≤ (mT k).2.2.1 → Met l (mT k).1 (.code (mT k).1 (mT k).2.1 (mT k).2.2.1 (mT k).2.2.2 :: TB) (rmD d)
    (va_Pc (as.map (toV L)) (fun U => va_P D vwCl (wW L cI cZ cR M) U.heap ∧ va_K D vwCl (tyL cI cZ cR) U ∧ vNw U)) (qc L D cI cZ cR Q) 0 0 (AL L)
theorem blindP {L : Nat → Nat} {D : va_G} {cI cZ cR : ClassId} {M : tM} {av : List Value} : FrameBlind (va_Pc av (fun U => va_P D vwCl (wW L cI cZ cR M) U.heap ∧ va_K D vwCl (tyL cI cZ cR) U ∧ vNw U)) := by
  intro a U g mk q
  obtain ⟨q0, qP, qK, qN⟩ := q
  exact ⟨q0, qP, va_K.moved (u := U) (U := U.calling g mk a) (Vm.Alike.refl U.vm) qK, va_Nw.same (u := U) (U := U.calling g mk a) rfl rfl qN⟩
theorem lenLe.sum {L : Nat → Nat} : ∀ (l : List tV) (n : Nat), lenLe l n = true → ((l.map (toV L)).map fun v => v.category).sum ≤ 2 * n
  | [], n, _ => by simp
  | a :: l, 0, h => by simp [lenLe] at h
  | a :: l, n + 1, h => by
    have h1 := lenLe.sum (L := L) l n h
    have h2 : (toV L a).category ≤ 2 := by rcases lv_cat (toV L a) with q | q <;> omega
    simp only [List.map_cons, List.sum_cons]
    omega
theorem lenGe.le : ∀ (l : List tV) (n : Nat), lenGe l n = true → n ≤ l.length
  | _, 0, _ => Nat.zero_le _
  | [], n + 1, h => by simp [lenGe] at h
  | a :: l, n + 1, h => by
    have := lenGe.le l n h
    simp only [List.length_cons]
    omega
theorem noL.rev {l : List tV} (h : noL l = true) : noL l.reverse = true := by
  have key : ∀ (l : List tV), noL l = true ↔ ∀ v ∈ l, ∀ x, v ≠ .inr (.inr x) := by
    intro l
    induction l with
    | nil => simp [noL]
    | cons a l ih =>
      rcases a with x | i | x
      · simp only [noL, ih, List.mem_cons, forall_eq_or_imp]
        exact ⟨fun h => ⟨fun y z => (by cases z), h⟩, fun h => h.2⟩
      · simp only [noL, ih, List.mem_cons, forall_eq_or_imp]
        exact ⟨fun h => ⟨fun y z => (by cases z), h⟩, fun h => h.2⟩
      · simp only [noL, List.mem_cons, forall_eq_or_imp]
        exact ⟨fun h => (by cases h), fun h => absurd rfl (h.1 x)⟩
  rw [key] at h ⊢
  exact fun v hv => h v (List.mem_reverse.mp hv)
section CC
variable {p : Program} {l : Launch} {e : Env} {R : Room} {s : State} {m : MethodId} {args : Array Value} {below : List Frame} {meth : Method} {c : Code} {cells slots : Nat} {QQ : State → Prop} {cc : ByteArray} {nL : Nat} {own : String} {A : Nat → Prop} {L : Nat → Nat} {D : va_G} {cI cZ cR : ClassId} {d : Nat} {C : tC} {Q Q1 : tQ} {pc : Nat} {H : Heap} {locs : List Loc} {lsA : Array Slot} {st0 rest : List Value} {a : Array Value}
theorem callG (hr : va_Run p l e R s m args below meth c H locs cells slots 0 0 (F0 m pc lsA st0) rest (qc L D cI cZ cR Q1 a) (AL L)) (hS : va_S A s.heap H locs) (hA : ∀ i, i < 101 → A (L i))
    (kk : ∀ (r : Option tV) (M2 : tM) (H1 : Heap) (locs1 : List Loc), Q1 r M2 → va_P D vwCl (wW L cI cZ cR M2) H1 → va_S A s.heap H1 locs1 → W p l e R s m args below meth c H1 locs1 cells slots QQ (F0 m (pc + 3) lsA ((r.map (toV L)).toList ++ rest))) : W p l e R s m args below meth c H locs cells slots QQ (F0 m pc lsA st0) := by
  intro T hT X
  obtain ⟨v, st₀, t, T', L2, h0, X', hL, e1, e2, ⟨⟨r, M2, hv, hp, hb⟩, hz, hk⟩, st⟩ := hr T hT X
  cases hv
  rw [h0] at hz hk
  have hAL : ∀ q, AL L q → A q := fun q ⟨i, h1, h2⟩ => h2 ▸ hA i h1
  obtain ⟨t2, a1, b1⟩ := kk r M2 T'.heap (locs ++ L2) hp (by rw [e1]; exact hb.1)
    ⟨Nat.le_trans hS.1 (by rw [e1]; exact hz), fun q h1 h2 => by rw [e1, hk q (Nat.lt_of_lt_of_le h1 hS.1) (fun z => h2 (hAL q z))]; exact hS.2.1 q h1 h2, fun q hq => by
      rcases List.mem_append.mp hq with h | h
      · exact hS.2.2 q h
      · exact hAL _ (hL q h)⟩ T' rfl X'
  exact ⟨t2, st t2 a1, b1⟩
theorem cB {k idx n : Nat} {y : MethodName} {bytes : ByteArray} {maxL : Nat} {ret : Option FieldType} (hts : ∀ w ∈ TB, w.before args s = true) (hR : d + 1 ≤ R.frames ∧ 31 * (d + 1) ≤ R.locals) (hmax : maxL ≤ 12) (w1 : Cond.methodLink own idx y ∈ TB) (w3 : Cond.initialized y.cls ∈ TB) (w4 : Cond.code y bytes maxL ret ∈ TB)
    (hdd : y.cls ≠ "java/lang/invoke/MethodHandle" ∧ y.cls ≠ "java/lang/invoke/VarHandle" ∧ (parseMethodDescriptor y.desc).map (fun d => d.parameters.length) = some n) : CallB R s args own idx y bytes maxL ret (Cond.code y bytes maxL ret :: TB) (rmD d) 0 0 n := by
  refine callB_of (Ts := TB) n hts (TB.good ?_) rfl rfl rfl (hts _ w3) (hts _ w1) hdd ⟨hR.1, ?_⟩
  · intro w hw
    rcases List.mem_cons.mp hw with rfl | h
    · exact w4
    · exact h
  · show 8 + (maxL + 11) + 31 * d ≤ R.locals
    omega
theorem r_callS (F : Fx p R s m args c cells slots cc nL own A L D cI cZ cR d) {idx k n : Nat} {y : MethodName} {bytes : ByteArray} {maxL : Nat} {ret : Option FieldType} (hd : decode cc pc = .ok (.invokestatic idx, 3)) (hm : mT k = (y, bytes, maxL, ret)) (hmax : maxL ≤ 12) (hn2 : n ≤ maxL) (w1 : Cond.methodLink own idx y ∈ TB) (w2 : Cond.static y ∈ TB) (w3 : Cond.initialized y.cls ∈ TB) (w4 : Cond.code y bytes maxL ret ∈ TB)
    (hdd : y.cls ≠ "java/lang/invoke/MethodHandle" ∧ y.cls ≠ "java/lang/invoke/VarHandle" ∧ (parseMethodDescriptor y.desc).map (fun d => d.parameters.length) = some n) : ∀ ls st M, f_callS k n (sC l L D cI cZ cR) d Q (sY p l e R s m args below meth c cells slots QQ nL A L D cI cZ cR) pc ls st M → sY p l e R s m args below meth c cells slots QQ nL A L D cI cZ cR pc ls st M := by
  intro ls st M h H locs lsA hP hS hl
  obtain ⟨hx, hb, hml, hown, hts, hK, hi, hA, hR, hcs, hNw⟩ := F
  unfold f_callS at h
  cases d with
  | zero => exact h.elim
  | succ d =>
    obtain ⟨hc, hC⟩ := h
    simp only [Bool.and_eq_true] at hc
    obtain ⟨⟨c1, c2⟩, c3⟩ := hc
    have hlen : (st.take n).reverse.length = n := by
      rw [List.length_reverse, List.length_take]
      have := lenGe.le _ _ c1
      omega
    have hM := hC hi (noL.rev c3) (by rw [hm, hlen]; exact hn2)
    rw [hm] at hM
    refine callG (rest := (st.drop n).map (toV L)) (va_runS (As := ((st.take n).reverse).map (toV L)) ⟨hx, hb, hml, hown, hts⟩ hM ⟨cB (k := k) hts hR hmax w1 w3 w4 hdd, hts _ w2⟩ ⟨blindP, fun U hU hW => ⟨rfl, by rw [hU]; exact hP, va_K.moved hW.alike hK, hNw.warmM hW⟩⟩ rfl (by rw [List.length_map, hlen]) hl.1 ?_ (lv_room (lenLe.sum _ 4 c2)) hd ⟨hcs.1, hcs.2⟩) hS hA (fun r M2 H1 locs1 hq hP1 hS1 => ?_)
    · show st.map (toV L) = _
      rw [← List.map_reverse, List.reverse_reverse, ← List.map_append, List.take_append_drop]
    · have k2 := hq H1 locs1 lsA hP1 hS1 hl
      rw [List.map_append] at k2
      cases r <;> exact k2
theorem r_callN (F : Fx p R s m args c cells slots cc nL RX3 A L D cI cZ cR d) {k n : Nat} {bytes : ByteArray} {maxL : Nat} {ret : Option FieldType} (hd : decode cc pc = .ok (.invokestatic 9, 3)) (hm : mT k = (yX5_isKind, bytes, maxL, ret)) (hmax : maxL ≤ 12) (hn2 : n ≤ maxL) (w2 : Cond.static yX5_isKind ∈ TB) (w3 : Cond.initialized yX5_isKind.cls ∈ TB) (w4 : Cond.code yX5_isKind bytes maxL ret ∈ TB)
    (hdd : yX5_isKind.cls ≠ "java/lang/invoke/MethodHandle" ∧ yX5_isKind.cls ≠ "java/lang/invoke/VarHandle" ∧ (parseMethodDescriptor yX5_isKind.desc).map (fun d => d.parameters.length) = some n) : ∀ ls st M, f_callS k n (sC l L D cI cZ cR) d Q (sY p l e R s m args below meth c cells slots QQ nL A L D cI cZ cR) pc ls st M → sY p l e R s m args below meth c cells slots QQ nL A L D cI cZ cR pc ls st M := by
  intro ls st M h H locs lsA hP hS hl
  obtain ⟨hx, hb, hml, hown, hts, hK, hi, hA, hR, hcs, hNw⟩ := F
  unfold f_callS at h
  cases d with
  | zero => exact h.elim
  | succ d =>
    obtain ⟨hc, hC⟩ := h
    simp only [Bool.and_eq_true] at hc
    obtain ⟨⟨c1, c2⟩, c3⟩ := hc
    have hlen : (st.take n).reverse.length = n := by
      rw [List.length_reverse, List.length_take]
      have := lenGe.le _ _ c1
      omega
    have hM := hC hi (noL.rev c3) (by rw [hm, hlen]; exact hn2)
    rw [hm] at hM
    refine callG (rest := (st.drop n).map (toV L)) (va_runSN (host := RX5) (As := ((st.take n).reverse).map (toV L)) ⟨hx, hb, hml, hown, hts⟩ hM ⟨va_cnB (Ts := TB) n hts (TB.good ?_) rfl rfl rfl hNw (hts _ w3) hdd ⟨hR.1, ?_⟩, hts _ w2, trivial⟩ ⟨blindP, fun U hU hW => ⟨rfl, by rw [hU]; exact hP, va_K.moved hW.alike hK, hNw.warmM hW⟩⟩ rfl (by rw [List.length_map, hlen]) hl.1 ?_ (lv_room (lenLe.sum _ 4 c2)) hd ⟨hcs.1, hcs.2⟩) hS hA (fun r M2 H1 locs1 hq hP1 hS1 => ?_)
    · intro w hw
      rcases List.mem_cons.mp hw with rfl | h
      · exact w4
      · exact h
    · show 8 + (maxL + 11) + 31 * d ≤ R.locals
      have := hR.2
      omega
    · show st.map (toV L) = _
      rw [← List.map_reverse, List.reverse_reverse, ← List.map_append, List.take_append_drop]
    · have k2 := hq H1 locs1 lsA hP1 hS1 hl
      rw [List.map_append] at k2
      cases r <;> exact k2
theorem r_callV (F : Fx p R s m args c cells slots cc nL own A L D cI cZ cR d) {idx k n ci : Nat} {q : vw_C} {y : MethodName} {bytes : ByteArray} {maxL : Nat} {ret : Option FieldType} (hd : decode cc pc = .ok (.invokevirtual idx, 3)) (hm : mT k = (y, bytes, maxL, ret)) (hq0 : vwCl[ci]? = some q) (hqy : q.1 = y.cls) (hmax : maxL ≤ 12) (hn2 : n + 1 ≤ maxL) (h9 : ci ≠ 9) (w1 : Cond.methodLink own idx y ∈ TB) (w2 : Cond.instanceMethod y ∈ TB) (w5 : Cond.selects y.cls y y ∈ TB) (w3 : Cond.initialized y.cls ∈ TB) (w4 : Cond.code y bytes maxL ret ∈ TB)
    (hdd : y.cls ≠ "java/lang/invoke/MethodHandle" ∧ y.cls ≠ "java/lang/invoke/VarHandle" ∧ (parseMethodDescriptor y.desc).map (fun d => d.parameters.length) = some n) : ∀ ls st M, f_callV ci k n (sC l L D cI cZ cR) d Q (sY p l e R s m args below meth c cells slots QQ nL A L D cI cZ cR) pc ls st M → sY p l e R s m args below meth c cells slots QQ nL A L D cI cZ cR pc ls st M := by
  intro ls st M h H locs lsA hP hS hl
  obtain ⟨hx, hb, hml, hown, hts, hK, hi, hA, hR, hcs, hNw⟩ := F
  unfold f_callV at h
  cases d with
  | zero => exact h.elim
  | succ d =>
    obtain ⟨hc, h2⟩ := h
    simp only [Bool.and_eq_true] at hc
    obtain ⟨c2, c3⟩ := hc
    split at h2
    · rename_i i st2 hst
      obtain ⟨hcl, hC⟩ := h2
      have hlt := clsOf_lt hcl h9
      have hat := wW.at (L := L) (cI := cI) (cZ := cZ) (cR := cR) (M := M) hlt
      rw [clsOf_cE hcl h9] at hat
      have hge : n < st.length := by
        have h3 := congrArg List.length hst
        rw [List.length_drop, List.length_cons] at h3
        omega
      have hlen : (st.take n).reverse.length = n := by
        rw [List.length_reverse, List.length_take]
        omega
      have hd1 : st.drop (n + 1) = st2 := by rw [← List.drop_drop, hst, List.drop_one, List.tail_cons]
      have hM := hC hi (by show noL (vR i :: _) = true; exact noL.rev c3) (by rw [hm, List.length_cons, hlen]; exact hn2)
      rw [hm] at hM
      have hrecv := va_recv hK hP hq0 hat
      rw [hqy] at hrecv
      refine callG (rest := (st.drop (n + 1)).map (toV L)) (va_runV (b := L i) (As := ((st.take n).reverse).map (toV L)) ⟨hx, hb, hml, hown, hts⟩ hM ⟨cB (k := k) hts hR hmax w1 w3 w4 hdd, hts _ w2, hts _ w5⟩ ⟨blindP, hrecv, fun U hU hW => ⟨rfl, by rw [hU]; exact hP, va_K.moved hW.alike hK, hNw.warmM hW⟩⟩ rfl (by rw [List.length_map, hlen]) hl.1 ?_ (lv_room (lenLe.sum _ 4 c2)) hd ⟨hcs.1, hcs.2⟩) hS hA (fun r M2 H1 locs1 hq hP1 hS1 => ?_)
      · show st.map (toV L) = _
        rw [← List.map_reverse, List.reverse_reverse, hd1]
        have h4 : st = st.take n ++ vR i :: st2 := by rw [← hst, List.take_append_drop]
        have h5 := congrArg (List.map (toV L)) h4
        rw [List.map_append, List.map_cons] at h5
        exact h5
      · have k2 := hq H1 locs1 lsA hP1 hS1 hl
        rw [List.map_append] at k2
        cases r <;> exact k2
    · exact h2.elim
theorem r_lsw2 (F : Fx p R s m args c cells slots cc nL own A L D cI cZ cR d) {a b oa ob od : Int} {ta tb td len : Nat} (hd : decode cc pc = .ok (.lookupswitch od #[(a, oa), (b, ob)], len)) (hp : (([(a, oa), (b, ob)] : List (Int × Int)).zip (([(a, oa), (b, ob)] : List (Int × Int)).drop 1)).all (fun (a, next) => a.1 < next.1) = true) (hta : (pc : Int) + oa = ta) (htb : (pc : Int) + ob = tb) (htd : (pc : Int) + od = td) (hab : a ≠ b) : ∀ ls st M, f_lsw2 a b ta tb td C d Q (sY p l e R s m args below meth c cells slots QQ nL A L D cI cZ cR) pc ls st M → sY p l e R s m args below meth c cells slots QQ nL A L D cI cZ cR pc ls st M := by
  intro ls st M h H locs lsA hP hS hl
  obtain ⟨hx, hb, hml, hown, hts, hK, hi, hA, hR, hcs, hNw⟩ := F
  unfold f_lsw2 at h
  split at h
  · rename_i x st
    obtain ⟨hr, h1, h2, h3⟩ := h
    have ho : ∀ y, Op.lookupswitch.offset [(a, oa), (b, ob)] od y = if y = a then oa else if y = b then ob else od := by
      intro y
      simp only [Op.lookupswitch.offset, List.find?]
      by_cases q : y = a
      · subst q; simp
      · by_cases q2 : y = b
        · subst q2; simp [q, Ne.symm q]
        · simp [q, q2, Ne.symm q, Ne.symm q2]
    by_cases q : x = a
    · exact lv_lookup (off := oa) (tgt := ta) hx hb hd hp (by rw [iN_toInt hr]; show Op.lookupswitch.offset [(a, oa), (b, ob)] od x = oa; rw [ho, if_pos q]) hta (h1 q H locs lsA hP hS hl)
    · by_cases q2 : x = b
      · exact lv_lookup (off := ob) (tgt := tb) hx hb hd hp (by rw [iN_toInt hr]; show Op.lookupswitch.offset [(a, oa), (b, ob)] od x = ob; rw [ho, if_neg q, if_pos q2]) htb (h2 q2 H locs lsA hP hS hl)
      · exact lv_lookup (off := od) (tgt := td) hx hb hd hp (by rw [iN_toInt hr]; show Op.lookupswitch.offset [(a, oa), (b, ob)] od x = od; rw [ho, if_neg q, if_neg q2]) htd (h3 ⟨q, q2⟩ H locs lsA hP hS hl)
  · exact h.elim
end CC
/-! ends -/
abbrev mYY (p : Program) (l : Launch) (e : Env) (s : State) (m : MethodId) (args : Array Value) (below : List Frame) (meth : Method) (c : Code) (nL : Nat) (L : Nat → Nat) (D : va_G) (cI cZ cR : ClassId) (d : Nat) (Q : tQ) : tY :=
  sY p l e (rmD d) s m args below meth c 0 0 (MQ below (qc L D cI cZ cR Q) args s 0 0 (AL L)) nL (AL L) L D cI cZ cR
abbrev RowOK (p : Program) (l : Launch) (e : Env) (s : State) (m : MethodId) (args : Array Value) (below : List Frame) (meth : Method) (c : Code) (nL : Nat) (L : Nat → Nat) (D : va_G) (cI cZ cR : ClassId) (d : Nat) (Q : tQ) (x : Nat × tF) : Prop :=
  ∀ ls st M, x.2 (sC l L D cI cZ cR) d Q (mYY p l e s m args below meth c nL L D cI cZ cR d Q) x.1 ls st M → mYY p l e s m args below meth c nL L D cI cZ cR d Q x.1 ls st M
section EE
variable {p : Program} {l : Launch} {e : Env} {s : State} {m : MethodId} {args : Array Value} {below : List Frame} {meth : Method} {c : Code} {cc : ByteArray} {nL : Nat} {own : String} {L : Nat → Nat} {D : va_G} {cI cZ cR : ClassId} {d : Nat} {Q : tQ} {pc : Nat} {C : tC}
theorem r_iret (F : Fx p (rmD d) s m args c 0 0 cc nL own (AL L) L D cI cZ cR d) (hd : decode cc pc = .ok (.ireturn, 1)) (hr : meth.sig.returnType = some .int) (hlk : meth.locks = false) : ∀ ls st M, f_iret C d Q (mYY p l e s m args below meth c nL L D cI cZ cR d Q) pc ls st M → mYY p l e s m args below meth c nL L D cI cZ cR d Q pc ls st M := by
  intro ls st M h H locs lsA hP hS hl
  obtain ⟨hx, hb, hml, hown, hts, hK, hi, hA, hR, hcs, hNw⟩ := F
  unfold f_iret at h
  split at h
  · rename_i x
    exact W.iret hx hb hr (fun t ht hW => ⟨⟨some (vI x), M, rfl, h, by rw [ht]; exact hP, va_K.moved hW.alike hK⟩, hS.F ht⟩) hS.2.2 hd (hlocks := hlk)
  · exact h.elim
theorem r_zret (F : Fx p (rmD d) s m args c 0 0 cc nL own (AL L) L D cI cZ cR d) (hd : decode cc pc = .ok (.ireturn, 1)) (hr : meth.sig.returnType = some .boolean) (hlk : meth.locks = false) : ∀ ls st M, f_zret C d Q (mYY p l e s m args below meth c nL L D cI cZ cR d Q) pc ls st M → mYY p l e s m args below meth c nL L D cI cZ cR d Q pc ls st M := by
  intro ls st M h H locs lsA hP hS hl
  obtain ⟨hx, hb, hml, hown, hts, hK, hi, hA, hR, hcs, hNw⟩ := F
  unfold f_zret at h
  split at h
  · rename_i x
    exact W.zret hx hb hr (nar_z h.1) (fun t ht hW => ⟨⟨some (vI x), M, rfl, h.2, by rw [ht]; exact hP, va_K.moved hW.alike hK⟩, hS.F ht⟩) hS.2.2 hd (hlocks := hlk)
  · exact h.elim
theorem r_lret (F : Fx p (rmD d) s m args c 0 0 cc nL own (AL L) L D cI cZ cR d) (hd : decode cc pc = .ok (.lreturn, 1)) (hr : meth.sig.returnType = some .long) (hlk : meth.locks = false) : ∀ ls st M, f_lret C d Q (mYY p l e s m args below meth c nL L D cI cZ cR d Q) pc ls st M → mYY p l e s m args below meth c nL L D cI cZ cR d Q pc ls st M := by
  intro ls st M h H locs lsA hP hS hl
  obtain ⟨hx, hb, hml, hown, hts, hK, hi, hA, hR, hcs, hNw⟩ := F
  unfold f_lret at h
  split at h
  · rename_i x
    exact W.lret hx hb hr (fun t ht hW => ⟨⟨some (vL x), M, rfl, h, by rw [ht]; exact hP, va_K.moved hW.alike hK⟩, hS.F ht⟩) hS.2.2 hd (hlocks := hlk)
  · exact h.elim
theorem r_vret (F : Fx p (rmD d) s m args c 0 0 cc nL own (AL L) L D cI cZ cR d) (hd : decode cc pc = .ok (.return_, 1)) (hr : meth.sig.returnType = none) (hlk : meth.locks = false) : ∀ ls st M, f_vret C d Q (mYY p l e s m args below meth c nL L D cI cZ cR d Q) pc ls st M → mYY p l e s m args below meth c nL L D cI cZ cR d Q pc ls st M := by
  intro ls st M h H locs lsA hP hS hl
  obtain ⟨hx, hb, hml, hown, hts, hK, hi, hA, hR, hcs, hNw⟩ := F
  unfold f_vret at h
  split at h
  · exact W.vret hx hb hr (fun t ht hW => ⟨⟨none, M, rfl, h, by rw [ht]; exact hP, va_K.moved hW.alike hK⟩, hS.F ht⟩) hS.2.2 hd (hlocks := hlk)
  · exact h.elim
end EE
/-- the entry's locals -/
theorem tp.ent {L : Nat → Nat} : ∀ (as : List tV) (o n : Nat), noL as = true → tp L o (as.map some ++ List.replicate n none) = lv_args o (as.map (toV L))
  | [], o, n, _ => by
    induction n generalizing o with
    | zero => rfl
    | succ n ih => exact ih (o + 1)
  | .inl x :: as, o, n, h => by
    have := tp.ent (L := L) as (o + 1) n h
    simp only [List.map_cons, List.cons_append, tp, lv_args, this]
    rfl
  | .inr (.inl x) :: as, o, n, h => by
    have := tp.ent (L := L) as (o + 1) n h
    simp only [List.map_cons, List.cons_append, tp, lv_args, this]
    rfl
  | .inr (.inr x) :: as, o, n, h => by simp [noL] at h
theorem noL.sl {L : Nat → Nat} : ∀ (as : List tV), noL as = true → (lg_sl (as.map (toV L))).length = as.length
  | [], _ => rfl
  | .inl x :: as, h => by
    have := noL.sl (L := L) as h
    show (lg_sl _).length + 1 = _
    rw [this]; rfl
  | .inr (.inl x) :: as, h => by
    have := noL.sl (L := L) as h
    show (lg_sl _).length + 1 = _
    rw [this]; rfl
  | .inr (.inr x) :: as, h => by simp [noL] at h
/-- a method whose table holds of the machine, and whose body runs on the small machine, meets its contract -/
theorem sC.of {l : Launch} {L : Nat → Nat} {D : va_G} {cI cZ cR : ClassId} {d k : Nat} {as : List tV} {M : tM} {Q : tQ} {y : MethodName} {bytes : ByteArray} {nL : Nat} {ret : Option FieldType} {tab : List (Nat × tF)} (hm : mT k = (y, bytes, nL, ret)) (hpl : plainName y.cls = true)
    (rows : ∀ {p : Program} {e : Env} {s : State} {m : MethodId} {args : Array Value} {below : List Frame} {meth : Method} {c : Code}, Fx p (rmD d) s m args c 0 0 bytes nL y.cls (AL L) L D cI cZ cR d → meth.sig.returnType = ret → meth.locks = false → AllS (RowOK p l e s m args below meth c nL L D cI cZ cR d Q) tab)
    (h : Runs (sC l L D cI cZ cR) (tabF tab) d Q 0 (ent as nL) [] M) : sC l L D cI cZ cR d k as M Q := by
  intro hi hno hlen
  rw [hm] at hlen ⊢
  refine Met.ofW (cc := bytes) (maxL := nL) (ret := ret) hpl rfl ?_
  intro p e s m args below meth c s₁ B hml hv
  obtain ⟨rfl, hP, hK, hN⟩ := hv
  have hts0 := atoms_spec (ws := Cond.code y bytes nL ret :: TB) B.pre
  have hts : ∀ w ∈ TB, w.before (as.map (toV L)).toArray s = true := fun w hw => hts0 w (List.mem_cons_of_mem _ hw)
  have hown : s.vm.findClass y.cls = some m.cls := findClass_of_methodNamed B.named
  have F : Fx p (rmD d) s m (as.map (toV L)).toArray c 0 0 bytes nL y.cls (AL L) L D cI cZ cR d := ⟨B.exec, B.bytes, hml, hown, hts, hK, hi, fun i h => ⟨i, h, rfl⟩, ⟨Nat.le_refl _, Nat.le_refl _⟩, ⟨Nat.zero_le _, Nat.zero_le _⟩, hN⟩
  have hrow := rows (e := e) (below := below) F B.returns B.notSynchronized
  have hcl : ∀ pc ls st M, tabF tab pc (sC l L D cI cZ cR) d Q (mYY p l e s m (as.map (toV L)).toArray below meth c nL L D cI cZ cR d Q) pc ls st M → mYY p l e s m (as.map (toV L)).toArray below meth c nL L D cI cZ cR d Q pc ls st M := fun pc => tabF_all (P := RowOK p l e s m (as.map (toV L)).toArray below meth c nL L D cI cZ cR d Q) (fun _ _ _ _ h => h.elim) tab hrow pc
  have hY := h _ hcl s.heap [] ((lg_sl (as.map (toV L)) ++ List.replicate (nL - (lg_sl (as.map (toV L))).length) Slot.unset).toArray) hP va_S.rf (by
    unfold ent
    rw [tp.ent _ _ _ hno]
    exact lv_entry (as.map (toV L)) (n := nL) (by rw [noL.sl _ hno]; exact hlen))
  rw [lg_entry_eq]
  exact hY
theorem CMono.sC {l : Launch} {L : Nat → Nat} {D : va_G} {cI cZ cR : ClassId} : CMono (sC l L D cI cZ cR) := by
  intro d k as M Q Q' hQ h hi hno hlen
  have hM := h hi hno hlen
  intro p e ha hc hk s m args below hf happ hP hKK
  obtain ⟨n, o, h1, h2, h3, ⟨⟨⟨r, M2, q1, q2, q3⟩, q4⟩, q5⟩⟩ := hM p e ha hc hk s m args below hf happ hP hKK
  exact ⟨n, o, h1, h2, h3, ⟨⟨⟨r, M2, q1, hQ _ _ q2, q3⟩, q4⟩, q5⟩⟩
end

/-! THE LAW: its own words (the skeleton's), its instructions, its tables (printed by wip/gen/law.py) -/
def R_law : String := "RowFinderLaw"
def lw_P (b : Addr) (xs : List Int32) (args : Array Value) (s : State) : Prop := args = #[.ref b] ∧ s.IntsAt b xs ∧ xs.length ≤ 3584 ∧ (Jvm.Cond.and given_1 narrow_1).before args s = true
def lw_Q (_ : Array Value) (s : State) (o : Outcome) (t : State) : Prop := o = .returned (some (.int 1)) ∧ Framed s o t [] 600000 7302250
def lw_Z (below : List Frame) (a : Array Value) (s : State) : State → Prop := fun t => ∃ o, t.status = .running ∧ Ended t below o ∧ lw_Q a s o t
/-- the law's own end, with 1 on the stack, nothing written that was there before, its room as the claim has it -/
theorem lw_ret {p : Program} {l : Launch} {e : Env} {s : State} {m : MethodId} {below : List Frame} {meth : Method} {c : Code} {b : Nat} (hx : p.tables.exec = Jvm.exec) (hb : c.code = code) (hr : meth.sig.returnType = ret) (hlocks : meth.locks = false) {pc : Nat} {H : Heap} {ls : Array Slot} (hdg : decode code pc = .ok (.ireturn, 1)) : W p l e room_1 s m #[Value.ref b] below meth c H [] 600000 7302250 (lw_Z below #[Value.ref b] s) (F0 m pc ls [.int 1]) := by
  intro T hT X
  obtain ⟨fs, hret, hrun, hended, hW, hframe⟩ := X.leave (v := some (.int 1)) (hlocks := hlocks) (fun h => by rw [hr] at h; cases h)
  have hmeth' : T.vm.method? m = some meth := X.method'
  refine ⟨T.setFrames fs, ?_, .returned (some (.int 1)), hrun, hended, rfl, ⟨_, rfl⟩, hW, hframe⟩
  jvm_step X.here [X.here.top, hx, hb, hdg, hmeth', hr, ret, narrow_b1]
  (try refine ⟨rfl, ?_⟩); (try refine ⟨rfl, ?_⟩)
  first | (intro acts; rw [hret _ acts rfl rfl rfl]) | rw [hret _ _ rfl rfl rfl]
  exact Steps.refl _
/-- what holds at the law's entry: the machine, the code, the tables' words (any of lw_tbl by 'hts w (by decide +kernel)'), the script of L ints xs at the cell b, what the Statement gives of the start (any of its parts by flat_of_before) -/
def lw_At (p : Program) (s : State) (m : MethodId) (meth : Method) (c : Code) (b L : Nat) (xs : Nat → Int32) : Prop :=
  p.tables.exec = Jvm.exec ∧ c.code = code ∧ meth.sig.returnType = ret ∧ c.maxLocals = 4 ∧ s.vm.findClass R_law = some m.cls ∧ (∀ w ∈ lw_tbl, w.before #[Value.ref b] s = true) ∧ va_X b L xs s s.heap ∧ b < s.heap.size ∧ meth.locks = false ∧ (Jvm.Cond.and given_1 narrow_1).before #[Value.ref b] s = true
theorem w_164 : Cond.methodLink RL 13 yX5_under ∈ TB := TB.mem (List.mem_of_getElem? (i := 164) (by decide +kernel)) (by decide +kernel)
theorem w_165 : Cond.instanceMethod yX5_under ∈ TB := TB.mem (List.mem_of_getElem? (i := 165) (by decide +kernel)) (by decide +kernel)
theorem w_166 : Cond.selects RX5 yX5_under yX5_under ∈ TB := TB.mem (List.mem_of_getElem? (i := 166) (by decide +kernel)) (by decide +kernel)
theorem w_167 : Cond.code yX5_under prog_1_method_2_code 3 (some .boolean) ∈ TB := TB.mem (List.mem_of_getElem? (i := 167) (by decide +kernel)) (by decide +kernel)
theorem w_183 : Cond.methodLink RL 18 yX5_row ∈ TB := TB.mem (List.mem_of_getElem? (i := 183) (by decide +kernel)) (by decide +kernel)
theorem w_184 : Cond.instanceMethod yX5_row ∈ TB := TB.mem (List.mem_of_getElem? (i := 184) (by decide +kernel)) (by decide +kernel)
theorem w_185 : Cond.selects RX5 yX5_row yX5_row ∈ TB := TB.mem (List.mem_of_getElem? (i := 185) (by decide +kernel)) (by decide +kernel)
theorem w_186 : Cond.code yX5_row prog_1_method_3_code 2 (some .int) ∈ TB := TB.mem (List.mem_of_getElem? (i := 186) (by decide +kernel)) (by decide +kernel)
theorem w_191 : Cond.methodLink RL 23 yX5_put ∈ TB := TB.mem (List.mem_of_getElem? (i := 191) (by decide +kernel)) (by decide +kernel)
theorem w_192 : Cond.instanceMethod yX5_put ∈ TB := TB.mem (List.mem_of_getElem? (i := 192) (by decide +kernel)) (by decide +kernel)
theorem w_193 : Cond.selects RX5 yX5_put yX5_put ∈ TB := TB.mem (List.mem_of_getElem? (i := 193) (by decide +kernel)) (by decide +kernel)
theorem w_194 : Cond.code yX5_put prog_1_method_4_code 4 (some .int) ∈ TB := TB.mem (List.mem_of_getElem? (i := 194) (by decide +kernel)) (by decide +kernel)
theorem w_210 : Cond.methodLink RL 28 yX5_take ∈ TB := TB.mem (List.mem_of_getElem? (i := 210) (by decide +kernel)) (by decide +kernel)
theorem w_211 : Cond.instanceMethod yX5_take ∈ TB := TB.mem (List.mem_of_getElem? (i := 211) (by decide +kernel)) (by decide +kernel)
theorem w_212 : Cond.selects RX5 yX5_take yX5_take ∈ TB := TB.mem (List.mem_of_getElem? (i := 212) (by decide +kernel)) (by decide +kernel)
theorem w_213 : Cond.code yX5_take prog_1_method_5_code 3 (some .boolean) ∈ TB := TB.mem (List.mem_of_getElem? (i := 213) (by decide +kernel)) (by decide +kernel)
theorem w_214 : Cond.methodLink RL 33 yX5_gap ∈ TB := TB.mem (List.mem_of_getElem? (i := 214) (by decide +kernel)) (by decide +kernel)
theorem w_215 : Cond.instanceMethod yX5_gap ∈ TB := TB.mem (List.mem_of_getElem? (i := 215) (by decide +kernel)) (by decide +kernel)
theorem w_216 : Cond.selects RX5 yX5_gap yX5_gap ∈ TB := TB.mem (List.mem_of_getElem? (i := 216) (by decide +kernel)) (by decide +kernel)
theorem w_217 : Cond.code yX5_gap prog_1_method_6_code 2 (some .boolean) ∈ TB := TB.mem (List.mem_of_getElem? (i := 217) (by decide +kernel)) (by decide +kernel)
theorem w_218 : Cond.methodLink RL 38 yX5_span ∈ TB := TB.mem (List.mem_of_getElem? (i := 218) (by decide +kernel)) (by decide +kernel)
theorem w_219 : Cond.instanceMethod yX5_span ∈ TB := TB.mem (List.mem_of_getElem? (i := 219) (by decide +kernel)) (by decide +kernel)
theorem w_220 : Cond.selects RX5 yX5_span yX5_span ∈ TB := TB.mem (List.mem_of_getElem? (i := 220) (by decide +kernel)) (by decide +kernel)
theorem w_221 : Cond.code yX5_span prog_1_method_7_code 2 (some .boolean) ∈ TB := TB.mem (List.mem_of_getElem? (i := 221) (by decide +kernel)) (by decide +kernel)
theorem w_222 : Cond.methodLink RL 42 yX5_count ∈ TB := TB.mem (List.mem_of_getElem? (i := 222) (by decide +kernel)) (by decide +kernel)
theorem w_223 : Cond.instanceMethod yX5_count ∈ TB := TB.mem (List.mem_of_getElem? (i := 223) (by decide +kernel)) (by decide +kernel)
theorem w_224 : Cond.selects RX5 yX5_count yX5_count ∈ TB := TB.mem (List.mem_of_getElem? (i := 224) (by decide +kernel)) (by decide +kernel)
theorem w_225 : Cond.code yX5_count prog_1_method_8_code 6 (some .int) ∈ TB := TB.mem (List.mem_of_getElem? (i := 225) (by decide +kernel)) (by decide +kernel)
theorem w_291 : Cond.methodLink RL 47 yX5_matches ∈ TB := TB.mem (List.mem_of_getElem? (i := 291) (by decide +kernel)) (by decide +kernel)
theorem w_292 : Cond.instanceMethod yX5_matches ∈ TB := TB.mem (List.mem_of_getElem? (i := 292) (by decide +kernel)) (by decide +kernel)
theorem w_293 : Cond.selects RX5 yX5_matches yX5_matches ∈ TB := TB.mem (List.mem_of_getElem? (i := 293) (by decide +kernel)) (by decide +kernel)
theorem w_294 : Cond.code yX5_matches prog_1_method_9_code 7 (some .long) ∈ TB := TB.mem (List.mem_of_getElem? (i := 294) (by decide +kernel)) (by decide +kernel)
theorem w_318 : Cond.methodLink RL 52 yX5_match ∈ TB := TB.mem (List.mem_of_getElem? (i := 318) (by decide +kernel)) (by decide +kernel)
theorem w_319 : Cond.instanceMethod yX5_match ∈ TB := TB.mem (List.mem_of_getElem? (i := 319) (by decide +kernel)) (by decide +kernel)
theorem w_320 : Cond.selects RX5 yX5_match yX5_match ∈ TB := TB.mem (List.mem_of_getElem? (i := 320) (by decide +kernel)) (by decide +kernel)
theorem w_321 : Cond.code yX5_match prog_1_method_10_code 8 (some .int) ∈ TB := TB.mem (List.mem_of_getElem? (i := 321) (by decide +kernel)) (by decide +kernel)
theorem w_326 : Cond.methodLink RL 57 yX5_find ∈ TB := TB.mem (List.mem_of_getElem? (i := 326) (by decide +kernel)) (by decide +kernel)
theorem w_327 : Cond.instanceMethod yX5_find ∈ TB := TB.mem (List.mem_of_getElem? (i := 327) (by decide +kernel)) (by decide +kernel)
theorem w_328 : Cond.selects RX5 yX5_find yX5_find ∈ TB := TB.mem (List.mem_of_getElem? (i := 328) (by decide +kernel)) (by decide +kernel)
theorem w_329 : Cond.code yX5_find prog_1_method_11_code 4 (some .int) ∈ TB := TB.mem (List.mem_of_getElem? (i := 329) (by decide +kernel)) (by decide +kernel)
theorem w_383 : Cond.methodLink RL 62 yX5_found ∈ TB := TB.mem (List.mem_of_getElem? (i := 383) (by decide +kernel)) (by decide +kernel)
theorem w_384 : Cond.instanceMethod yX5_found ∈ TB := TB.mem (List.mem_of_getElem? (i := 384) (by decide +kernel)) (by decide +kernel)
theorem w_385 : Cond.selects RX5 yX5_found yX5_found ∈ TB := TB.mem (List.mem_of_getElem? (i := 385) (by decide +kernel)) (by decide +kernel)
theorem w_386 : Cond.code yX5_found prog_1_method_12_code 3 (some .int) ∈ TB := TB.mem (List.mem_of_getElem? (i := 386) (by decide +kernel)) (by decide +kernel)
theorem w_392 : Cond.methodLink RL 66 yX5_closed ∈ TB := TB.mem (List.mem_of_getElem? (i := 392) (by decide +kernel)) (by decide +kernel)
theorem w_393 : Cond.instanceMethod yX5_closed ∈ TB := TB.mem (List.mem_of_getElem? (i := 393) (by decide +kernel)) (by decide +kernel)
theorem w_394 : Cond.selects RX5 yX5_closed yX5_closed ∈ TB := TB.mem (List.mem_of_getElem? (i := 394) (by decide +kernel)) (by decide +kernel)
theorem w_395 : Cond.code yX5_closed prog_1_method_13_code 4 (some .int) ∈ TB := TB.mem (List.mem_of_getElem? (i := 395) (by decide +kernel)) (by decide +kernel)
theorem w_411 : Cond.methodLink RL 70 yX5_best ∈ TB := TB.mem (List.mem_of_getElem? (i := 411) (by decide +kernel)) (by decide +kernel)
theorem w_412 : Cond.instanceMethod yX5_best ∈ TB := TB.mem (List.mem_of_getElem? (i := 412) (by decide +kernel)) (by decide +kernel)
theorem w_413 : Cond.selects RX5 yX5_best yX5_best ∈ TB := TB.mem (List.mem_of_getElem? (i := 413) (by decide +kernel)) (by decide +kernel)
theorem w_414 : Cond.code yX5_best prog_1_method_14_code 10 (some .int) ∈ TB := TB.mem (List.mem_of_getElem? (i := 414) (by decide +kernel)) (by decide +kernel)
theorem w_423 : Cond.methodLink RL 75 yX5_expected ∈ TB := TB.mem (List.mem_of_getElem? (i := 423) (by decide +kernel)) (by decide +kernel)
theorem w_424 : Cond.instanceMethod yX5_expected ∈ TB := TB.mem (List.mem_of_getElem? (i := 424) (by decide +kernel)) (by decide +kernel)
theorem w_425 : Cond.selects RX5 yX5_expected yX5_expected ∈ TB := TB.mem (List.mem_of_getElem? (i := 425) (by decide +kernel)) (by decide +kernel)
theorem w_426 : Cond.code yX5_expected prog_1_method_15_code 6 (some .long) ∈ TB := TB.mem (List.mem_of_getElem? (i := 426) (by decide +kernel)) (by decide +kernel)
theorem w_440 : Cond.methodLink RL 80 yX5_share ∈ TB := TB.mem (List.mem_of_getElem? (i := 440) (by decide +kernel)) (by decide +kernel)
theorem w_441 : Cond.instanceMethod yX5_share ∈ TB := TB.mem (List.mem_of_getElem? (i := 441) (by decide +kernel)) (by decide +kernel)
theorem w_442 : Cond.selects RX5 yX5_share yX5_share ∈ TB := TB.mem (List.mem_of_getElem? (i := 442) (by decide +kernel)) (by decide +kernel)
theorem w_443 : Cond.code yX5_share prog_1_method_16_code 7 (some .int) ∈ TB := TB.mem (List.mem_of_getElem? (i := 443) (by decide +kernel)) (by decide +kernel)
theorem w_444 : Cond.methodLink RL 84 yX5_lacking ∈ TB := TB.mem (List.mem_of_getElem? (i := 444) (by decide +kernel)) (by decide +kernel)
theorem w_445 : Cond.instanceMethod yX5_lacking ∈ TB := TB.mem (List.mem_of_getElem? (i := 445) (by decide +kernel)) (by decide +kernel)
theorem w_446 : Cond.selects RX5 yX5_lacking yX5_lacking ∈ TB := TB.mem (List.mem_of_getElem? (i := 446) (by decide +kernel)) (by decide +kernel)
theorem w_447 : Cond.code yX5_lacking prog_1_method_17_code 9 (some .int) ∈ TB := TB.mem (List.mem_of_getElem? (i := 447) (by decide +kernel)) (by decide +kernel)
theorem w_452 : Cond.methodLink RL 89 yX5_sure ∈ TB := TB.mem (List.mem_of_getElem? (i := 452) (by decide +kernel)) (by decide +kernel)
theorem w_453 : Cond.instanceMethod yX5_sure ∈ TB := TB.mem (List.mem_of_getElem? (i := 453) (by decide +kernel)) (by decide +kernel)
theorem w_454 : Cond.selects RX5 yX5_sure yX5_sure ∈ TB := TB.mem (List.mem_of_getElem? (i := 454) (by decide +kernel)) (by decide +kernel)
theorem w_455 : Cond.code yX5_sure prog_1_method_18_code 7 (some .int) ∈ TB := TB.mem (List.mem_of_getElem? (i := 455) (by decide +kernel)) (by decide +kernel)
theorem w_463 : Cond.methodLink RL 93 yX5_look ∈ TB := TB.mem (List.mem_of_getElem? (i := 463) (by decide +kernel)) (by decide +kernel)
theorem w_464 : Cond.instanceMethod yX5_look ∈ TB := TB.mem (List.mem_of_getElem? (i := 464) (by decide +kernel)) (by decide +kernel)
theorem w_465 : Cond.selects RX5 yX5_look yX5_look ∈ TB := TB.mem (List.mem_of_getElem? (i := 465) (by decide +kernel)) (by decide +kernel)
theorem w_466 : Cond.code yX5_look prog_1_method_19_code 4 (some .int) ∈ TB := TB.mem (List.mem_of_getElem? (i := 466) (by decide +kernel)) (by decide +kernel)
theorem w_476 : Cond.methodLink RL 97 yX5_isUnder ∈ TB := TB.mem (List.mem_of_getElem? (i := 476) (by decide +kernel)) (by decide +kernel)
theorem w_477 : Cond.instanceMethod yX5_isUnder ∈ TB := TB.mem (List.mem_of_getElem? (i := 477) (by decide +kernel)) (by decide +kernel)
theorem w_478 : Cond.selects RX5 yX5_isUnder yX5_isUnder ∈ TB := TB.mem (List.mem_of_getElem? (i := 478) (by decide +kernel)) (by decide +kernel)
theorem w_479 : Cond.code yX5_isUnder prog_1_method_20_code 3 (some .int) ∈ TB := TB.mem (List.mem_of_getElem? (i := 479) (by decide +kernel)) (by decide +kernel)
theorem w_480 : Cond.methodLink RL 101 yX5_tell ∈ TB := TB.mem (List.mem_of_getElem? (i := 480) (by decide +kernel)) (by decide +kernel)
theorem w_481 : Cond.instanceMethod yX5_tell ∈ TB := TB.mem (List.mem_of_getElem? (i := 481) (by decide +kernel)) (by decide +kernel)
theorem w_482 : Cond.selects RX5 yX5_tell yX5_tell ∈ TB := TB.mem (List.mem_of_getElem? (i := 482) (by decide +kernel)) (by decide +kernel)
theorem w_483 : Cond.code yX5_tell prog_1_method_21_code 2 (some .int) ∈ TB := TB.mem (List.mem_of_getElem? (i := 483) (by decide +kernel)) (by decide +kernel)
theorem w_556 : Cond.methodLink RL 17 yX6_under ∈ TB := TB.mem (List.mem_of_getElem? (i := 556) (by decide +kernel)) (by decide +kernel)
theorem w_557 : Cond.instanceMethod yX6_under ∈ TB := TB.mem (List.mem_of_getElem? (i := 557) (by decide +kernel)) (by decide +kernel)
theorem w_558 : Cond.selects RX6 yX6_under yX6_under ∈ TB := TB.mem (List.mem_of_getElem? (i := 558) (by decide +kernel)) (by decide +kernel)
theorem w_559 : Cond.code yX6_under prog_8_method_6_code 3 (some .boolean) ∈ TB := TB.mem (List.mem_of_getElem? (i := 559) (by decide +kernel)) (by decide +kernel)
theorem w_570 : Cond.methodLink RL 100 yX6_isUnder ∈ TB := TB.mem (List.mem_of_getElem? (i := 570) (by decide +kernel)) (by decide +kernel)
theorem w_571 : Cond.instanceMethod yX6_isUnder ∈ TB := TB.mem (List.mem_of_getElem? (i := 571) (by decide +kernel)) (by decide +kernel)
theorem w_572 : Cond.selects RX6 yX6_isUnder yX6_isUnder ∈ TB := TB.mem (List.mem_of_getElem? (i := 572) (by decide +kernel)) (by decide +kernel)
theorem w_573 : Cond.code yX6_isUnder prog_8_method_7_code 3 (some .int) ∈ TB := TB.mem (List.mem_of_getElem? (i := 573) (by decide +kernel)) (by decide +kernel)
theorem w_574 : Cond.methodLink RL 22 yX6_row ∈ TB := TB.mem (List.mem_of_getElem? (i := 574) (by decide +kernel)) (by decide +kernel)
theorem w_575 : Cond.instanceMethod yX6_row ∈ TB := TB.mem (List.mem_of_getElem? (i := 575) (by decide +kernel)) (by decide +kernel)
theorem w_576 : Cond.selects RX6 yX6_row yX6_row ∈ TB := TB.mem (List.mem_of_getElem? (i := 576) (by decide +kernel)) (by decide +kernel)
theorem w_577 : Cond.code yX6_row prog_8_method_8_code 2 (some .int) ∈ TB := TB.mem (List.mem_of_getElem? (i := 577) (by decide +kernel)) (by decide +kernel)
theorem w_578 : Cond.methodLink RL 27 yX6_put ∈ TB := TB.mem (List.mem_of_getElem? (i := 578) (by decide +kernel)) (by decide +kernel)
theorem w_579 : Cond.instanceMethod yX6_put ∈ TB := TB.mem (List.mem_of_getElem? (i := 579) (by decide +kernel)) (by decide +kernel)
theorem w_580 : Cond.selects RX6 yX6_put yX6_put ∈ TB := TB.mem (List.mem_of_getElem? (i := 580) (by decide +kernel)) (by decide +kernel)
theorem w_581 : Cond.code yX6_put prog_8_method_9_code 5 (some .int) ∈ TB := TB.mem (List.mem_of_getElem? (i := 581) (by decide +kernel)) (by decide +kernel)
theorem w_586 : Cond.methodLink RL 32 yX6_take ∈ TB := TB.mem (List.mem_of_getElem? (i := 586) (by decide +kernel)) (by decide +kernel)
theorem w_587 : Cond.instanceMethod yX6_take ∈ TB := TB.mem (List.mem_of_getElem? (i := 587) (by decide +kernel)) (by decide +kernel)
theorem w_588 : Cond.selects RX6 yX6_take yX6_take ∈ TB := TB.mem (List.mem_of_getElem? (i := 588) (by decide +kernel)) (by decide +kernel)
theorem w_589 : Cond.code yX6_take prog_8_method_10_code 3 (some .boolean) ∈ TB := TB.mem (List.mem_of_getElem? (i := 589) (by decide +kernel)) (by decide +kernel)
theorem w_590 : Cond.methodLink RL 37 yX6_gap ∈ TB := TB.mem (List.mem_of_getElem? (i := 590) (by decide +kernel)) (by decide +kernel)
theorem w_591 : Cond.instanceMethod yX6_gap ∈ TB := TB.mem (List.mem_of_getElem? (i := 591) (by decide +kernel)) (by decide +kernel)
theorem w_592 : Cond.selects RX6 yX6_gap yX6_gap ∈ TB := TB.mem (List.mem_of_getElem? (i := 592) (by decide +kernel)) (by decide +kernel)
theorem w_593 : Cond.code yX6_gap prog_8_method_11_code 2 (some .boolean) ∈ TB := TB.mem (List.mem_of_getElem? (i := 593) (by decide +kernel)) (by decide +kernel)
theorem w_594 : Cond.methodLink RL 41 yX6_span ∈ TB := TB.mem (List.mem_of_getElem? (i := 594) (by decide +kernel)) (by decide +kernel)
theorem w_595 : Cond.instanceMethod yX6_span ∈ TB := TB.mem (List.mem_of_getElem? (i := 595) (by decide +kernel)) (by decide +kernel)
theorem w_596 : Cond.selects RX6 yX6_span yX6_span ∈ TB := TB.mem (List.mem_of_getElem? (i := 596) (by decide +kernel)) (by decide +kernel)
theorem w_597 : Cond.code yX6_span prog_8_method_12_code 2 (some .boolean) ∈ TB := TB.mem (List.mem_of_getElem? (i := 597) (by decide +kernel)) (by decide +kernel)
theorem w_598 : Cond.methodLink RL 46 yX6_count ∈ TB := TB.mem (List.mem_of_getElem? (i := 598) (by decide +kernel)) (by decide +kernel)
theorem w_599 : Cond.instanceMethod yX6_count ∈ TB := TB.mem (List.mem_of_getElem? (i := 599) (by decide +kernel)) (by decide +kernel)
theorem w_600 : Cond.selects RX6 yX6_count yX6_count ∈ TB := TB.mem (List.mem_of_getElem? (i := 600) (by decide +kernel)) (by decide +kernel)
theorem w_601 : Cond.code yX6_count prog_8_method_22_code 5 (some .int) ∈ TB := TB.mem (List.mem_of_getElem? (i := 601) (by decide +kernel)) (by decide +kernel)
theorem w_634 : Cond.methodLink RL 51 yX6_matches ∈ TB := TB.mem (List.mem_of_getElem? (i := 634) (by decide +kernel)) (by decide +kernel)
theorem w_635 : Cond.instanceMethod yX6_matches ∈ TB := TB.mem (List.mem_of_getElem? (i := 635) (by decide +kernel)) (by decide +kernel)
theorem w_636 : Cond.selects RX6 yX6_matches yX6_matches ∈ TB := TB.mem (List.mem_of_getElem? (i := 636) (by decide +kernel)) (by decide +kernel)
theorem w_637 : Cond.code yX6_matches prog_8_method_24_code 9 (some .long) ∈ TB := TB.mem (List.mem_of_getElem? (i := 637) (by decide +kernel)) (by decide +kernel)
theorem w_647 : Cond.methodLink RL 56 yX6_match ∈ TB := TB.mem (List.mem_of_getElem? (i := 647) (by decide +kernel)) (by decide +kernel)
theorem w_648 : Cond.instanceMethod yX6_match ∈ TB := TB.mem (List.mem_of_getElem? (i := 648) (by decide +kernel)) (by decide +kernel)
theorem w_649 : Cond.selects RX6 yX6_match yX6_match ∈ TB := TB.mem (List.mem_of_getElem? (i := 649) (by decide +kernel)) (by decide +kernel)
theorem w_650 : Cond.code yX6_match prog_8_method_25_code 7 (some .int) ∈ TB := TB.mem (List.mem_of_getElem? (i := 650) (by decide +kernel)) (by decide +kernel)
theorem w_651 : Cond.methodLink RL 61 yX6_find ∈ TB := TB.mem (List.mem_of_getElem? (i := 651) (by decide +kernel)) (by decide +kernel)
theorem w_652 : Cond.instanceMethod yX6_find ∈ TB := TB.mem (List.mem_of_getElem? (i := 652) (by decide +kernel)) (by decide +kernel)
theorem w_653 : Cond.selects RX6 yX6_find yX6_find ∈ TB := TB.mem (List.mem_of_getElem? (i := 653) (by decide +kernel)) (by decide +kernel)
theorem w_654 : Cond.code yX6_find prog_8_method_28_code 10 (some .int) ∈ TB := TB.mem (List.mem_of_getElem? (i := 654) (by decide +kernel)) (by decide +kernel)
theorem w_663 : Cond.methodLink RL 65 yX6_found ∈ TB := TB.mem (List.mem_of_getElem? (i := 663) (by decide +kernel)) (by decide +kernel)
theorem w_664 : Cond.instanceMethod yX6_found ∈ TB := TB.mem (List.mem_of_getElem? (i := 664) (by decide +kernel)) (by decide +kernel)
theorem w_665 : Cond.selects RX6 yX6_found yX6_found ∈ TB := TB.mem (List.mem_of_getElem? (i := 665) (by decide +kernel)) (by decide +kernel)
theorem w_666 : Cond.code yX6_found prog_8_method_29_code 3 (some .int) ∈ TB := TB.mem (List.mem_of_getElem? (i := 666) (by decide +kernel)) (by decide +kernel)
theorem w_667 : Cond.methodLink RL 69 yX6_closed ∈ TB := TB.mem (List.mem_of_getElem? (i := 667) (by decide +kernel)) (by decide +kernel)
theorem w_668 : Cond.instanceMethod yX6_closed ∈ TB := TB.mem (List.mem_of_getElem? (i := 668) (by decide +kernel)) (by decide +kernel)
theorem w_669 : Cond.selects RX6 yX6_closed yX6_closed ∈ TB := TB.mem (List.mem_of_getElem? (i := 669) (by decide +kernel)) (by decide +kernel)
theorem w_670 : Cond.code yX6_closed prog_8_method_31_code 8 (some .int) ∈ TB := TB.mem (List.mem_of_getElem? (i := 670) (by decide +kernel)) (by decide +kernel)
theorem w_675 : Cond.methodLink RL 74 yX6_best ∈ TB := TB.mem (List.mem_of_getElem? (i := 675) (by decide +kernel)) (by decide +kernel)
theorem w_676 : Cond.instanceMethod yX6_best ∈ TB := TB.mem (List.mem_of_getElem? (i := 676) (by decide +kernel)) (by decide +kernel)
theorem w_677 : Cond.selects RX6 yX6_best yX6_best ∈ TB := TB.mem (List.mem_of_getElem? (i := 677) (by decide +kernel)) (by decide +kernel)
theorem w_678 : Cond.code yX6_best prog_8_method_33_code 6 (some .int) ∈ TB := TB.mem (List.mem_of_getElem? (i := 678) (by decide +kernel)) (by decide +kernel)
theorem w_683 : Cond.methodLink RL 79 yX6_expected ∈ TB := TB.mem (List.mem_of_getElem? (i := 683) (by decide +kernel)) (by decide +kernel)
theorem w_684 : Cond.instanceMethod yX6_expected ∈ TB := TB.mem (List.mem_of_getElem? (i := 684) (by decide +kernel)) (by decide +kernel)
theorem w_685 : Cond.selects RX6 yX6_expected yX6_expected ∈ TB := TB.mem (List.mem_of_getElem? (i := 685) (by decide +kernel)) (by decide +kernel)
theorem w_686 : Cond.code yX6_expected prog_8_method_36_code 8 (some .long) ∈ TB := TB.mem (List.mem_of_getElem? (i := 686) (by decide +kernel)) (by decide +kernel)
theorem w_695 : Cond.methodLink RL 83 yX6_share ∈ TB := TB.mem (List.mem_of_getElem? (i := 695) (by decide +kernel)) (by decide +kernel)
theorem w_696 : Cond.instanceMethod yX6_share ∈ TB := TB.mem (List.mem_of_getElem? (i := 696) (by decide +kernel)) (by decide +kernel)
theorem w_697 : Cond.selects RX6 yX6_share yX6_share ∈ TB := TB.mem (List.mem_of_getElem? (i := 697) (by decide +kernel)) (by decide +kernel)
theorem w_698 : Cond.code yX6_share prog_8_method_37_code 6 (some .int) ∈ TB := TB.mem (List.mem_of_getElem? (i := 698) (by decide +kernel)) (by decide +kernel)
theorem w_699 : Cond.methodLink RL 88 yX6_lacking ∈ TB := TB.mem (List.mem_of_getElem? (i := 699) (by decide +kernel)) (by decide +kernel)
theorem w_700 : Cond.instanceMethod yX6_lacking ∈ TB := TB.mem (List.mem_of_getElem? (i := 700) (by decide +kernel)) (by decide +kernel)
theorem w_701 : Cond.selects RX6 yX6_lacking yX6_lacking ∈ TB := TB.mem (List.mem_of_getElem? (i := 701) (by decide +kernel)) (by decide +kernel)
theorem w_702 : Cond.code yX6_lacking prog_8_method_39_code 8 (some .int) ∈ TB := TB.mem (List.mem_of_getElem? (i := 702) (by decide +kernel)) (by decide +kernel)
theorem w_707 : Cond.methodLink RL 92 yX6_sure ∈ TB := TB.mem (List.mem_of_getElem? (i := 707) (by decide +kernel)) (by decide +kernel)
theorem w_708 : Cond.instanceMethod yX6_sure ∈ TB := TB.mem (List.mem_of_getElem? (i := 708) (by decide +kernel)) (by decide +kernel)
theorem w_709 : Cond.selects RX6 yX6_sure yX6_sure ∈ TB := TB.mem (List.mem_of_getElem? (i := 709) (by decide +kernel)) (by decide +kernel)
theorem w_710 : Cond.code yX6_sure prog_8_method_40_code 9 (some .int) ∈ TB := TB.mem (List.mem_of_getElem? (i := 710) (by decide +kernel)) (by decide +kernel)
theorem w_711 : Cond.methodLink RL 96 yX6_look ∈ TB := TB.mem (List.mem_of_getElem? (i := 711) (by decide +kernel)) (by decide +kernel)
theorem w_712 : Cond.instanceMethod yX6_look ∈ TB := TB.mem (List.mem_of_getElem? (i := 712) (by decide +kernel)) (by decide +kernel)
theorem w_713 : Cond.selects RX6 yX6_look yX6_look ∈ TB := TB.mem (List.mem_of_getElem? (i := 713) (by decide +kernel)) (by decide +kernel)
theorem w_714 : Cond.code yX6_look prog_8_method_41_code 4 (some .int) ∈ TB := TB.mem (List.mem_of_getElem? (i := 714) (by decide +kernel)) (by decide +kernel)
theorem w_715 : Cond.methodLink RL 104 yX6_tell ∈ TB := TB.mem (List.mem_of_getElem? (i := 715) (by decide +kernel)) (by decide +kernel)
theorem w_716 : Cond.instanceMethod yX6_tell ∈ TB := TB.mem (List.mem_of_getElem? (i := 716) (by decide +kernel)) (by decide +kernel)
theorem w_717 : Cond.selects RX6 yX6_tell yX6_tell ∈ TB := TB.mem (List.mem_of_getElem? (i := 717) (by decide +kernel)) (by decide +kernel)
theorem w_718 : Cond.code yX6_tell prog_8_method_42_code 4 (some .int) ∈ TB := TB.mem (List.mem_of_getElem? (i := 718) (by decide +kernel)) (by decide +kernel)
/-! the script's cell is number 200 -/
def f_sld (n : Nat) (xs : Nat → Int32) : tF := fun _ _ _ Y pc ls st M => match st with
  | .inl x :: .inr (.inl i) :: st => i = 200 ∧ (0 ≤ x ∧ x < n) ∧ Y (pc + 1) ls (vI (xs x.toNat).toInt :: st) M
  | _ => False
def f_slen (n : Nat) : tF := fun _ _ _ Y pc ls st M => match st with
  | .inr (.inl i) :: st => i = 200 ∧ Y (pc + 1) ls (vI n :: st) M
  | _ => False
def f_lwr : tF := fun _ _ _ _ _ _ st _ => st = [vI 1]
def f_eq (tgt : Nat) : tF := fun _ _ _ Y _ ls st M => match st with
  | .inl y :: .inl x :: st => x = y ∧ Y tgt ls st M
  | _ => False
def f_leq : tF := fun _ _ _ Y pc ls st M => match st with
  | .inr (.inr y) :: .inr (.inr x) :: st => x = y ∧ Y (pc + 1) ls (vI 0 :: st) M
  | _ => False
theorem m_eq (tgt : Nat) : FMono (f_eq tgt) := by
  intro C hC d Q Y Y' hY pc ls st M h
  unfold f_eq at h ⊢
  split at h
  · exact ⟨h.1, hY _ _ _ _ h.2⟩
  · exact h.elim
theorem m_leq : FMono f_leq := by
  intro C hC d Q Y Y' hY pc ls st M h
  unfold f_leq at h ⊢
  split at h
  · exact ⟨h.1, hY _ _ _ _ h.2⟩
  · exact h.elim
theorem m_sld (n : Nat) (xs : Nat → Int32) : FMono (f_sld n xs) := by
  intro C hC d Q Y Y' hY pc ls st M h
  unfold f_sld at h ⊢
  split at h
  · exact ⟨h.1, h.2.1, hY _ _ _ _ h.2.2⟩
  · exact h.elim
theorem m_slen (n : Nat) : FMono (f_slen n) := by
  intro C hC d Q Y Y' hY pc ls st M h
  unfold f_slen at h ⊢
  split at h
  · exact ⟨h.1, hY _ _ _ _ h.2⟩
  · exact h.elim
theorem m_lwr : FMono f_lwr := fun _ _ _ _ _ _ _ _ _ _ _ h => h
def tabT : List (Nat × List (Nat × tF)) → Nat → tF
  | [], _ => f_no
  | e :: l, pc => if pc < e.1 then tabF e.2 pc else tabT l pc
def AllT (P : Nat × tF → Prop) : List (Nat × List (Nat × tF)) → Prop
  | [] => True
  | e :: l => AllS P e.2 ∧ AllT P l
theorem tabT_all {P : Nat × tF → Prop} (h0 : ∀ pc, P (pc, f_no)) : ∀ (l : List (Nat × List (Nat × tF))), AllT P l → ∀ pc, P (pc, tabT l pc)
  | [], _, pc => h0 pc
  | e :: l, h, pc => by
    unfold tabT
    by_cases q : pc < e.1
    · rw [if_pos q]
      exact tabF_all h0 e.2 h.1 pc
    · rw [if_neg q]
      exact tabT_all h0 l h.2 pc
abbrev lawY (p : Program) (l : Launch) (e : Env) (s : State) (m : MethodId) (b : Nat) (below : List Frame) (meth : Method) (c : Code) (cells slots : Nat) (L : Nat → Nat) (D : va_G) (cI cZ cR : ClassId) : tY :=
  sY p l e room_1 s m #[Value.ref b] below meth c cells slots (lw_Z below #[Value.ref b] s) 4 (fun q => s.heap.size ≤ q) L D cI cZ cR
abbrev LRow (p : Program) (l : Launch) (e : Env) (s : State) (m : MethodId) (b : Nat) (below : List Frame) (meth : Method) (c : Code) (cells slots : Nat) (L : Nat → Nat) (D : va_G) (cI cZ cR : ClassId) (d : Nat) (Q : tQ) (x : Nat × tF) : Prop :=
  ∀ ls st M, x.2 (sC l L D cI cZ cR) d Q (lawY p l e s m b below meth c cells slots L D cI cZ cR) x.1 ls st M → lawY p l e s m b below meth c cells slots L D cI cZ cR x.1 ls st M
section LL
variable {p : Program} {l : Launch} {e : Env} {R : Room} {s : State} {m : MethodId} {args : Array Value} {below : List Frame} {meth : Method} {c : Code} {cells slots : Nat} {QQ : State → Prop} {cc : ByteArray} {nL : Nat} {own : String} {A : Nat → Prop} {L : Nat → Nat} {D : va_G} {cI cZ cR : ClassId} {d : Nat} {C : tC} {Q : tQ} {pc : Nat} {b n : Nat} {xs : Nat → Int32}
theorem r_sld (F : Fx p R s m args c cells slots cc nL own A L D cI cZ cR d) (hX : va_X b n xs s s.heap) (hbl : b < s.heap.size) (hbA : ¬ A b) (hL2 : L 200 = b) (hn : n ≤ 100000) (hd : decode cc pc = .ok (.iaload, 1)) : ∀ ls st M, f_sld n xs C d Q (sY p l e R s m args below meth c cells slots QQ nL A L D cI cZ cR) pc ls st M → sY p l e R s m args below meth c cells slots QQ nL A L D cI cZ cR pc ls st M := by
  intro ls st M h H locs lsA hP hS hl
  obtain ⟨hx, hb, hml, hown, hts, hK, hi, hA, hR, hcs, hNw⟩ := F
  unfold f_sld at h
  split at h
  · rename_i x i st
    obtain ⟨rfl, h1, h2⟩ := h
    obtain ⟨g1, g2⟩ := iN_in h1.1 (show x < (n : Nat) from h1.2) hn
    have k := h2 H locs lsA hP hS hl
    show W p l e R s m args below meth c H locs cells slots QQ (F0 m pc lsA (.int (iN x) :: .ref (L 200) :: st.map (toV L)))
    rw [hL2]
    refine va_sld hx hb hX hbl hbA hS g1 hd ?_
    rw [g2, ← iN_of (xs x.toNat)]
    exact k
  · exact h.elim
theorem r_slen (F : Fx p R s m args c cells slots cc nL own A L D cI cZ cR d) (hX : va_X b n xs s s.heap) (hbl : b < s.heap.size) (hbA : ¬ A b) (hL2 : L 200 = b) (hd : decode cc pc = .ok (.arraylength, 1)) : ∀ ls st M, f_slen n C d Q (sY p l e R s m args below meth c cells slots QQ nL A L D cI cZ cR) pc ls st M → sY p l e R s m args below meth c cells slots QQ nL A L D cI cZ cR pc ls st M := by
  intro ls st M h H locs lsA hP hS hl
  obtain ⟨hx, hb, hml, hown, hts, hK, hi, hA, hR, hcs, hNw⟩ := F
  unfold f_slen at h
  split at h
  · rename_i i st
    obtain ⟨rfl, h2⟩ := h
    have k := h2 H locs lsA hP hS hl
    show W p l e R s m args below meth c H locs cells slots QQ (F0 m pc lsA (.ref (L 200) :: st.map (toV L)))
    rw [hL2]
    refine va_slen hx hb hX hbl hbA hS hd ?_
    have e2 : Int32.ofNat n = iN (n : Int) := nI_iN n
    rw [e2]
    exact k
  · exact h.elim
theorem r_eq (F : Fx p R s m args c cells slots cc nL own A L D cI cZ cR d) {off : Int} {tgt : Nat} (hd : decode cc pc = .ok (.if_icmp .eq off, 3)) (ht : (pc : Int) + off = (tgt : Int)) : ∀ ls st M, f_eq tgt C d Q (sY p l e R s m args below meth c cells slots QQ nL A L D cI cZ cR) pc ls st M → sY p l e R s m args below meth c cells slots QQ nL A L D cI cZ cR pc ls st M := by
  intro ls st M h H locs lsA hP hS hl
  obtain ⟨hx, hb, hml, hown, hts, hK, hi, hA, hR, hcs, hNw⟩ := F
  unfold f_eq at h
  split at h
  · rename_i y x st
    exact lv_icmp_eq (tgt := tgt) hx hb hd ht (fun _ => h.2 H locs lsA hP hS hl) (fun z => absurd (congrArg iN h.1) z)
  · exact h.elim
theorem lg_cmp_self (x : Int64) : lg_cmp x x = iN 0 := by
  unfold lg_cmp
  rw [if_neg (by rw [gt_iff_lt, Int64.lt_iff_toInt_lt]; omega), if_pos rfl]
  rfl
theorem r_leq (F : Fx p R s m args c cells slots cc nL own A L D cI cZ cR d) (hd : decode cc pc = .ok (.lcmp, 1)) : ∀ ls st M, f_leq C d Q (sY p l e R s m args below meth c cells slots QQ nL A L D cI cZ cR) pc ls st M → sY p l e R s m args below meth c cells slots QQ nL A L D cI cZ cR pc ls st M := by
  intro ls st M h H locs lsA hP hS hl
  obtain ⟨hx, hb, hml, hown, hts, hK, hi, hA, hR, hcs, hNw⟩ := F
  unfold f_leq at h
  split at h
  · rename_i y x st
    have k := h.2 H locs lsA hP hS hl
    have e1 := h.1
    subst e1
    rw [List.map_cons, show toV L (vI 0) = .int (iN 0) from rfl, ← lg_cmp_self (lI x)] at k
    exact W.lcmp hx hb hd k
  · exact h.elim
theorem r_lwr (F : Fx p room_1 s m #[Value.ref b] c cells slots code nL own (fun q => s.heap.size ≤ q) L D cI cZ cR d) (hr : meth.sig.returnType = ret) (hlk : meth.locks = false) (hcl : cells ≤ 600000) (hsl : slots ≤ 7302250) (hd : decode code pc = .ok (.ireturn, 1)) : ∀ ls st M, f_lwr C d Q (sY p l e room_1 s m #[Value.ref b] below meth c cells slots (lw_Z below #[Value.ref b] s) nL (fun q => s.heap.size ≤ q) L D cI cZ cR) pc ls st M → sY p l e room_1 s m #[Value.ref b] below meth c cells slots (lw_Z below #[Value.ref b] s) nL (fun q => s.heap.size ≤ q) L D cI cZ cR pc ls st M := by
  intro ls st M h H locs lsA hP hS hl
  obtain ⟨hx, hb, hml, hown, hts, hK, hi, hA, hR, hcs, hNw⟩ := F
  have h : st = [vI 1] := h
  subst h
  refine va_forget hS.2.2 ?_
  refine W.widen (k := 600000) (n := 7302250) hcl hsl ?_
  exact lw_ret hx hb hr hlk hd
end LL
def k_lh (n : Nat) (xs : Nat → Int32) : List (Nat × tF) := [(18, f_loadI 3 1), (19, f_loadR 0 1), (20, f_slen n), (21, f_push 7 2), (23, f_sub), (24, f_icmp cGt cLe 934), (27, f_loadR 0 1), (28, f_loadI 3 1), (29, f_sld n xs), (30, f_push 31 2), (32, f_and), (33, f_tsw 0 19 [128, 161, 184, 227, 276, 299, 322, 375, 439, 514, 547, 580, 603, 616, 650, 703, 766, 829, 872, 905] 928)]
theorem mm_lh (n : Nat) (xs : Nat → Int32) : AllS (fun e => FMono e.2) (k_lh n xs) := ⟨m_loadI 3 1, m_loadR 0 1, m_slen _, m_push 7 2, m_sub, m_icmp cGt cLe 934, m_loadR 0 1, m_loadI 3 1, m_sld _ _, m_push 31 2, m_and, m_tsw 0 19 [128, 161, 184, 227, 276, 299, 322, 375, 439, 514, 547, 580, 603, 616, 650, 703, 766, 829, 872, 905] 928, trivial⟩
def k_lc0 (n : Nat) (xs : Nat → Int32) : List (Nat × tF) := [(128, f_loadR 1 1), (129, f_loadR 0 1), (130, f_loadI 3 1), (131, f_push 1 1), (132, f_add), (133, f_sld n xs), (134, f_loadR 0 1), (135, f_loadI 3 1), (136, f_push 2 1), (137, f_add), (138, f_sld n xs), (139, f_callV 4 40 2), (142, f_loadR 2 1), (143, f_loadR 0 1), (144, f_loadI 3 1), (145, f_push 1 1), (146, f_add), (147, f_sld n xs), (148, f_loadR 0 1), (149, f_loadI 3 1), (150, f_push 2 1), (151, f_add), (152, f_sld n xs), (153, f_callV 5 82 2), (156, f_eq 928), (159, f_push 0 1), (160, f_no)]
theorem mm_lc0 (n : Nat) (xs : Nat → Int32) : AllS (fun e => FMono e.2) (k_lc0 n xs) := ⟨m_loadR 1 1, m_loadR 0 1, m_loadI 3 1, m_push 1 1, m_add, m_sld _ _, m_loadR 0 1, m_loadI 3 1, m_push 2 1, m_add, m_sld _ _, m_callV 4 40 2, m_loadR 2 1, m_loadR 0 1, m_loadI 3 1, m_push 1 1, m_add, m_sld _ _, m_loadR 0 1, m_loadI 3 1, m_push 2 1, m_add, m_sld _ _, m_callV 5 82 2, m_eq 928, m_push 0 1, m_no, trivial⟩
def k_lc1 (n : Nat) (xs : Nat → Int32) : List (Nat × tF) := [(161, f_loadR 1 1), (162, f_loadR 0 1), (163, f_loadI 3 1), (164, f_push 1 1), (165, f_add), (166, f_sld n xs), (167, f_callV 4 41 1), (170, f_loadR 2 1), (171, f_loadR 0 1), (172, f_loadI 3 1), (173, f_push 1 1), (174, f_add), (175, f_sld n xs), (176, f_callV 5 84 1), (179, f_eq 928), (182, f_push 0 1), (183, f_no)]
theorem mm_lc1 (n : Nat) (xs : Nat → Int32) : AllS (fun e => FMono e.2) (k_lc1 n xs) := ⟨m_loadR 1 1, m_loadR 0 1, m_loadI 3 1, m_push 1 1, m_add, m_sld _ _, m_callV 4 41 1, m_loadR 2 1, m_loadR 0 1, m_loadI 3 1, m_push 1 1, m_add, m_sld _ _, m_callV 5 84 1, m_eq 928, m_push 0 1, m_no, trivial⟩
def k_lc2 (n : Nat) (xs : Nat → Int32) : List (Nat × tF) := [(184, f_loadR 1 1), (185, f_loadR 0 1), (186, f_loadI 3 1), (187, f_push 1 1), (188, f_add), (189, f_sld n xs), (190, f_loadR 0 1), (191, f_loadI 3 1), (192, f_push 2 1), (193, f_add), (194, f_sld n xs), (195, f_loadR 0 1), (196, f_loadI 3 1), (197, f_push 3 1), (198, f_add), (199, f_sld n xs), (200, f_callV 4 42 3), (203, f_loadR 2 1), (204, f_loadR 0 1), (205, f_loadI 3 1), (206, f_push 1 1), (207, f_add), (208, f_sld n xs), (209, f_loadR 0 1), (210, f_loadI 3 1), (211, f_push 2 1), (212, f_add), (213, f_sld n xs), (214, f_loadR 0 1), (215, f_loadI 3 1), (216, f_push 3 1), (217, f_add), (218, f_sld n xs), (219, f_callV 5 85 3), (222, f_eq 928), (225, f_push 0 1), (226, f_no)]
theorem mm_lc2 (n : Nat) (xs : Nat → Int32) : AllS (fun e => FMono e.2) (k_lc2 n xs) := ⟨m_loadR 1 1, m_loadR 0 1, m_loadI 3 1, m_push 1 1, m_add, m_sld _ _, m_loadR 0 1, m_loadI 3 1, m_push 2 1, m_add, m_sld _ _, m_loadR 0 1, m_loadI 3 1, m_push 3 1, m_add, m_sld _ _, m_callV 4 42 3, m_loadR 2 1, m_loadR 0 1, m_loadI 3 1, m_push 1 1, m_add, m_sld _ _, m_loadR 0 1, m_loadI 3 1, m_push 2 1, m_add, m_sld _ _, m_loadR 0 1, m_loadI 3 1, m_push 3 1, m_add, m_sld _ _, m_callV 5 85 3, m_eq 928, m_push 0 1, m_no, trivial⟩
def k_lc3 (n : Nat) (xs : Nat → Int32) : List (Nat × tF) := [(227, f_loadR 1 1), (228, f_loadR 0 1), (229, f_loadI 3 1), (230, f_push 1 1), (231, f_add), (232, f_sld n xs), (233, f_loadR 0 1), (234, f_loadI 3 1), (235, f_push 2 1), (236, f_add), (237, f_sld n xs), (238, f_if0 cEq cNe 245), (241, f_push 1 1), (242, f_goto 246), (245, f_push 0 1), (246, f_callV 4 43 2), (249, f_loadR 2 1), (250, f_loadR 0 1), (251, f_loadI 3 1), (252, f_push 1 1), (253, f_add), (254, f_sld n xs), (255, f_loadR 0 1), (256, f_loadI 3 1), (257, f_push 2 1), (258, f_add), (259, f_sld n xs), (260, f_if0 cEq cNe 267), (263, f_push 1 1), (264, f_goto 268), (267, f_push 0 1), (268, f_callV 5 86 2), (271, f_eq 928), (274, f_push 0 1), (275, f_no)]
theorem mm_lc3 (n : Nat) (xs : Nat → Int32) : AllS (fun e => FMono e.2) (k_lc3 n xs) := ⟨m_loadR 1 1, m_loadR 0 1, m_loadI 3 1, m_push 1 1, m_add, m_sld _ _, m_loadR 0 1, m_loadI 3 1, m_push 2 1, m_add, m_sld _ _, m_if0 cEq cNe 245, m_push 1 1, m_goto 246, m_push 0 1, m_callV 4 43 2, m_loadR 2 1, m_loadR 0 1, m_loadI 3 1, m_push 1 1, m_add, m_sld _ _, m_loadR 0 1, m_loadI 3 1, m_push 2 1, m_add, m_sld _ _, m_if0 cEq cNe 267, m_push 1 1, m_goto 268, m_push 0 1, m_callV 5 86 2, m_eq 928, m_push 0 1, m_no, trivial⟩
def k_lc4 (n : Nat) (xs : Nat → Int32) : List (Nat × tF) := [(276, f_loadR 1 1), (277, f_loadR 0 1), (278, f_loadI 3 1), (279, f_push 1 1), (280, f_add), (281, f_sld n xs), (282, f_callV 4 44 1), (285, f_loadR 2 1), (286, f_loadR 0 1), (287, f_loadI 3 1), (288, f_push 1 1), (289, f_add), (290, f_sld n xs), (291, f_callV 5 87 1), (294, f_eq 928), (297, f_push 0 1), (298, f_no)]
theorem mm_lc4 (n : Nat) (xs : Nat → Int32) : AllS (fun e => FMono e.2) (k_lc4 n xs) := ⟨m_loadR 1 1, m_loadR 0 1, m_loadI 3 1, m_push 1 1, m_add, m_sld _ _, m_callV 4 44 1, m_loadR 2 1, m_loadR 0 1, m_loadI 3 1, m_push 1 1, m_add, m_sld _ _, m_callV 5 87 1, m_eq 928, m_push 0 1, m_no, trivial⟩
def k_lc5 (n : Nat) (xs : Nat → Int32) : List (Nat × tF) := [(299, f_loadR 1 1), (300, f_loadR 0 1), (301, f_loadI 3 1), (302, f_push 1 1), (303, f_add), (304, f_sld n xs), (305, f_callV 4 45 1), (308, f_loadR 2 1), (309, f_loadR 0 1), (310, f_loadI 3 1), (311, f_push 1 1), (312, f_add), (313, f_sld n xs), (314, f_callV 5 88 1), (317, f_eq 928), (320, f_push 0 1), (321, f_no)]
theorem mm_lc5 (n : Nat) (xs : Nat → Int32) : AllS (fun e => FMono e.2) (k_lc5 n xs) := ⟨m_loadR 1 1, m_loadR 0 1, m_loadI 3 1, m_push 1 1, m_add, m_sld _ _, m_callV 4 45 1, m_loadR 2 1, m_loadR 0 1, m_loadI 3 1, m_push 1 1, m_add, m_sld _ _, m_callV 5 88 1, m_eq 928, m_push 0 1, m_no, trivial⟩
def k_lc6 (n : Nat) (xs : Nat → Int32) : List (Nat × tF) := [(322, f_loadR 1 1), (323, f_loadR 0 1), (324, f_loadI 3 1), (325, f_push 1 1), (326, f_add), (327, f_sld n xs), (328, f_loadR 0 1), (329, f_loadI 3 1), (330, f_push 2 1), (331, f_add), (332, f_sld n xs), (333, f_loadR 0 1), (334, f_loadI 3 1), (335, f_push 3 1), (336, f_add), (337, f_sld n xs), (338, f_loadR 0 1), (339, f_loadI 3 1), (340, f_push 4 1), (341, f_add), (342, f_sld n xs), (343, f_callV 4 46 4), (346, f_loadR 2 1), (347, f_loadR 0 1), (348, f_loadI 3 1), (349, f_push 1 1), (350, f_add), (351, f_sld n xs), (352, f_loadR 0 1), (353, f_loadI 3 1), (354, f_push 2 1), (355, f_add), (356, f_sld n xs), (357, f_loadR 0 1), (358, f_loadI 3 1), (359, f_push 3 1), (360, f_add), (361, f_sld n xs), (362, f_loadR 0 1), (363, f_loadI 3 1), (364, f_push 4 1), (365, f_add), (366, f_sld n xs), (367, f_callV 5 98 4), (370, f_eq 928), (373, f_push 0 1), (374, f_no)]
theorem mm_lc6 (n : Nat) (xs : Nat → Int32) : AllS (fun e => FMono e.2) (k_lc6 n xs) := ⟨m_loadR 1 1, m_loadR 0 1, m_loadI 3 1, m_push 1 1, m_add, m_sld _ _, m_loadR 0 1, m_loadI 3 1, m_push 2 1, m_add, m_sld _ _, m_loadR 0 1, m_loadI 3 1, m_push 3 1, m_add, m_sld _ _, m_loadR 0 1, m_loadI 3 1, m_push 4 1, m_add, m_sld _ _, m_callV 4 46 4, m_loadR 2 1, m_loadR 0 1, m_loadI 3 1, m_push 1 1, m_add, m_sld _ _, m_loadR 0 1, m_loadI 3 1, m_push 2 1, m_add, m_sld _ _, m_loadR 0 1, m_loadI 3 1, m_push 3 1, m_add, m_sld _ _, m_loadR 0 1, m_loadI 3 1, m_push 4 1, m_add, m_sld _ _, m_callV 5 98 4, m_eq 928, m_push 0 1, m_no, trivial⟩
def k_lc7 (n : Nat) (xs : Nat → Int32) : List (Nat × tF) := [(375, f_loadR 1 1), (376, f_loadR 0 1), (377, f_loadI 3 1), (378, f_push 1 1), (379, f_add), (380, f_sld n xs), (381, f_loadR 0 1), (382, f_loadI 3 1), (383, f_push 2 1), (384, f_add), (385, f_sld n xs), (386, f_loadR 0 1), (387, f_loadI 3 1), (388, f_push 3 1), (389, f_add), (390, f_sld n xs), (391, f_loadR 0 1), (392, f_loadI 3 1), (393, f_push 4 1), (394, f_add), (395, f_sld n xs), (396, f_loadR 0 1), (397, f_loadI 3 1), (398, f_push 5 1), (399, f_add), (400, f_sld n xs), (401, f_callV 4 47 5), (404, f_loadR 2 1), (405, f_loadR 0 1), (406, f_loadI 3 1), (407, f_push 1 1), (408, f_add), (409, f_sld n xs), (410, f_loadR 0 1), (411, f_loadI 3 1), (412, f_push 2 1), (413, f_add), (414, f_sld n xs), (415, f_loadR 0 1), (416, f_loadI 3 1), (417, f_push 3 1), (418, f_add), (419, f_sld n xs), (420, f_loadR 0 1), (421, f_loadI 3 1), (422, f_push 4 1), (423, f_add), (424, f_sld n xs), (425, f_loadR 0 1), (426, f_loadI 3 1), (427, f_push 5 1), (428, f_add), (429, f_sld n xs), (430, f_callV 5 100 5), (433, f_leq), (434, f_if0 cEq cNe 928), (437, f_push 0 1), (438, f_no)]
theorem mm_lc7 (n : Nat) (xs : Nat → Int32) : AllS (fun e => FMono e.2) (k_lc7 n xs) := ⟨m_loadR 1 1, m_loadR 0 1, m_loadI 3 1, m_push 1 1, m_add, m_sld _ _, m_loadR 0 1, m_loadI 3 1, m_push 2 1, m_add, m_sld _ _, m_loadR 0 1, m_loadI 3 1, m_push 3 1, m_add, m_sld _ _, m_loadR 0 1, m_loadI 3 1, m_push 4 1, m_add, m_sld _ _, m_loadR 0 1, m_loadI 3 1, m_push 5 1, m_add, m_sld _ _, m_callV 4 47 5, m_loadR 2 1, m_loadR 0 1, m_loadI 3 1, m_push 1 1, m_add, m_sld _ _, m_loadR 0 1, m_loadI 3 1, m_push 2 1, m_add, m_sld _ _, m_loadR 0 1, m_loadI 3 1, m_push 3 1, m_add, m_sld _ _, m_loadR 0 1, m_loadI 3 1, m_push 4 1, m_add, m_sld _ _, m_loadR 0 1, m_loadI 3 1, m_push 5 1, m_add, m_sld _ _, m_callV 5 100 5, m_leq, m_if0 cEq cNe 928, m_push 0 1, m_no, trivial⟩
def k_lc8 (n : Nat) (xs : Nat → Int32) : List (Nat × tF) := [(439, f_loadR 1 1), (440, f_loadR 0 1), (441, f_loadI 3 1), (442, f_push 1 1), (443, f_add), (444, f_sld n xs), (445, f_loadR 0 1), (446, f_loadI 3 1), (447, f_push 2 1), (448, f_add), (449, f_sld n xs), (450, f_loadR 0 1), (451, f_loadI 3 1), (452, f_push 3 1), (453, f_add), (454, f_sld n xs), (455, f_loadR 0 1), (456, f_loadI 3 1), (457, f_push 4 1), (458, f_add), (459, f_sld n xs), (460, f_loadR 0 1), (461, f_loadI 3 1), (462, f_push 5 1), (463, f_add), (464, f_sld n xs), (465, f_loadR 0 1), (466, f_loadI 3 1), (467, f_push 6 2), (469, f_add), (470, f_sld n xs), (471, f_callV 4 48 6), (474, f_loadR 2 1), (475, f_loadR 0 1), (476, f_loadI 3 1), (477, f_push 1 1), (478, f_add), (479, f_sld n xs), (480, f_loadR 0 1), (481, f_loadI 3 1), (482, f_push 2 1), (483, f_add), (484, f_sld n xs), (485, f_loadR 0 1), (486, f_loadI 3 1), (487, f_push 3 1), (488, f_add), (489, f_sld n xs), (490, f_loadR 0 1), (491, f_loadI 3 1), (492, f_push 4 1), (493, f_add), (494, f_sld n xs), (495, f_loadR 0 1), (496, f_loadI 3 1), (497, f_push 5 1), (498, f_add), (499, f_sld n xs), (500, f_loadR 0 1), (501, f_loadI 3 1), (502, f_push 6 2), (504, f_add), (505, f_sld n xs), (506, f_callV 5 101 6), (509, f_eq 928), (512, f_push 0 1), (513, f_no)]
theorem mm_lc8 (n : Nat) (xs : Nat → Int32) : AllS (fun e => FMono e.2) (k_lc8 n xs) := ⟨m_loadR 1 1, m_loadR 0 1, m_loadI 3 1, m_push 1 1, m_add, m_sld _ _, m_loadR 0 1, m_loadI 3 1, m_push 2 1, m_add, m_sld _ _, m_loadR 0 1, m_loadI 3 1, m_push 3 1, m_add, m_sld _ _, m_loadR 0 1, m_loadI 3 1, m_push 4 1, m_add, m_sld _ _, m_loadR 0 1, m_loadI 3 1, m_push 5 1, m_add, m_sld _ _, m_loadR 0 1, m_loadI 3 1, m_push 6 2, m_add, m_sld _ _, m_callV 4 48 6, m_loadR 2 1, m_loadR 0 1, m_loadI 3 1, m_push 1 1, m_add, m_sld _ _, m_loadR 0 1, m_loadI 3 1, m_push 2 1, m_add, m_sld _ _, m_loadR 0 1, m_loadI 3 1, m_push 3 1, m_add, m_sld _ _, m_loadR 0 1, m_loadI 3 1, m_push 4 1, m_add, m_sld _ _, m_loadR 0 1, m_loadI 3 1, m_push 5 1, m_add, m_sld _ _, m_loadR 0 1, m_loadI 3 1, m_push 6 2, m_add, m_sld _ _, m_callV 5 101 6, m_eq 928, m_push 0 1, m_no, trivial⟩
def k_lc9 (n : Nat) (xs : Nat → Int32) : List (Nat × tF) := [(514, f_loadR 1 1), (515, f_loadR 0 1), (516, f_loadI 3 1), (517, f_push 1 1), (518, f_add), (519, f_sld n xs), (520, f_loadR 0 1), (521, f_loadI 3 1), (522, f_push 2 1), (523, f_add), (524, f_sld n xs), (525, f_callV 4 49 2), (528, f_loadR 2 1), (529, f_loadR 0 1), (530, f_loadI 3 1), (531, f_push 1 1), (532, f_add), (533, f_sld n xs), (534, f_loadR 0 1), (535, f_loadI 3 1), (536, f_push 2 1), (537, f_add), (538, f_sld n xs), (539, f_callV 5 104 2), (542, f_eq 928), (545, f_push 0 1), (546, f_no)]
theorem mm_lc9 (n : Nat) (xs : Nat → Int32) : AllS (fun e => FMono e.2) (k_lc9 n xs) := ⟨m_loadR 1 1, m_loadR 0 1, m_loadI 3 1, m_push 1 1, m_add, m_sld _ _, m_loadR 0 1, m_loadI 3 1, m_push 2 1, m_add, m_sld _ _, m_callV 4 49 2, m_loadR 2 1, m_loadR 0 1, m_loadI 3 1, m_push 1 1, m_add, m_sld _ _, m_loadR 0 1, m_loadI 3 1, m_push 2 1, m_add, m_sld _ _, m_callV 5 104 2, m_eq 928, m_push 0 1, m_no, trivial⟩
def k_lc10 (n : Nat) (xs : Nat → Int32) : List (Nat × tF) := [(547, f_loadR 1 1), (548, f_loadR 0 1), (549, f_loadI 3 1), (550, f_push 1 1), (551, f_add), (552, f_sld n xs), (553, f_loadR 0 1), (554, f_loadI 3 1), (555, f_push 2 1), (556, f_add), (557, f_sld n xs), (558, f_callV 4 50 2), (561, f_loadR 2 1), (562, f_loadR 0 1), (563, f_loadI 3 1), (564, f_push 1 1), (565, f_add), (566, f_sld n xs), (567, f_loadR 0 1), (568, f_loadI 3 1), (569, f_push 2 1), (570, f_add), (571, f_sld n xs), (572, f_callV 5 105 2), (575, f_eq 928), (578, f_push 0 1), (579, f_no)]
theorem mm_lc10 (n : Nat) (xs : Nat → Int32) : AllS (fun e => FMono e.2) (k_lc10 n xs) := ⟨m_loadR 1 1, m_loadR 0 1, m_loadI 3 1, m_push 1 1, m_add, m_sld _ _, m_loadR 0 1, m_loadI 3 1, m_push 2 1, m_add, m_sld _ _, m_callV 4 50 2, m_loadR 2 1, m_loadR 0 1, m_loadI 3 1, m_push 1 1, m_add, m_sld _ _, m_loadR 0 1, m_loadI 3 1, m_push 2 1, m_add, m_sld _ _, m_callV 5 105 2, m_eq 928, m_push 0 1, m_no, trivial⟩
def k_lc11 (n : Nat) (xs : Nat → Int32) : List (Nat × tF) := [(580, f_loadR 1 1), (581, f_loadR 0 1), (582, f_loadI 3 1), (583, f_push 1 1), (584, f_add), (585, f_sld n xs), (586, f_callV 4 51 1), (589, f_loadR 2 1), (590, f_loadR 0 1), (591, f_loadI 3 1), (592, f_push 1 1), (593, f_add), (594, f_sld n xs), (595, f_callV 5 107 1), (598, f_eq 928), (601, f_push 0 1), (602, f_no)]
theorem mm_lc11 (n : Nat) (xs : Nat → Int32) : AllS (fun e => FMono e.2) (k_lc11 n xs) := ⟨m_loadR 1 1, m_loadR 0 1, m_loadI 3 1, m_push 1 1, m_add, m_sld _ _, m_callV 4 51 1, m_loadR 2 1, m_loadR 0 1, m_loadI 3 1, m_push 1 1, m_add, m_sld _ _, m_callV 5 107 1, m_eq 928, m_push 0 1, m_no, trivial⟩
def k_lc12 (n : Nat) (xs : Nat → Int32) : List (Nat × tF) := [(603, f_loadR 1 1), (604, f_callV 4 52 0), (607, f_loadR 2 1), (608, f_callV 5 109 0), (611, f_eq 928), (614, f_push 0 1), (615, f_no)]
theorem mm_lc12 (n : Nat) (xs : Nat → Int32) : AllS (fun e => FMono e.2) (k_lc12 n xs) := ⟨m_loadR 1 1, m_callV 4 52 0, m_loadR 2 1, m_callV 5 109 0, m_eq 928, m_push 0 1, m_no, trivial⟩
def k_lc13 (n : Nat) (xs : Nat → Int32) : List (Nat × tF) := [(616, f_loadR 1 1), (617, f_loadR 0 1), (618, f_loadI 3 1), (619, f_push 1 1), (620, f_add), (621, f_sld n xs), (622, f_loadR 0 1), (623, f_loadI 3 1), (624, f_push 2 1), (625, f_add), (626, f_sld n xs), (627, f_callV 4 53 2), (630, f_loadR 2 1), (631, f_loadR 0 1), (632, f_loadI 3 1), (633, f_push 1 1), (634, f_add), (635, f_sld n xs), (636, f_loadR 0 1), (637, f_loadI 3 1), (638, f_push 2 1), (639, f_add), (640, f_sld n xs), (641, f_callV 5 112 2), (644, f_leq), (645, f_if0 cEq cNe 928), (648, f_push 0 1), (649, f_no)]
theorem mm_lc13 (n : Nat) (xs : Nat → Int32) : AllS (fun e => FMono e.2) (k_lc13 n xs) := ⟨m_loadR 1 1, m_loadR 0 1, m_loadI 3 1, m_push 1 1, m_add, m_sld _ _, m_loadR 0 1, m_loadI 3 1, m_push 2 1, m_add, m_sld _ _, m_callV 4 53 2, m_loadR 2 1, m_loadR 0 1, m_loadI 3 1, m_push 1 1, m_add, m_sld _ _, m_loadR 0 1, m_loadI 3 1, m_push 2 1, m_add, m_sld _ _, m_callV 5 112 2, m_leq, m_if0 cEq cNe 928, m_push 0 1, m_no, trivial⟩
def k_lc14 (n : Nat) (xs : Nat → Int32) : List (Nat × tF) := [(650, f_loadR 1 1), (651, f_loadR 0 1), (652, f_loadI 3 1), (653, f_push 1 1), (654, f_add), (655, f_sld n xs), (656, f_loadR 0 1), (657, f_loadI 3 1), (658, f_push 2 1), (659, f_add), (660, f_sld n xs), (661, f_loadR 0 1), (662, f_loadI 3 1), (663, f_push 3 1), (664, f_add), (665, f_sld n xs), (666, f_loadR 0 1), (667, f_loadI 3 1), (668, f_push 4 1), (669, f_add), (670, f_sld n xs), (671, f_callV 4 54 4), (674, f_loadR 2 1), (675, f_loadR 0 1), (676, f_loadI 3 1), (677, f_push 1 1), (678, f_add), (679, f_sld n xs), (680, f_loadR 0 1), (681, f_loadI 3 1), (682, f_push 2 1), (683, f_add), (684, f_sld n xs), (685, f_loadR 0 1), (686, f_loadI 3 1), (687, f_push 3 1), (688, f_add), (689, f_sld n xs), (690, f_loadR 0 1), (691, f_loadI 3 1), (692, f_push 4 1), (693, f_add), (694, f_sld n xs), (695, f_callV 5 113 4), (698, f_eq 928), (701, f_push 0 1), (702, f_no)]
theorem mm_lc14 (n : Nat) (xs : Nat → Int32) : AllS (fun e => FMono e.2) (k_lc14 n xs) := ⟨m_loadR 1 1, m_loadR 0 1, m_loadI 3 1, m_push 1 1, m_add, m_sld _ _, m_loadR 0 1, m_loadI 3 1, m_push 2 1, m_add, m_sld _ _, m_loadR 0 1, m_loadI 3 1, m_push 3 1, m_add, m_sld _ _, m_loadR 0 1, m_loadI 3 1, m_push 4 1, m_add, m_sld _ _, m_callV 4 54 4, m_loadR 2 1, m_loadR 0 1, m_loadI 3 1, m_push 1 1, m_add, m_sld _ _, m_loadR 0 1, m_loadI 3 1, m_push 2 1, m_add, m_sld _ _, m_loadR 0 1, m_loadI 3 1, m_push 3 1, m_add, m_sld _ _, m_loadR 0 1, m_loadI 3 1, m_push 4 1, m_add, m_sld _ _, m_callV 5 113 4, m_eq 928, m_push 0 1, m_no, trivial⟩
def k_lc15 (n : Nat) (xs : Nat → Int32) : List (Nat × tF) := [(703, f_loadR 1 1), (704, f_loadR 0 1), (705, f_loadI 3 1), (706, f_push 1 1), (707, f_add), (708, f_sld n xs), (709, f_loadR 0 1), (710, f_loadI 3 1), (711, f_push 2 1), (712, f_add), (713, f_sld n xs), (714, f_loadR 0 1), (715, f_loadI 3 1), (716, f_push 3 1), (717, f_add), (718, f_sld n xs), (719, f_loadR 0 1), (720, f_loadI 3 1), (721, f_push 4 1), (722, f_add), (723, f_sld n xs), (724, f_loadR 0 1), (725, f_loadI 3 1), (726, f_push 5 1), (727, f_add), (728, f_sld n xs), (729, f_callV 4 55 5), (732, f_loadR 2 1), (733, f_loadR 0 1), (734, f_loadI 3 1), (735, f_push 1 1), (736, f_add), (737, f_sld n xs), (738, f_loadR 0 1), (739, f_loadI 3 1), (740, f_push 2 1), (741, f_add), (742, f_sld n xs), (743, f_loadR 0 1), (744, f_loadI 3 1), (745, f_push 3 1), (746, f_add), (747, f_sld n xs), (748, f_loadR 0 1), (749, f_loadI 3 1), (750, f_push 4 1), (751, f_add), (752, f_sld n xs), (753, f_loadR 0 1), (754, f_loadI 3 1), (755, f_push 5 1), (756, f_add), (757, f_sld n xs), (758, f_callV 5 115 5), (761, f_eq 928), (764, f_push 0 1), (765, f_no)]
theorem mm_lc15 (n : Nat) (xs : Nat → Int32) : AllS (fun e => FMono e.2) (k_lc15 n xs) := ⟨m_loadR 1 1, m_loadR 0 1, m_loadI 3 1, m_push 1 1, m_add, m_sld _ _, m_loadR 0 1, m_loadI 3 1, m_push 2 1, m_add, m_sld _ _, m_loadR 0 1, m_loadI 3 1, m_push 3 1, m_add, m_sld _ _, m_loadR 0 1, m_loadI 3 1, m_push 4 1, m_add, m_sld _ _, m_loadR 0 1, m_loadI 3 1, m_push 5 1, m_add, m_sld _ _, m_callV 4 55 5, m_loadR 2 1, m_loadR 0 1, m_loadI 3 1, m_push 1 1, m_add, m_sld _ _, m_loadR 0 1, m_loadI 3 1, m_push 2 1, m_add, m_sld _ _, m_loadR 0 1, m_loadI 3 1, m_push 3 1, m_add, m_sld _ _, m_loadR 0 1, m_loadI 3 1, m_push 4 1, m_add, m_sld _ _, m_loadR 0 1, m_loadI 3 1, m_push 5 1, m_add, m_sld _ _, m_callV 5 115 5, m_eq 928, m_push 0 1, m_no, trivial⟩
def k_lc16 (n : Nat) (xs : Nat → Int32) : List (Nat × tF) := [(766, f_loadR 1 1), (767, f_loadR 0 1), (768, f_loadI 3 1), (769, f_push 1 1), (770, f_add), (771, f_sld n xs), (772, f_loadR 0 1), (773, f_loadI 3 1), (774, f_push 2 1), (775, f_add), (776, f_sld n xs), (777, f_loadR 0 1), (778, f_loadI 3 1), (779, f_push 3 1), (780, f_add), (781, f_sld n xs), (782, f_loadR 0 1), (783, f_loadI 3 1), (784, f_push 4 1), (785, f_add), (786, f_sld n xs), (787, f_loadR 0 1), (788, f_loadI 3 1), (789, f_push 5 1), (790, f_add), (791, f_sld n xs), (792, f_callV 4 56 5), (795, f_loadR 2 1), (796, f_loadR 0 1), (797, f_loadI 3 1), (798, f_push 1 1), (799, f_add), (800, f_sld n xs), (801, f_loadR 0 1), (802, f_loadI 3 1), (803, f_push 2 1), (804, f_add), (805, f_sld n xs), (806, f_loadR 0 1), (807, f_loadI 3 1), (808, f_push 3 1), (809, f_add), (810, f_sld n xs), (811, f_loadR 0 1), (812, f_loadI 3 1), (813, f_push 4 1), (814, f_add), (815, f_sld n xs), (816, f_loadR 0 1), (817, f_loadI 3 1), (818, f_push 5 1), (819, f_add), (820, f_sld n xs), (821, f_callV 5 116 5), (824, f_eq 928), (827, f_push 0 1), (828, f_no)]
theorem mm_lc16 (n : Nat) (xs : Nat → Int32) : AllS (fun e => FMono e.2) (k_lc16 n xs) := ⟨m_loadR 1 1, m_loadR 0 1, m_loadI 3 1, m_push 1 1, m_add, m_sld _ _, m_loadR 0 1, m_loadI 3 1, m_push 2 1, m_add, m_sld _ _, m_loadR 0 1, m_loadI 3 1, m_push 3 1, m_add, m_sld _ _, m_loadR 0 1, m_loadI 3 1, m_push 4 1, m_add, m_sld _ _, m_loadR 0 1, m_loadI 3 1, m_push 5 1, m_add, m_sld _ _, m_callV 4 56 5, m_loadR 2 1, m_loadR 0 1, m_loadI 3 1, m_push 1 1, m_add, m_sld _ _, m_loadR 0 1, m_loadI 3 1, m_push 2 1, m_add, m_sld _ _, m_loadR 0 1, m_loadI 3 1, m_push 3 1, m_add, m_sld _ _, m_loadR 0 1, m_loadI 3 1, m_push 4 1, m_add, m_sld _ _, m_loadR 0 1, m_loadI 3 1, m_push 5 1, m_add, m_sld _ _, m_callV 5 116 5, m_eq 928, m_push 0 1, m_no, trivial⟩
def k_lc17 (n : Nat) (xs : Nat → Int32) : List (Nat × tF) := [(829, f_loadR 1 1), (830, f_loadR 0 1), (831, f_loadI 3 1), (832, f_push 1 1), (833, f_add), (834, f_sld n xs), (835, f_loadR 0 1), (836, f_loadI 3 1), (837, f_push 2 1), (838, f_add), (839, f_sld n xs), (840, f_loadR 0 1), (841, f_loadI 3 1), (842, f_push 3 1), (843, f_add), (844, f_sld n xs), (845, f_callV 4 57 3), (848, f_loadR 2 1), (849, f_loadR 0 1), (850, f_loadI 3 1), (851, f_push 1 1), (852, f_add), (853, f_sld n xs), (854, f_loadR 0 1), (855, f_loadI 3 1), (856, f_push 2 1), (857, f_add), (858, f_sld n xs), (859, f_loadR 0 1), (860, f_loadI 3 1), (861, f_push 3 1), (862, f_add), (863, f_sld n xs), (864, f_callV 5 117 3), (867, f_eq 928), (870, f_push 0 1), (871, f_no)]
theorem mm_lc17 (n : Nat) (xs : Nat → Int32) : AllS (fun e => FMono e.2) (k_lc17 n xs) := ⟨m_loadR 1 1, m_loadR 0 1, m_loadI 3 1, m_push 1 1, m_add, m_sld _ _, m_loadR 0 1, m_loadI 3 1, m_push 2 1, m_add, m_sld _ _, m_loadR 0 1, m_loadI 3 1, m_push 3 1, m_add, m_sld _ _, m_callV 4 57 3, m_loadR 2 1, m_loadR 0 1, m_loadI 3 1, m_push 1 1, m_add, m_sld _ _, m_loadR 0 1, m_loadI 3 1, m_push 2 1, m_add, m_sld _ _, m_loadR 0 1, m_loadI 3 1, m_push 3 1, m_add, m_sld _ _, m_callV 5 117 3, m_eq 928, m_push 0 1, m_no, trivial⟩
def k_lc18 (n : Nat) (xs : Nat → Int32) : List (Nat × tF) := [(872, f_loadR 1 1), (873, f_loadR 0 1), (874, f_loadI 3 1), (875, f_push 1 1), (876, f_add), (877, f_sld n xs), (878, f_loadR 0 1), (879, f_loadI 3 1), (880, f_push 2 1), (881, f_add), (882, f_sld n xs), (883, f_callV 4 58 2), (886, f_loadR 2 1), (887, f_loadR 0 1), (888, f_loadI 3 1), (889, f_push 1 1), (890, f_add), (891, f_sld n xs), (892, f_loadR 0 1), (893, f_loadI 3 1), (894, f_push 2 1), (895, f_add), (896, f_sld n xs), (897, f_callV 5 83 2), (900, f_eq 928), (903, f_push 0 1), (904, f_no)]
theorem mm_lc18 (n : Nat) (xs : Nat → Int32) : AllS (fun e => FMono e.2) (k_lc18 n xs) := ⟨m_loadR 1 1, m_loadR 0 1, m_loadI 3 1, m_push 1 1, m_add, m_sld _ _, m_loadR 0 1, m_loadI 3 1, m_push 2 1, m_add, m_sld _ _, m_callV 4 58 2, m_loadR 2 1, m_loadR 0 1, m_loadI 3 1, m_push 1 1, m_add, m_sld _ _, m_loadR 0 1, m_loadI 3 1, m_push 2 1, m_add, m_sld _ _, m_callV 5 83 2, m_eq 928, m_push 0 1, m_no, trivial⟩
def k_lc19 (n : Nat) (xs : Nat → Int32) : List (Nat × tF) := [(905, f_loadR 1 1), (906, f_loadR 0 1), (907, f_loadI 3 1), (908, f_push 1 1), (909, f_add), (910, f_sld n xs), (911, f_callV 4 59 1), (914, f_loadR 2 1), (915, f_loadR 0 1), (916, f_loadI 3 1), (917, f_push 1 1), (918, f_add), (919, f_sld n xs), (920, f_callV 5 118 1), (923, f_eq 928), (926, f_push 0 1), (927, f_no)]
theorem mm_lc19 (n : Nat) (xs : Nat → Int32) : AllS (fun e => FMono e.2) (k_lc19 n xs) := ⟨m_loadR 1 1, m_loadR 0 1, m_loadI 3 1, m_push 1 1, m_add, m_sld _ _, m_callV 4 59 1, m_loadR 2 1, m_loadR 0 1, m_loadI 3 1, m_push 1 1, m_add, m_sld _ _, m_callV 5 118 1, m_eq 928, m_push 0 1, m_no, trivial⟩
def k_le (n : Nat) (xs : Nat → Int32) : List (Nat × tF) := [(928, f_iinc 3 7), (931, f_goto 18), (934, f_push 1 1), (935, f_lwr)]
theorem mm_le (n : Nat) (xs : Nat → Int32) : AllS (fun e => FMono e.2) (k_le n xs) := ⟨m_iinc 3 7, m_goto 18, m_push 1 1, m_lwr, trivial⟩
def lawT (n : Nat) (xs : Nat → Int32) : List (Nat × List (Nat × tF)) := [(128, k_lh n xs), (161, k_lc0 n xs), (184, k_lc1 n xs), (227, k_lc2 n xs), (276, k_lc3 n xs), (299, k_lc4 n xs), (322, k_lc5 n xs), (375, k_lc6 n xs), (439, k_lc7 n xs), (514, k_lc8 n xs), (547, k_lc9 n xs), (580, k_lc10 n xs), (603, k_lc11 n xs), (616, k_lc12 n xs), (650, k_lc13 n xs), (703, k_lc14 n xs), (766, k_lc15 n xs), (829, k_lc16 n xs), (872, k_lc17 n xs), (905, k_lc18 n xs), (928, k_lc19 n xs), (10000, k_le n xs)]
def lawF (n : Nat) (xs : Nat → Int32) : Nat → tF := tabT (lawT n xs)
theorem mo_law (n : Nat) (xs : Nat → Int32) : ∀ pc, FMono (lawF n xs pc) := tabT_all (P := fun e => FMono e.2) (fun _ => m_no) (lawT n xs) ⟨mm_lh n xs, mm_lc0 n xs, mm_lc1 n xs, mm_lc2 n xs, mm_lc3 n xs, mm_lc4 n xs, mm_lc5 n xs, mm_lc6 n xs, mm_lc7 n xs, mm_lc8 n xs, mm_lc9 n xs, mm_lc10 n xs, mm_lc11 n xs, mm_lc12 n xs, mm_lc13 n xs, mm_lc14 n xs, mm_lc15 n xs, mm_lc16 n xs, mm_lc17 n xs, mm_lc18 n xs, mm_lc19 n xs, mm_le n xs, trivial⟩
set_option maxRecDepth 8000 in
theorem e_law_18 {n : Nat} {xs : Nat → Int32} : lawF n xs 18 = f_loadI 3 1 := rfl
set_option maxRecDepth 8000 in
theorem e_law_19 {n : Nat} {xs : Nat → Int32} : lawF n xs 19 = f_loadR 0 1 := rfl
set_option maxRecDepth 8000 in
theorem e_law_20 {n : Nat} {xs : Nat → Int32} : lawF n xs 20 = f_slen n := rfl
set_option maxRecDepth 8000 in
theorem e_law_21 {n : Nat} {xs : Nat → Int32} : lawF n xs 21 = f_push 7 2 := rfl
set_option maxRecDepth 8000 in
theorem e_law_23 {n : Nat} {xs : Nat → Int32} : lawF n xs 23 = f_sub := rfl
set_option maxRecDepth 8000 in
theorem e_law_24 {n : Nat} {xs : Nat → Int32} : lawF n xs 24 = f_icmp cGt cLe 934 := rfl
set_option maxRecDepth 8000 in
theorem e_law_27 {n : Nat} {xs : Nat → Int32} : lawF n xs 27 = f_loadR 0 1 := rfl
set_option maxRecDepth 8000 in
theorem e_law_28 {n : Nat} {xs : Nat → Int32} : lawF n xs 28 = f_loadI 3 1 := rfl
set_option maxRecDepth 8000 in
theorem e_law_29 {n : Nat} {xs : Nat → Int32} : lawF n xs 29 = f_sld n xs := rfl
set_option maxRecDepth 8000 in
theorem e_law_30 {n : Nat} {xs : Nat → Int32} : lawF n xs 30 = f_push 31 2 := rfl
set_option maxRecDepth 8000 in
theorem e_law_32 {n : Nat} {xs : Nat → Int32} : lawF n xs 32 = f_and := rfl
set_option maxRecDepth 8000 in
theorem e_law_33 {n : Nat} {xs : Nat → Int32} : lawF n xs 33 = f_tsw 0 19 [128, 161, 184, 227, 276, 299, 322, 375, 439, 514, 547, 580, 603, 616, 650, 703, 766, 829, 872, 905] 928 := rfl
set_option maxRecDepth 8000 in
theorem e_law_128 {n : Nat} {xs : Nat → Int32} : lawF n xs 128 = f_loadR 1 1 := rfl
set_option maxRecDepth 8000 in
theorem e_law_129 {n : Nat} {xs : Nat → Int32} : lawF n xs 129 = f_loadR 0 1 := rfl
set_option maxRecDepth 8000 in
theorem e_law_130 {n : Nat} {xs : Nat → Int32} : lawF n xs 130 = f_loadI 3 1 := rfl
set_option maxRecDepth 8000 in
theorem e_law_131 {n : Nat} {xs : Nat → Int32} : lawF n xs 131 = f_push 1 1 := rfl
set_option maxRecDepth 8000 in
theorem e_law_132 {n : Nat} {xs : Nat → Int32} : lawF n xs 132 = f_add := rfl
set_option maxRecDepth 8000 in
theorem e_law_133 {n : Nat} {xs : Nat → Int32} : lawF n xs 133 = f_sld n xs := rfl
set_option maxRecDepth 8000 in
theorem e_law_134 {n : Nat} {xs : Nat → Int32} : lawF n xs 134 = f_loadR 0 1 := rfl
set_option maxRecDepth 8000 in
theorem e_law_135 {n : Nat} {xs : Nat → Int32} : lawF n xs 135 = f_loadI 3 1 := rfl
set_option maxRecDepth 8000 in
theorem e_law_136 {n : Nat} {xs : Nat → Int32} : lawF n xs 136 = f_push 2 1 := rfl
set_option maxRecDepth 8000 in
theorem e_law_137 {n : Nat} {xs : Nat → Int32} : lawF n xs 137 = f_add := rfl
set_option maxRecDepth 8000 in
theorem e_law_138 {n : Nat} {xs : Nat → Int32} : lawF n xs 138 = f_sld n xs := rfl
set_option maxRecDepth 8000 in
theorem e_law_139 {n : Nat} {xs : Nat → Int32} : lawF n xs 139 = f_callV 4 40 2 := rfl
set_option maxRecDepth 8000 in
theorem e_law_142 {n : Nat} {xs : Nat → Int32} : lawF n xs 142 = f_loadR 2 1 := rfl
set_option maxRecDepth 8000 in
theorem e_law_143 {n : Nat} {xs : Nat → Int32} : lawF n xs 143 = f_loadR 0 1 := rfl
set_option maxRecDepth 8000 in
theorem e_law_144 {n : Nat} {xs : Nat → Int32} : lawF n xs 144 = f_loadI 3 1 := rfl
set_option maxRecDepth 8000 in
theorem e_law_145 {n : Nat} {xs : Nat → Int32} : lawF n xs 145 = f_push 1 1 := rfl
set_option maxRecDepth 8000 in
theorem e_law_146 {n : Nat} {xs : Nat → Int32} : lawF n xs 146 = f_add := rfl
set_option maxRecDepth 8000 in
theorem e_law_147 {n : Nat} {xs : Nat → Int32} : lawF n xs 147 = f_sld n xs := rfl
set_option maxRecDepth 8000 in
theorem e_law_148 {n : Nat} {xs : Nat → Int32} : lawF n xs 148 = f_loadR 0 1 := rfl
set_option maxRecDepth 8000 in
theorem e_law_149 {n : Nat} {xs : Nat → Int32} : lawF n xs 149 = f_loadI 3 1 := rfl
set_option maxRecDepth 8000 in
theorem e_law_150 {n : Nat} {xs : Nat → Int32} : lawF n xs 150 = f_push 2 1 := rfl
set_option maxRecDepth 8000 in
theorem e_law_151 {n : Nat} {xs : Nat → Int32} : lawF n xs 151 = f_add := rfl
set_option maxRecDepth 8000 in
theorem e_law_152 {n : Nat} {xs : Nat → Int32} : lawF n xs 152 = f_sld n xs := rfl
set_option maxRecDepth 8000 in
theorem e_law_153 {n : Nat} {xs : Nat → Int32} : lawF n xs 153 = f_callV 5 82 2 := rfl
set_option maxRecDepth 8000 in
theorem e_law_156 {n : Nat} {xs : Nat → Int32} : lawF n xs 156 = f_eq 928 := rfl
set_option maxRecDepth 8000 in
theorem e_law_159 {n : Nat} {xs : Nat → Int32} : lawF n xs 159 = f_push 0 1 := rfl
set_option maxRecDepth 8000 in
theorem e_law_160 {n : Nat} {xs : Nat → Int32} : lawF n xs 160 = f_no := rfl
set_option maxRecDepth 8000 in
theorem e_law_161 {n : Nat} {xs : Nat → Int32} : lawF n xs 161 = f_loadR 1 1 := rfl
set_option maxRecDepth 8000 in
theorem e_law_162 {n : Nat} {xs : Nat → Int32} : lawF n xs 162 = f_loadR 0 1 := rfl
set_option maxRecDepth 8000 in
theorem e_law_163 {n : Nat} {xs : Nat → Int32} : lawF n xs 163 = f_loadI 3 1 := rfl
set_option maxRecDepth 8000 in
theorem e_law_164 {n : Nat} {xs : Nat → Int32} : lawF n xs 164 = f_push 1 1 := rfl
set_option maxRecDepth 8000 in
theorem e_law_165 {n : Nat} {xs : Nat → Int32} : lawF n xs 165 = f_add := rfl
set_option maxRecDepth 8000 in
theorem e_law_166 {n : Nat} {xs : Nat → Int32} : lawF n xs 166 = f_sld n xs := rfl
set_option maxRecDepth 8000 in
theorem e_law_167 {n : Nat} {xs : Nat → Int32} : lawF n xs 167 = f_callV 4 41 1 := rfl
set_option maxRecDepth 8000 in
theorem e_law_170 {n : Nat} {xs : Nat → Int32} : lawF n xs 170 = f_loadR 2 1 := rfl
set_option maxRecDepth 8000 in
theorem e_law_171 {n : Nat} {xs : Nat → Int32} : lawF n xs 171 = f_loadR 0 1 := rfl
set_option maxRecDepth 8000 in
theorem e_law_172 {n : Nat} {xs : Nat → Int32} : lawF n xs 172 = f_loadI 3 1 := rfl
set_option maxRecDepth 8000 in
theorem e_law_173 {n : Nat} {xs : Nat → Int32} : lawF n xs 173 = f_push 1 1 := rfl
set_option maxRecDepth 8000 in
theorem e_law_174 {n : Nat} {xs : Nat → Int32} : lawF n xs 174 = f_add := rfl
set_option maxRecDepth 8000 in
theorem e_law_175 {n : Nat} {xs : Nat → Int32} : lawF n xs 175 = f_sld n xs := rfl
set_option maxRecDepth 8000 in
theorem e_law_176 {n : Nat} {xs : Nat → Int32} : lawF n xs 176 = f_callV 5 84 1 := rfl
set_option maxRecDepth 8000 in
theorem e_law_179 {n : Nat} {xs : Nat → Int32} : lawF n xs 179 = f_eq 928 := rfl
set_option maxRecDepth 8000 in
theorem e_law_182 {n : Nat} {xs : Nat → Int32} : lawF n xs 182 = f_push 0 1 := rfl
set_option maxRecDepth 8000 in
theorem e_law_183 {n : Nat} {xs : Nat → Int32} : lawF n xs 183 = f_no := rfl
set_option maxRecDepth 8000 in
theorem e_law_184 {n : Nat} {xs : Nat → Int32} : lawF n xs 184 = f_loadR 1 1 := rfl
set_option maxRecDepth 8000 in
theorem e_law_185 {n : Nat} {xs : Nat → Int32} : lawF n xs 185 = f_loadR 0 1 := rfl
set_option maxRecDepth 8000 in
theorem e_law_186 {n : Nat} {xs : Nat → Int32} : lawF n xs 186 = f_loadI 3 1 := rfl
set_option maxRecDepth 8000 in
theorem e_law_187 {n : Nat} {xs : Nat → Int32} : lawF n xs 187 = f_push 1 1 := rfl
set_option maxRecDepth 8000 in
theorem e_law_188 {n : Nat} {xs : Nat → Int32} : lawF n xs 188 = f_add := rfl
set_option maxRecDepth 8000 in
theorem e_law_189 {n : Nat} {xs : Nat → Int32} : lawF n xs 189 = f_sld n xs := rfl
set_option maxRecDepth 8000 in
theorem e_law_190 {n : Nat} {xs : Nat → Int32} : lawF n xs 190 = f_loadR 0 1 := rfl
set_option maxRecDepth 8000 in
theorem e_law_191 {n : Nat} {xs : Nat → Int32} : lawF n xs 191 = f_loadI 3 1 := rfl
set_option maxRecDepth 8000 in
theorem e_law_192 {n : Nat} {xs : Nat → Int32} : lawF n xs 192 = f_push 2 1 := rfl
set_option maxRecDepth 8000 in
theorem e_law_193 {n : Nat} {xs : Nat → Int32} : lawF n xs 193 = f_add := rfl
set_option maxRecDepth 8000 in
theorem e_law_194 {n : Nat} {xs : Nat → Int32} : lawF n xs 194 = f_sld n xs := rfl
set_option maxRecDepth 8000 in
theorem e_law_195 {n : Nat} {xs : Nat → Int32} : lawF n xs 195 = f_loadR 0 1 := rfl
set_option maxRecDepth 8000 in
theorem e_law_196 {n : Nat} {xs : Nat → Int32} : lawF n xs 196 = f_loadI 3 1 := rfl
set_option maxRecDepth 8000 in
theorem e_law_197 {n : Nat} {xs : Nat → Int32} : lawF n xs 197 = f_push 3 1 := rfl
set_option maxRecDepth 8000 in
theorem e_law_198 {n : Nat} {xs : Nat → Int32} : lawF n xs 198 = f_add := rfl
set_option maxRecDepth 8000 in
theorem e_law_199 {n : Nat} {xs : Nat → Int32} : lawF n xs 199 = f_sld n xs := rfl
set_option maxRecDepth 8000 in
theorem e_law_200 {n : Nat} {xs : Nat → Int32} : lawF n xs 200 = f_callV 4 42 3 := rfl
set_option maxRecDepth 8000 in
theorem e_law_203 {n : Nat} {xs : Nat → Int32} : lawF n xs 203 = f_loadR 2 1 := rfl
set_option maxRecDepth 8000 in
theorem e_law_204 {n : Nat} {xs : Nat → Int32} : lawF n xs 204 = f_loadR 0 1 := rfl
set_option maxRecDepth 8000 in
theorem e_law_205 {n : Nat} {xs : Nat → Int32} : lawF n xs 205 = f_loadI 3 1 := rfl
set_option maxRecDepth 8000 in
theorem e_law_206 {n : Nat} {xs : Nat → Int32} : lawF n xs 206 = f_push 1 1 := rfl
set_option maxRecDepth 8000 in
theorem e_law_207 {n : Nat} {xs : Nat → Int32} : lawF n xs 207 = f_add := rfl
set_option maxRecDepth 8000 in
theorem e_law_208 {n : Nat} {xs : Nat → Int32} : lawF n xs 208 = f_sld n xs := rfl
set_option maxRecDepth 8000 in
theorem e_law_209 {n : Nat} {xs : Nat → Int32} : lawF n xs 209 = f_loadR 0 1 := rfl
set_option maxRecDepth 8000 in
theorem e_law_210 {n : Nat} {xs : Nat → Int32} : lawF n xs 210 = f_loadI 3 1 := rfl
set_option maxRecDepth 8000 in
theorem e_law_211 {n : Nat} {xs : Nat → Int32} : lawF n xs 211 = f_push 2 1 := rfl
set_option maxRecDepth 8000 in
theorem e_law_212 {n : Nat} {xs : Nat → Int32} : lawF n xs 212 = f_add := rfl
set_option maxRecDepth 8000 in
theorem e_law_213 {n : Nat} {xs : Nat → Int32} : lawF n xs 213 = f_sld n xs := rfl
set_option maxRecDepth 8000 in
theorem e_law_214 {n : Nat} {xs : Nat → Int32} : lawF n xs 214 = f_loadR 0 1 := rfl
set_option maxRecDepth 8000 in
theorem e_law_215 {n : Nat} {xs : Nat → Int32} : lawF n xs 215 = f_loadI 3 1 := rfl
set_option maxRecDepth 8000 in
theorem e_law_216 {n : Nat} {xs : Nat → Int32} : lawF n xs 216 = f_push 3 1 := rfl
set_option maxRecDepth 8000 in
theorem e_law_217 {n : Nat} {xs : Nat → Int32} : lawF n xs 217 = f_add := rfl
set_option maxRecDepth 8000 in
theorem e_law_218 {n : Nat} {xs : Nat → Int32} : lawF n xs 218 = f_sld n xs := rfl
set_option maxRecDepth 8000 in
theorem e_law_219 {n : Nat} {xs : Nat → Int32} : lawF n xs 219 = f_callV 5 85 3 := rfl
set_option maxRecDepth 8000 in
theorem e_law_222 {n : Nat} {xs : Nat → Int32} : lawF n xs 222 = f_eq 928 := rfl
set_option maxRecDepth 8000 in
theorem e_law_225 {n : Nat} {xs : Nat → Int32} : lawF n xs 225 = f_push 0 1 := rfl
set_option maxRecDepth 8000 in
theorem e_law_226 {n : Nat} {xs : Nat → Int32} : lawF n xs 226 = f_no := rfl
set_option maxRecDepth 8000 in
theorem e_law_227 {n : Nat} {xs : Nat → Int32} : lawF n xs 227 = f_loadR 1 1 := rfl
set_option maxRecDepth 8000 in
theorem e_law_228 {n : Nat} {xs : Nat → Int32} : lawF n xs 228 = f_loadR 0 1 := rfl
set_option maxRecDepth 8000 in
theorem e_law_229 {n : Nat} {xs : Nat → Int32} : lawF n xs 229 = f_loadI 3 1 := rfl
set_option maxRecDepth 8000 in
theorem e_law_230 {n : Nat} {xs : Nat → Int32} : lawF n xs 230 = f_push 1 1 := rfl
set_option maxRecDepth 8000 in
theorem e_law_231 {n : Nat} {xs : Nat → Int32} : lawF n xs 231 = f_add := rfl
set_option maxRecDepth 8000 in
theorem e_law_232 {n : Nat} {xs : Nat → Int32} : lawF n xs 232 = f_sld n xs := rfl
set_option maxRecDepth 8000 in
theorem e_law_233 {n : Nat} {xs : Nat → Int32} : lawF n xs 233 = f_loadR 0 1 := rfl
set_option maxRecDepth 8000 in
theorem e_law_234 {n : Nat} {xs : Nat → Int32} : lawF n xs 234 = f_loadI 3 1 := rfl
set_option maxRecDepth 8000 in
theorem e_law_235 {n : Nat} {xs : Nat → Int32} : lawF n xs 235 = f_push 2 1 := rfl
set_option maxRecDepth 8000 in
theorem e_law_236 {n : Nat} {xs : Nat → Int32} : lawF n xs 236 = f_add := rfl
set_option maxRecDepth 8000 in
theorem e_law_237 {n : Nat} {xs : Nat → Int32} : lawF n xs 237 = f_sld n xs := rfl
set_option maxRecDepth 8000 in
theorem e_law_238 {n : Nat} {xs : Nat → Int32} : lawF n xs 238 = f_if0 cEq cNe 245 := rfl
set_option maxRecDepth 8000 in
theorem e_law_241 {n : Nat} {xs : Nat → Int32} : lawF n xs 241 = f_push 1 1 := rfl
set_option maxRecDepth 8000 in
theorem e_law_242 {n : Nat} {xs : Nat → Int32} : lawF n xs 242 = f_goto 246 := rfl
set_option maxRecDepth 8000 in
theorem e_law_245 {n : Nat} {xs : Nat → Int32} : lawF n xs 245 = f_push 0 1 := rfl
set_option maxRecDepth 8000 in
theorem e_law_246 {n : Nat} {xs : Nat → Int32} : lawF n xs 246 = f_callV 4 43 2 := rfl
set_option maxRecDepth 8000 in
theorem e_law_249 {n : Nat} {xs : Nat → Int32} : lawF n xs 249 = f_loadR 2 1 := rfl
set_option maxRecDepth 8000 in
theorem e_law_250 {n : Nat} {xs : Nat → Int32} : lawF n xs 250 = f_loadR 0 1 := rfl
set_option maxRecDepth 8000 in
theorem e_law_251 {n : Nat} {xs : Nat → Int32} : lawF n xs 251 = f_loadI 3 1 := rfl
set_option maxRecDepth 8000 in
theorem e_law_252 {n : Nat} {xs : Nat → Int32} : lawF n xs 252 = f_push 1 1 := rfl
set_option maxRecDepth 8000 in
theorem e_law_253 {n : Nat} {xs : Nat → Int32} : lawF n xs 253 = f_add := rfl
set_option maxRecDepth 8000 in
theorem e_law_254 {n : Nat} {xs : Nat → Int32} : lawF n xs 254 = f_sld n xs := rfl
set_option maxRecDepth 8000 in
theorem e_law_255 {n : Nat} {xs : Nat → Int32} : lawF n xs 255 = f_loadR 0 1 := rfl
set_option maxRecDepth 8000 in
theorem e_law_256 {n : Nat} {xs : Nat → Int32} : lawF n xs 256 = f_loadI 3 1 := rfl
set_option maxRecDepth 8000 in
theorem e_law_257 {n : Nat} {xs : Nat → Int32} : lawF n xs 257 = f_push 2 1 := rfl
set_option maxRecDepth 8000 in
theorem e_law_258 {n : Nat} {xs : Nat → Int32} : lawF n xs 258 = f_add := rfl
set_option maxRecDepth 8000 in
theorem e_law_259 {n : Nat} {xs : Nat → Int32} : lawF n xs 259 = f_sld n xs := rfl
set_option maxRecDepth 8000 in
theorem e_law_260 {n : Nat} {xs : Nat → Int32} : lawF n xs 260 = f_if0 cEq cNe 267 := rfl
set_option maxRecDepth 8000 in
theorem e_law_263 {n : Nat} {xs : Nat → Int32} : lawF n xs 263 = f_push 1 1 := rfl
set_option maxRecDepth 8000 in
theorem e_law_264 {n : Nat} {xs : Nat → Int32} : lawF n xs 264 = f_goto 268 := rfl
set_option maxRecDepth 8000 in
theorem e_law_267 {n : Nat} {xs : Nat → Int32} : lawF n xs 267 = f_push 0 1 := rfl
set_option maxRecDepth 8000 in
theorem e_law_268 {n : Nat} {xs : Nat → Int32} : lawF n xs 268 = f_callV 5 86 2 := rfl
set_option maxRecDepth 8000 in
theorem e_law_271 {n : Nat} {xs : Nat → Int32} : lawF n xs 271 = f_eq 928 := rfl
set_option maxRecDepth 8000 in
theorem e_law_274 {n : Nat} {xs : Nat → Int32} : lawF n xs 274 = f_push 0 1 := rfl
set_option maxRecDepth 8000 in
theorem e_law_275 {n : Nat} {xs : Nat → Int32} : lawF n xs 275 = f_no := rfl
set_option maxRecDepth 8000 in
theorem e_law_276 {n : Nat} {xs : Nat → Int32} : lawF n xs 276 = f_loadR 1 1 := rfl
set_option maxRecDepth 8000 in
theorem e_law_277 {n : Nat} {xs : Nat → Int32} : lawF n xs 277 = f_loadR 0 1 := rfl
set_option maxRecDepth 8000 in
theorem e_law_278 {n : Nat} {xs : Nat → Int32} : lawF n xs 278 = f_loadI 3 1 := rfl
set_option maxRecDepth 8000 in
theorem e_law_279 {n : Nat} {xs : Nat → Int32} : lawF n xs 279 = f_push 1 1 := rfl
set_option maxRecDepth 8000 in
theorem e_law_280 {n : Nat} {xs : Nat → Int32} : lawF n xs 280 = f_add := rfl
set_option maxRecDepth 8000 in
theorem e_law_281 {n : Nat} {xs : Nat → Int32} : lawF n xs 281 = f_sld n xs := rfl
set_option maxRecDepth 8000 in
theorem e_law_282 {n : Nat} {xs : Nat → Int32} : lawF n xs 282 = f_callV 4 44 1 := rfl
set_option maxRecDepth 8000 in
theorem e_law_285 {n : Nat} {xs : Nat → Int32} : lawF n xs 285 = f_loadR 2 1 := rfl
set_option maxRecDepth 8000 in
theorem e_law_286 {n : Nat} {xs : Nat → Int32} : lawF n xs 286 = f_loadR 0 1 := rfl
set_option maxRecDepth 8000 in
theorem e_law_287 {n : Nat} {xs : Nat → Int32} : lawF n xs 287 = f_loadI 3 1 := rfl
set_option maxRecDepth 8000 in
theorem e_law_288 {n : Nat} {xs : Nat → Int32} : lawF n xs 288 = f_push 1 1 := rfl
set_option maxRecDepth 8000 in
theorem e_law_289 {n : Nat} {xs : Nat → Int32} : lawF n xs 289 = f_add := rfl
set_option maxRecDepth 8000 in
theorem e_law_290 {n : Nat} {xs : Nat → Int32} : lawF n xs 290 = f_sld n xs := rfl
set_option maxRecDepth 8000 in
theorem e_law_291 {n : Nat} {xs : Nat → Int32} : lawF n xs 291 = f_callV 5 87 1 := rfl
set_option maxRecDepth 8000 in
theorem e_law_294 {n : Nat} {xs : Nat → Int32} : lawF n xs 294 = f_eq 928 := rfl
set_option maxRecDepth 8000 in
theorem e_law_297 {n : Nat} {xs : Nat → Int32} : lawF n xs 297 = f_push 0 1 := rfl
set_option maxRecDepth 8000 in
theorem e_law_298 {n : Nat} {xs : Nat → Int32} : lawF n xs 298 = f_no := rfl
set_option maxRecDepth 8000 in
theorem e_law_299 {n : Nat} {xs : Nat → Int32} : lawF n xs 299 = f_loadR 1 1 := rfl
set_option maxRecDepth 8000 in
theorem e_law_300 {n : Nat} {xs : Nat → Int32} : lawF n xs 300 = f_loadR 0 1 := rfl
set_option maxRecDepth 8000 in
theorem e_law_301 {n : Nat} {xs : Nat → Int32} : lawF n xs 301 = f_loadI 3 1 := rfl
set_option maxRecDepth 8000 in
theorem e_law_302 {n : Nat} {xs : Nat → Int32} : lawF n xs 302 = f_push 1 1 := rfl
set_option maxRecDepth 8000 in
theorem e_law_303 {n : Nat} {xs : Nat → Int32} : lawF n xs 303 = f_add := rfl
set_option maxRecDepth 8000 in
theorem e_law_304 {n : Nat} {xs : Nat → Int32} : lawF n xs 304 = f_sld n xs := rfl
set_option maxRecDepth 8000 in
theorem e_law_305 {n : Nat} {xs : Nat → Int32} : lawF n xs 305 = f_callV 4 45 1 := rfl
set_option maxRecDepth 8000 in
theorem e_law_308 {n : Nat} {xs : Nat → Int32} : lawF n xs 308 = f_loadR 2 1 := rfl
set_option maxRecDepth 8000 in
theorem e_law_309 {n : Nat} {xs : Nat → Int32} : lawF n xs 309 = f_loadR 0 1 := rfl
set_option maxRecDepth 8000 in
theorem e_law_310 {n : Nat} {xs : Nat → Int32} : lawF n xs 310 = f_loadI 3 1 := rfl
set_option maxRecDepth 8000 in
theorem e_law_311 {n : Nat} {xs : Nat → Int32} : lawF n xs 311 = f_push 1 1 := rfl
set_option maxRecDepth 8000 in
theorem e_law_312 {n : Nat} {xs : Nat → Int32} : lawF n xs 312 = f_add := rfl
set_option maxRecDepth 8000 in
theorem e_law_313 {n : Nat} {xs : Nat → Int32} : lawF n xs 313 = f_sld n xs := rfl
set_option maxRecDepth 8000 in
theorem e_law_314 {n : Nat} {xs : Nat → Int32} : lawF n xs 314 = f_callV 5 88 1 := rfl
set_option maxRecDepth 8000 in
theorem e_law_317 {n : Nat} {xs : Nat → Int32} : lawF n xs 317 = f_eq 928 := rfl
set_option maxRecDepth 8000 in
theorem e_law_320 {n : Nat} {xs : Nat → Int32} : lawF n xs 320 = f_push 0 1 := rfl
set_option maxRecDepth 8000 in
theorem e_law_321 {n : Nat} {xs : Nat → Int32} : lawF n xs 321 = f_no := rfl
set_option maxRecDepth 8000 in
theorem e_law_322 {n : Nat} {xs : Nat → Int32} : lawF n xs 322 = f_loadR 1 1 := rfl
set_option maxRecDepth 8000 in
theorem e_law_323 {n : Nat} {xs : Nat → Int32} : lawF n xs 323 = f_loadR 0 1 := rfl
set_option maxRecDepth 8000 in
theorem e_law_324 {n : Nat} {xs : Nat → Int32} : lawF n xs 324 = f_loadI 3 1 := rfl
set_option maxRecDepth 8000 in
theorem e_law_325 {n : Nat} {xs : Nat → Int32} : lawF n xs 325 = f_push 1 1 := rfl
set_option maxRecDepth 8000 in
theorem e_law_326 {n : Nat} {xs : Nat → Int32} : lawF n xs 326 = f_add := rfl
set_option maxRecDepth 8000 in
theorem e_law_327 {n : Nat} {xs : Nat → Int32} : lawF n xs 327 = f_sld n xs := rfl
set_option maxRecDepth 8000 in
theorem e_law_328 {n : Nat} {xs : Nat → Int32} : lawF n xs 328 = f_loadR 0 1 := rfl
set_option maxRecDepth 8000 in
theorem e_law_329 {n : Nat} {xs : Nat → Int32} : lawF n xs 329 = f_loadI 3 1 := rfl
set_option maxRecDepth 8000 in
theorem e_law_330 {n : Nat} {xs : Nat → Int32} : lawF n xs 330 = f_push 2 1 := rfl
set_option maxRecDepth 8000 in
theorem e_law_331 {n : Nat} {xs : Nat → Int32} : lawF n xs 331 = f_add := rfl
set_option maxRecDepth 8000 in
theorem e_law_332 {n : Nat} {xs : Nat → Int32} : lawF n xs 332 = f_sld n xs := rfl
set_option maxRecDepth 8000 in
theorem e_law_333 {n : Nat} {xs : Nat → Int32} : lawF n xs 333 = f_loadR 0 1 := rfl
set_option maxRecDepth 8000 in
theorem e_law_334 {n : Nat} {xs : Nat → Int32} : lawF n xs 334 = f_loadI 3 1 := rfl
set_option maxRecDepth 8000 in
theorem e_law_335 {n : Nat} {xs : Nat → Int32} : lawF n xs 335 = f_push 3 1 := rfl
set_option maxRecDepth 8000 in
theorem e_law_336 {n : Nat} {xs : Nat → Int32} : lawF n xs 336 = f_add := rfl
set_option maxRecDepth 8000 in
theorem e_law_337 {n : Nat} {xs : Nat → Int32} : lawF n xs 337 = f_sld n xs := rfl
set_option maxRecDepth 8000 in
theorem e_law_338 {n : Nat} {xs : Nat → Int32} : lawF n xs 338 = f_loadR 0 1 := rfl
set_option maxRecDepth 8000 in
theorem e_law_339 {n : Nat} {xs : Nat → Int32} : lawF n xs 339 = f_loadI 3 1 := rfl
set_option maxRecDepth 8000 in
theorem e_law_340 {n : Nat} {xs : Nat → Int32} : lawF n xs 340 = f_push 4 1 := rfl
set_option maxRecDepth 8000 in
theorem e_law_341 {n : Nat} {xs : Nat → Int32} : lawF n xs 341 = f_add := rfl
set_option maxRecDepth 8000 in
theorem e_law_342 {n : Nat} {xs : Nat → Int32} : lawF n xs 342 = f_sld n xs := rfl
set_option maxRecDepth 8000 in
theorem e_law_343 {n : Nat} {xs : Nat → Int32} : lawF n xs 343 = f_callV 4 46 4 := rfl
set_option maxRecDepth 8000 in
theorem e_law_346 {n : Nat} {xs : Nat → Int32} : lawF n xs 346 = f_loadR 2 1 := rfl
set_option maxRecDepth 8000 in
theorem e_law_347 {n : Nat} {xs : Nat → Int32} : lawF n xs 347 = f_loadR 0 1 := rfl
set_option maxRecDepth 8000 in
theorem e_law_348 {n : Nat} {xs : Nat → Int32} : lawF n xs 348 = f_loadI 3 1 := rfl
set_option maxRecDepth 8000 in
theorem e_law_349 {n : Nat} {xs : Nat → Int32} : lawF n xs 349 = f_push 1 1 := rfl
set_option maxRecDepth 8000 in
theorem e_law_350 {n : Nat} {xs : Nat → Int32} : lawF n xs 350 = f_add := rfl
set_option maxRecDepth 8000 in
theorem e_law_351 {n : Nat} {xs : Nat → Int32} : lawF n xs 351 = f_sld n xs := rfl
set_option maxRecDepth 8000 in
theorem e_law_352 {n : Nat} {xs : Nat → Int32} : lawF n xs 352 = f_loadR 0 1 := rfl
set_option maxRecDepth 8000 in
theorem e_law_353 {n : Nat} {xs : Nat → Int32} : lawF n xs 353 = f_loadI 3 1 := rfl
set_option maxRecDepth 8000 in
theorem e_law_354 {n : Nat} {xs : Nat → Int32} : lawF n xs 354 = f_push 2 1 := rfl
set_option maxRecDepth 8000 in
theorem e_law_355 {n : Nat} {xs : Nat → Int32} : lawF n xs 355 = f_add := rfl
set_option maxRecDepth 8000 in
theorem e_law_356 {n : Nat} {xs : Nat → Int32} : lawF n xs 356 = f_sld n xs := rfl
set_option maxRecDepth 8000 in
theorem e_law_357 {n : Nat} {xs : Nat → Int32} : lawF n xs 357 = f_loadR 0 1 := rfl
set_option maxRecDepth 8000 in
theorem e_law_358 {n : Nat} {xs : Nat → Int32} : lawF n xs 358 = f_loadI 3 1 := rfl
set_option maxRecDepth 8000 in
theorem e_law_359 {n : Nat} {xs : Nat → Int32} : lawF n xs 359 = f_push 3 1 := rfl
set_option maxRecDepth 8000 in
theorem e_law_360 {n : Nat} {xs : Nat → Int32} : lawF n xs 360 = f_add := rfl
set_option maxRecDepth 8000 in
theorem e_law_361 {n : Nat} {xs : Nat → Int32} : lawF n xs 361 = f_sld n xs := rfl
set_option maxRecDepth 8000 in
theorem e_law_362 {n : Nat} {xs : Nat → Int32} : lawF n xs 362 = f_loadR 0 1 := rfl
set_option maxRecDepth 8000 in
theorem e_law_363 {n : Nat} {xs : Nat → Int32} : lawF n xs 363 = f_loadI 3 1 := rfl
set_option maxRecDepth 8000 in
theorem e_law_364 {n : Nat} {xs : Nat → Int32} : lawF n xs 364 = f_push 4 1 := rfl
set_option maxRecDepth 8000 in
theorem e_law_365 {n : Nat} {xs : Nat → Int32} : lawF n xs 365 = f_add := rfl
set_option maxRecDepth 8000 in
theorem e_law_366 {n : Nat} {xs : Nat → Int32} : lawF n xs 366 = f_sld n xs := rfl
set_option maxRecDepth 8000 in
theorem e_law_367 {n : Nat} {xs : Nat → Int32} : lawF n xs 367 = f_callV 5 98 4 := rfl
set_option maxRecDepth 8000 in
theorem e_law_370 {n : Nat} {xs : Nat → Int32} : lawF n xs 370 = f_eq 928 := rfl
set_option maxRecDepth 8000 in
theorem e_law_373 {n : Nat} {xs : Nat → Int32} : lawF n xs 373 = f_push 0 1 := rfl
set_option maxRecDepth 8000 in
theorem e_law_374 {n : Nat} {xs : Nat → Int32} : lawF n xs 374 = f_no := rfl
set_option maxRecDepth 8000 in
theorem e_law_375 {n : Nat} {xs : Nat → Int32} : lawF n xs 375 = f_loadR 1 1 := rfl
set_option maxRecDepth 8000 in
theorem e_law_376 {n : Nat} {xs : Nat → Int32} : lawF n xs 376 = f_loadR 0 1 := rfl
set_option maxRecDepth 8000 in
theorem e_law_377 {n : Nat} {xs : Nat → Int32} : lawF n xs 377 = f_loadI 3 1 := rfl
set_option maxRecDepth 8000 in
theorem e_law_378 {n : Nat} {xs : Nat → Int32} : lawF n xs 378 = f_push 1 1 := rfl
set_option maxRecDepth 8000 in
theorem e_law_379 {n : Nat} {xs : Nat → Int32} : lawF n xs 379 = f_add := rfl
set_option maxRecDepth 8000 in
theorem e_law_380 {n : Nat} {xs : Nat → Int32} : lawF n xs 380 = f_sld n xs := rfl
set_option maxRecDepth 8000 in
theorem e_law_381 {n : Nat} {xs : Nat → Int32} : lawF n xs 381 = f_loadR 0 1 := rfl
set_option maxRecDepth 8000 in
theorem e_law_382 {n : Nat} {xs : Nat → Int32} : lawF n xs 382 = f_loadI 3 1 := rfl
set_option maxRecDepth 8000 in
theorem e_law_383 {n : Nat} {xs : Nat → Int32} : lawF n xs 383 = f_push 2 1 := rfl
set_option maxRecDepth 8000 in
theorem e_law_384 {n : Nat} {xs : Nat → Int32} : lawF n xs 384 = f_add := rfl
set_option maxRecDepth 8000 in
theorem e_law_385 {n : Nat} {xs : Nat → Int32} : lawF n xs 385 = f_sld n xs := rfl
set_option maxRecDepth 8000 in
theorem e_law_386 {n : Nat} {xs : Nat → Int32} : lawF n xs 386 = f_loadR 0 1 := rfl
set_option maxRecDepth 8000 in
theorem e_law_387 {n : Nat} {xs : Nat → Int32} : lawF n xs 387 = f_loadI 3 1 := rfl
set_option maxRecDepth 8000 in
theorem e_law_388 {n : Nat} {xs : Nat → Int32} : lawF n xs 388 = f_push 3 1 := rfl
set_option maxRecDepth 8000 in
theorem e_law_389 {n : Nat} {xs : Nat → Int32} : lawF n xs 389 = f_add := rfl
set_option maxRecDepth 8000 in
theorem e_law_390 {n : Nat} {xs : Nat → Int32} : lawF n xs 390 = f_sld n xs := rfl
set_option maxRecDepth 8000 in
theorem e_law_391 {n : Nat} {xs : Nat → Int32} : lawF n xs 391 = f_loadR 0 1 := rfl
set_option maxRecDepth 8000 in
theorem e_law_392 {n : Nat} {xs : Nat → Int32} : lawF n xs 392 = f_loadI 3 1 := rfl
set_option maxRecDepth 8000 in
theorem e_law_393 {n : Nat} {xs : Nat → Int32} : lawF n xs 393 = f_push 4 1 := rfl
set_option maxRecDepth 8000 in
theorem e_law_394 {n : Nat} {xs : Nat → Int32} : lawF n xs 394 = f_add := rfl
set_option maxRecDepth 8000 in
theorem e_law_395 {n : Nat} {xs : Nat → Int32} : lawF n xs 395 = f_sld n xs := rfl
set_option maxRecDepth 8000 in
theorem e_law_396 {n : Nat} {xs : Nat → Int32} : lawF n xs 396 = f_loadR 0 1 := rfl
set_option maxRecDepth 8000 in
theorem e_law_397 {n : Nat} {xs : Nat → Int32} : lawF n xs 397 = f_loadI 3 1 := rfl
set_option maxRecDepth 8000 in
theorem e_law_398 {n : Nat} {xs : Nat → Int32} : lawF n xs 398 = f_push 5 1 := rfl
set_option maxRecDepth 8000 in
theorem e_law_399 {n : Nat} {xs : Nat → Int32} : lawF n xs 399 = f_add := rfl
set_option maxRecDepth 8000 in
theorem e_law_400 {n : Nat} {xs : Nat → Int32} : lawF n xs 400 = f_sld n xs := rfl
set_option maxRecDepth 8000 in
theorem e_law_401 {n : Nat} {xs : Nat → Int32} : lawF n xs 401 = f_callV 4 47 5 := rfl
set_option maxRecDepth 8000 in
theorem e_law_404 {n : Nat} {xs : Nat → Int32} : lawF n xs 404 = f_loadR 2 1 := rfl
set_option maxRecDepth 8000 in
theorem e_law_405 {n : Nat} {xs : Nat → Int32} : lawF n xs 405 = f_loadR 0 1 := rfl
set_option maxRecDepth 8000 in
theorem e_law_406 {n : Nat} {xs : Nat → Int32} : lawF n xs 406 = f_loadI 3 1 := rfl
set_option maxRecDepth 8000 in
theorem e_law_407 {n : Nat} {xs : Nat → Int32} : lawF n xs 407 = f_push 1 1 := rfl
set_option maxRecDepth 8000 in
theorem e_law_408 {n : Nat} {xs : Nat → Int32} : lawF n xs 408 = f_add := rfl
set_option maxRecDepth 8000 in
theorem e_law_409 {n : Nat} {xs : Nat → Int32} : lawF n xs 409 = f_sld n xs := rfl
set_option maxRecDepth 8000 in
theorem e_law_410 {n : Nat} {xs : Nat → Int32} : lawF n xs 410 = f_loadR 0 1 := rfl
set_option maxRecDepth 8000 in
theorem e_law_411 {n : Nat} {xs : Nat → Int32} : lawF n xs 411 = f_loadI 3 1 := rfl
set_option maxRecDepth 8000 in
theorem e_law_412 {n : Nat} {xs : Nat → Int32} : lawF n xs 412 = f_push 2 1 := rfl
set_option maxRecDepth 8000 in
theorem e_law_413 {n : Nat} {xs : Nat → Int32} : lawF n xs 413 = f_add := rfl
set_option maxRecDepth 8000 in
theorem e_law_414 {n : Nat} {xs : Nat → Int32} : lawF n xs 414 = f_sld n xs := rfl
set_option maxRecDepth 8000 in
theorem e_law_415 {n : Nat} {xs : Nat → Int32} : lawF n xs 415 = f_loadR 0 1 := rfl
set_option maxRecDepth 8000 in
theorem e_law_416 {n : Nat} {xs : Nat → Int32} : lawF n xs 416 = f_loadI 3 1 := rfl
set_option maxRecDepth 8000 in
theorem e_law_417 {n : Nat} {xs : Nat → Int32} : lawF n xs 417 = f_push 3 1 := rfl
set_option maxRecDepth 8000 in
theorem e_law_418 {n : Nat} {xs : Nat → Int32} : lawF n xs 418 = f_add := rfl
set_option maxRecDepth 8000 in
theorem e_law_419 {n : Nat} {xs : Nat → Int32} : lawF n xs 419 = f_sld n xs := rfl
set_option maxRecDepth 8000 in
theorem e_law_420 {n : Nat} {xs : Nat → Int32} : lawF n xs 420 = f_loadR 0 1 := rfl
set_option maxRecDepth 8000 in
theorem e_law_421 {n : Nat} {xs : Nat → Int32} : lawF n xs 421 = f_loadI 3 1 := rfl
set_option maxRecDepth 8000 in
theorem e_law_422 {n : Nat} {xs : Nat → Int32} : lawF n xs 422 = f_push 4 1 := rfl
set_option maxRecDepth 8000 in
theorem e_law_423 {n : Nat} {xs : Nat → Int32} : lawF n xs 423 = f_add := rfl
set_option maxRecDepth 8000 in
theorem e_law_424 {n : Nat} {xs : Nat → Int32} : lawF n xs 424 = f_sld n xs := rfl
set_option maxRecDepth 8000 in
theorem e_law_425 {n : Nat} {xs : Nat → Int32} : lawF n xs 425 = f_loadR 0 1 := rfl
set_option maxRecDepth 8000 in
theorem e_law_426 {n : Nat} {xs : Nat → Int32} : lawF n xs 426 = f_loadI 3 1 := rfl
set_option maxRecDepth 8000 in
theorem e_law_427 {n : Nat} {xs : Nat → Int32} : lawF n xs 427 = f_push 5 1 := rfl
set_option maxRecDepth 8000 in
theorem e_law_428 {n : Nat} {xs : Nat → Int32} : lawF n xs 428 = f_add := rfl
set_option maxRecDepth 8000 in
theorem e_law_429 {n : Nat} {xs : Nat → Int32} : lawF n xs 429 = f_sld n xs := rfl
set_option maxRecDepth 8000 in
theorem e_law_430 {n : Nat} {xs : Nat → Int32} : lawF n xs 430 = f_callV 5 100 5 := rfl
set_option maxRecDepth 8000 in
theorem e_law_433 {n : Nat} {xs : Nat → Int32} : lawF n xs 433 = f_leq := rfl
set_option maxRecDepth 8000 in
theorem e_law_434 {n : Nat} {xs : Nat → Int32} : lawF n xs 434 = f_if0 cEq cNe 928 := rfl
set_option maxRecDepth 8000 in
theorem e_law_437 {n : Nat} {xs : Nat → Int32} : lawF n xs 437 = f_push 0 1 := rfl
set_option maxRecDepth 8000 in
theorem e_law_438 {n : Nat} {xs : Nat → Int32} : lawF n xs 438 = f_no := rfl
set_option maxRecDepth 8000 in
theorem e_law_439 {n : Nat} {xs : Nat → Int32} : lawF n xs 439 = f_loadR 1 1 := rfl
set_option maxRecDepth 8000 in
theorem e_law_440 {n : Nat} {xs : Nat → Int32} : lawF n xs 440 = f_loadR 0 1 := rfl
set_option maxRecDepth 8000 in
theorem e_law_441 {n : Nat} {xs : Nat → Int32} : lawF n xs 441 = f_loadI 3 1 := rfl
set_option maxRecDepth 8000 in
theorem e_law_442 {n : Nat} {xs : Nat → Int32} : lawF n xs 442 = f_push 1 1 := rfl
set_option maxRecDepth 8000 in
theorem e_law_443 {n : Nat} {xs : Nat → Int32} : lawF n xs 443 = f_add := rfl
set_option maxRecDepth 8000 in
theorem e_law_444 {n : Nat} {xs : Nat → Int32} : lawF n xs 444 = f_sld n xs := rfl
set_option maxRecDepth 8000 in
theorem e_law_445 {n : Nat} {xs : Nat → Int32} : lawF n xs 445 = f_loadR 0 1 := rfl
set_option maxRecDepth 8000 in
theorem e_law_446 {n : Nat} {xs : Nat → Int32} : lawF n xs 446 = f_loadI 3 1 := rfl
set_option maxRecDepth 8000 in
theorem e_law_447 {n : Nat} {xs : Nat → Int32} : lawF n xs 447 = f_push 2 1 := rfl
set_option maxRecDepth 8000 in
theorem e_law_448 {n : Nat} {xs : Nat → Int32} : lawF n xs 448 = f_add := rfl
set_option maxRecDepth 8000 in
theorem e_law_449 {n : Nat} {xs : Nat → Int32} : lawF n xs 449 = f_sld n xs := rfl
set_option maxRecDepth 8000 in
theorem e_law_450 {n : Nat} {xs : Nat → Int32} : lawF n xs 450 = f_loadR 0 1 := rfl
set_option maxRecDepth 8000 in
theorem e_law_451 {n : Nat} {xs : Nat → Int32} : lawF n xs 451 = f_loadI 3 1 := rfl
set_option maxRecDepth 8000 in
theorem e_law_452 {n : Nat} {xs : Nat → Int32} : lawF n xs 452 = f_push 3 1 := rfl
set_option maxRecDepth 8000 in
theorem e_law_453 {n : Nat} {xs : Nat → Int32} : lawF n xs 453 = f_add := rfl
set_option maxRecDepth 8000 in
theorem e_law_454 {n : Nat} {xs : Nat → Int32} : lawF n xs 454 = f_sld n xs := rfl
set_option maxRecDepth 8000 in
theorem e_law_455 {n : Nat} {xs : Nat → Int32} : lawF n xs 455 = f_loadR 0 1 := rfl
set_option maxRecDepth 8000 in
theorem e_law_456 {n : Nat} {xs : Nat → Int32} : lawF n xs 456 = f_loadI 3 1 := rfl
set_option maxRecDepth 8000 in
theorem e_law_457 {n : Nat} {xs : Nat → Int32} : lawF n xs 457 = f_push 4 1 := rfl
set_option maxRecDepth 8000 in
theorem e_law_458 {n : Nat} {xs : Nat → Int32} : lawF n xs 458 = f_add := rfl
set_option maxRecDepth 8000 in
theorem e_law_459 {n : Nat} {xs : Nat → Int32} : lawF n xs 459 = f_sld n xs := rfl
set_option maxRecDepth 8000 in
theorem e_law_460 {n : Nat} {xs : Nat → Int32} : lawF n xs 460 = f_loadR 0 1 := rfl
set_option maxRecDepth 8000 in
theorem e_law_461 {n : Nat} {xs : Nat → Int32} : lawF n xs 461 = f_loadI 3 1 := rfl
set_option maxRecDepth 8000 in
theorem e_law_462 {n : Nat} {xs : Nat → Int32} : lawF n xs 462 = f_push 5 1 := rfl
set_option maxRecDepth 8000 in
theorem e_law_463 {n : Nat} {xs : Nat → Int32} : lawF n xs 463 = f_add := rfl
set_option maxRecDepth 8000 in
theorem e_law_464 {n : Nat} {xs : Nat → Int32} : lawF n xs 464 = f_sld n xs := rfl
set_option maxRecDepth 8000 in
theorem e_law_465 {n : Nat} {xs : Nat → Int32} : lawF n xs 465 = f_loadR 0 1 := rfl
set_option maxRecDepth 8000 in
theorem e_law_466 {n : Nat} {xs : Nat → Int32} : lawF n xs 466 = f_loadI 3 1 := rfl
set_option maxRecDepth 8000 in
theorem e_law_467 {n : Nat} {xs : Nat → Int32} : lawF n xs 467 = f_push 6 2 := rfl
set_option maxRecDepth 8000 in
theorem e_law_469 {n : Nat} {xs : Nat → Int32} : lawF n xs 469 = f_add := rfl
set_option maxRecDepth 8000 in
theorem e_law_470 {n : Nat} {xs : Nat → Int32} : lawF n xs 470 = f_sld n xs := rfl
set_option maxRecDepth 8000 in
theorem e_law_471 {n : Nat} {xs : Nat → Int32} : lawF n xs 471 = f_callV 4 48 6 := rfl
set_option maxRecDepth 8000 in
theorem e_law_474 {n : Nat} {xs : Nat → Int32} : lawF n xs 474 = f_loadR 2 1 := rfl
set_option maxRecDepth 8000 in
theorem e_law_475 {n : Nat} {xs : Nat → Int32} : lawF n xs 475 = f_loadR 0 1 := rfl
set_option maxRecDepth 8000 in
theorem e_law_476 {n : Nat} {xs : Nat → Int32} : lawF n xs 476 = f_loadI 3 1 := rfl
set_option maxRecDepth 8000 in
theorem e_law_477 {n : Nat} {xs : Nat → Int32} : lawF n xs 477 = f_push 1 1 := rfl
set_option maxRecDepth 8000 in
theorem e_law_478 {n : Nat} {xs : Nat → Int32} : lawF n xs 478 = f_add := rfl
set_option maxRecDepth 8000 in
theorem e_law_479 {n : Nat} {xs : Nat → Int32} : lawF n xs 479 = f_sld n xs := rfl
set_option maxRecDepth 8000 in
theorem e_law_480 {n : Nat} {xs : Nat → Int32} : lawF n xs 480 = f_loadR 0 1 := rfl
set_option maxRecDepth 8000 in
theorem e_law_481 {n : Nat} {xs : Nat → Int32} : lawF n xs 481 = f_loadI 3 1 := rfl
set_option maxRecDepth 8000 in
theorem e_law_482 {n : Nat} {xs : Nat → Int32} : lawF n xs 482 = f_push 2 1 := rfl
set_option maxRecDepth 8000 in
theorem e_law_483 {n : Nat} {xs : Nat → Int32} : lawF n xs 483 = f_add := rfl
set_option maxRecDepth 8000 in
theorem e_law_484 {n : Nat} {xs : Nat → Int32} : lawF n xs 484 = f_sld n xs := rfl
set_option maxRecDepth 8000 in
theorem e_law_485 {n : Nat} {xs : Nat → Int32} : lawF n xs 485 = f_loadR 0 1 := rfl
set_option maxRecDepth 8000 in
theorem e_law_486 {n : Nat} {xs : Nat → Int32} : lawF n xs 486 = f_loadI 3 1 := rfl
set_option maxRecDepth 8000 in
theorem e_law_487 {n : Nat} {xs : Nat → Int32} : lawF n xs 487 = f_push 3 1 := rfl
set_option maxRecDepth 8000 in
theorem e_law_488 {n : Nat} {xs : Nat → Int32} : lawF n xs 488 = f_add := rfl
set_option maxRecDepth 8000 in
theorem e_law_489 {n : Nat} {xs : Nat → Int32} : lawF n xs 489 = f_sld n xs := rfl
set_option maxRecDepth 8000 in
theorem e_law_490 {n : Nat} {xs : Nat → Int32} : lawF n xs 490 = f_loadR 0 1 := rfl
set_option maxRecDepth 8000 in
theorem e_law_491 {n : Nat} {xs : Nat → Int32} : lawF n xs 491 = f_loadI 3 1 := rfl
set_option maxRecDepth 8000 in
theorem e_law_492 {n : Nat} {xs : Nat → Int32} : lawF n xs 492 = f_push 4 1 := rfl
set_option maxRecDepth 8000 in
theorem e_law_493 {n : Nat} {xs : Nat → Int32} : lawF n xs 493 = f_add := rfl
set_option maxRecDepth 8000 in
theorem e_law_494 {n : Nat} {xs : Nat → Int32} : lawF n xs 494 = f_sld n xs := rfl
set_option maxRecDepth 8000 in
theorem e_law_495 {n : Nat} {xs : Nat → Int32} : lawF n xs 495 = f_loadR 0 1 := rfl
set_option maxRecDepth 8000 in
theorem e_law_496 {n : Nat} {xs : Nat → Int32} : lawF n xs 496 = f_loadI 3 1 := rfl
set_option maxRecDepth 8000 in
theorem e_law_497 {n : Nat} {xs : Nat → Int32} : lawF n xs 497 = f_push 5 1 := rfl
set_option maxRecDepth 8000 in
theorem e_law_498 {n : Nat} {xs : Nat → Int32} : lawF n xs 498 = f_add := rfl
set_option maxRecDepth 8000 in
theorem e_law_499 {n : Nat} {xs : Nat → Int32} : lawF n xs 499 = f_sld n xs := rfl
set_option maxRecDepth 8000 in
theorem e_law_500 {n : Nat} {xs : Nat → Int32} : lawF n xs 500 = f_loadR 0 1 := rfl
set_option maxRecDepth 8000 in
theorem e_law_501 {n : Nat} {xs : Nat → Int32} : lawF n xs 501 = f_loadI 3 1 := rfl
set_option maxRecDepth 8000 in
theorem e_law_502 {n : Nat} {xs : Nat → Int32} : lawF n xs 502 = f_push 6 2 := rfl
set_option maxRecDepth 8000 in
theorem e_law_504 {n : Nat} {xs : Nat → Int32} : lawF n xs 504 = f_add := rfl
set_option maxRecDepth 8000 in
theorem e_law_505 {n : Nat} {xs : Nat → Int32} : lawF n xs 505 = f_sld n xs := rfl
set_option maxRecDepth 8000 in
theorem e_law_506 {n : Nat} {xs : Nat → Int32} : lawF n xs 506 = f_callV 5 101 6 := rfl
set_option maxRecDepth 8000 in
theorem e_law_509 {n : Nat} {xs : Nat → Int32} : lawF n xs 509 = f_eq 928 := rfl
set_option maxRecDepth 8000 in
theorem e_law_512 {n : Nat} {xs : Nat → Int32} : lawF n xs 512 = f_push 0 1 := rfl
set_option maxRecDepth 8000 in
theorem e_law_513 {n : Nat} {xs : Nat → Int32} : lawF n xs 513 = f_no := rfl
set_option maxRecDepth 8000 in
theorem e_law_514 {n : Nat} {xs : Nat → Int32} : lawF n xs 514 = f_loadR 1 1 := rfl
set_option maxRecDepth 8000 in
theorem e_law_515 {n : Nat} {xs : Nat → Int32} : lawF n xs 515 = f_loadR 0 1 := rfl
set_option maxRecDepth 8000 in
theorem e_law_516 {n : Nat} {xs : Nat → Int32} : lawF n xs 516 = f_loadI 3 1 := rfl
set_option maxRecDepth 8000 in
theorem e_law_517 {n : Nat} {xs : Nat → Int32} : lawF n xs 517 = f_push 1 1 := rfl
set_option maxRecDepth 8000 in
theorem e_law_518 {n : Nat} {xs : Nat → Int32} : lawF n xs 518 = f_add := rfl
set_option maxRecDepth 8000 in
theorem e_law_519 {n : Nat} {xs : Nat → Int32} : lawF n xs 519 = f_sld n xs := rfl
set_option maxRecDepth 8000 in
theorem e_law_520 {n : Nat} {xs : Nat → Int32} : lawF n xs 520 = f_loadR 0 1 := rfl
set_option maxRecDepth 8000 in
theorem e_law_521 {n : Nat} {xs : Nat → Int32} : lawF n xs 521 = f_loadI 3 1 := rfl
set_option maxRecDepth 8000 in
theorem e_law_522 {n : Nat} {xs : Nat → Int32} : lawF n xs 522 = f_push 2 1 := rfl
set_option maxRecDepth 8000 in
theorem e_law_523 {n : Nat} {xs : Nat → Int32} : lawF n xs 523 = f_add := rfl
set_option maxRecDepth 8000 in
theorem e_law_524 {n : Nat} {xs : Nat → Int32} : lawF n xs 524 = f_sld n xs := rfl
set_option maxRecDepth 8000 in
theorem e_law_525 {n : Nat} {xs : Nat → Int32} : lawF n xs 525 = f_callV 4 49 2 := rfl
set_option maxRecDepth 8000 in
theorem e_law_528 {n : Nat} {xs : Nat → Int32} : lawF n xs 528 = f_loadR 2 1 := rfl
set_option maxRecDepth 8000 in
theorem e_law_529 {n : Nat} {xs : Nat → Int32} : lawF n xs 529 = f_loadR 0 1 := rfl
set_option maxRecDepth 8000 in
theorem e_law_530 {n : Nat} {xs : Nat → Int32} : lawF n xs 530 = f_loadI 3 1 := rfl
set_option maxRecDepth 8000 in
theorem e_law_531 {n : Nat} {xs : Nat → Int32} : lawF n xs 531 = f_push 1 1 := rfl
set_option maxRecDepth 8000 in
theorem e_law_532 {n : Nat} {xs : Nat → Int32} : lawF n xs 532 = f_add := rfl
set_option maxRecDepth 8000 in
theorem e_law_533 {n : Nat} {xs : Nat → Int32} : lawF n xs 533 = f_sld n xs := rfl
set_option maxRecDepth 8000 in
theorem e_law_534 {n : Nat} {xs : Nat → Int32} : lawF n xs 534 = f_loadR 0 1 := rfl
set_option maxRecDepth 8000 in
theorem e_law_535 {n : Nat} {xs : Nat → Int32} : lawF n xs 535 = f_loadI 3 1 := rfl
set_option maxRecDepth 8000 in
theorem e_law_536 {n : Nat} {xs : Nat → Int32} : lawF n xs 536 = f_push 2 1 := rfl
set_option maxRecDepth 8000 in
theorem e_law_537 {n : Nat} {xs : Nat → Int32} : lawF n xs 537 = f_add := rfl
set_option maxRecDepth 8000 in
theorem e_law_538 {n : Nat} {xs : Nat → Int32} : lawF n xs 538 = f_sld n xs := rfl
set_option maxRecDepth 8000 in
theorem e_law_539 {n : Nat} {xs : Nat → Int32} : lawF n xs 539 = f_callV 5 104 2 := rfl
set_option maxRecDepth 8000 in
theorem e_law_542 {n : Nat} {xs : Nat → Int32} : lawF n xs 542 = f_eq 928 := rfl
set_option maxRecDepth 8000 in
theorem e_law_545 {n : Nat} {xs : Nat → Int32} : lawF n xs 545 = f_push 0 1 := rfl
set_option maxRecDepth 8000 in
theorem e_law_546 {n : Nat} {xs : Nat → Int32} : lawF n xs 546 = f_no := rfl
set_option maxRecDepth 8000 in
theorem e_law_547 {n : Nat} {xs : Nat → Int32} : lawF n xs 547 = f_loadR 1 1 := rfl
set_option maxRecDepth 8000 in
theorem e_law_548 {n : Nat} {xs : Nat → Int32} : lawF n xs 548 = f_loadR 0 1 := rfl
set_option maxRecDepth 8000 in
theorem e_law_549 {n : Nat} {xs : Nat → Int32} : lawF n xs 549 = f_loadI 3 1 := rfl
set_option maxRecDepth 8000 in
theorem e_law_550 {n : Nat} {xs : Nat → Int32} : lawF n xs 550 = f_push 1 1 := rfl
set_option maxRecDepth 8000 in
theorem e_law_551 {n : Nat} {xs : Nat → Int32} : lawF n xs 551 = f_add := rfl
set_option maxRecDepth 8000 in
theorem e_law_552 {n : Nat} {xs : Nat → Int32} : lawF n xs 552 = f_sld n xs := rfl
set_option maxRecDepth 8000 in
theorem e_law_553 {n : Nat} {xs : Nat → Int32} : lawF n xs 553 = f_loadR 0 1 := rfl
set_option maxRecDepth 8000 in
theorem e_law_554 {n : Nat} {xs : Nat → Int32} : lawF n xs 554 = f_loadI 3 1 := rfl
set_option maxRecDepth 8000 in
theorem e_law_555 {n : Nat} {xs : Nat → Int32} : lawF n xs 555 = f_push 2 1 := rfl
set_option maxRecDepth 8000 in
theorem e_law_556 {n : Nat} {xs : Nat → Int32} : lawF n xs 556 = f_add := rfl
set_option maxRecDepth 8000 in
theorem e_law_557 {n : Nat} {xs : Nat → Int32} : lawF n xs 557 = f_sld n xs := rfl
set_option maxRecDepth 8000 in
theorem e_law_558 {n : Nat} {xs : Nat → Int32} : lawF n xs 558 = f_callV 4 50 2 := rfl
set_option maxRecDepth 8000 in
theorem e_law_561 {n : Nat} {xs : Nat → Int32} : lawF n xs 561 = f_loadR 2 1 := rfl
set_option maxRecDepth 8000 in
theorem e_law_562 {n : Nat} {xs : Nat → Int32} : lawF n xs 562 = f_loadR 0 1 := rfl
set_option maxRecDepth 8000 in
theorem e_law_563 {n : Nat} {xs : Nat → Int32} : lawF n xs 563 = f_loadI 3 1 := rfl
set_option maxRecDepth 8000 in
theorem e_law_564 {n : Nat} {xs : Nat → Int32} : lawF n xs 564 = f_push 1 1 := rfl
set_option maxRecDepth 8000 in
theorem e_law_565 {n : Nat} {xs : Nat → Int32} : lawF n xs 565 = f_add := rfl
set_option maxRecDepth 8000 in
theorem e_law_566 {n : Nat} {xs : Nat → Int32} : lawF n xs 566 = f_sld n xs := rfl
set_option maxRecDepth 8000 in
theorem e_law_567 {n : Nat} {xs : Nat → Int32} : lawF n xs 567 = f_loadR 0 1 := rfl
set_option maxRecDepth 8000 in
theorem e_law_568 {n : Nat} {xs : Nat → Int32} : lawF n xs 568 = f_loadI 3 1 := rfl
set_option maxRecDepth 8000 in
theorem e_law_569 {n : Nat} {xs : Nat → Int32} : lawF n xs 569 = f_push 2 1 := rfl
set_option maxRecDepth 8000 in
theorem e_law_570 {n : Nat} {xs : Nat → Int32} : lawF n xs 570 = f_add := rfl
set_option maxRecDepth 8000 in
theorem e_law_571 {n : Nat} {xs : Nat → Int32} : lawF n xs 571 = f_sld n xs := rfl
set_option maxRecDepth 8000 in
theorem e_law_572 {n : Nat} {xs : Nat → Int32} : lawF n xs 572 = f_callV 5 105 2 := rfl
set_option maxRecDepth 8000 in
theorem e_law_575 {n : Nat} {xs : Nat → Int32} : lawF n xs 575 = f_eq 928 := rfl
set_option maxRecDepth 8000 in
theorem e_law_578 {n : Nat} {xs : Nat → Int32} : lawF n xs 578 = f_push 0 1 := rfl
set_option maxRecDepth 8000 in
theorem e_law_579 {n : Nat} {xs : Nat → Int32} : lawF n xs 579 = f_no := rfl
set_option maxRecDepth 8000 in
theorem e_law_580 {n : Nat} {xs : Nat → Int32} : lawF n xs 580 = f_loadR 1 1 := rfl
set_option maxRecDepth 8000 in
theorem e_law_581 {n : Nat} {xs : Nat → Int32} : lawF n xs 581 = f_loadR 0 1 := rfl
set_option maxRecDepth 8000 in
theorem e_law_582 {n : Nat} {xs : Nat → Int32} : lawF n xs 582 = f_loadI 3 1 := rfl
set_option maxRecDepth 8000 in
theorem e_law_583 {n : Nat} {xs : Nat → Int32} : lawF n xs 583 = f_push 1 1 := rfl
set_option maxRecDepth 8000 in
theorem e_law_584 {n : Nat} {xs : Nat → Int32} : lawF n xs 584 = f_add := rfl
set_option maxRecDepth 8000 in
theorem e_law_585 {n : Nat} {xs : Nat → Int32} : lawF n xs 585 = f_sld n xs := rfl
set_option maxRecDepth 8000 in
theorem e_law_586 {n : Nat} {xs : Nat → Int32} : lawF n xs 586 = f_callV 4 51 1 := rfl
set_option maxRecDepth 8000 in
theorem e_law_589 {n : Nat} {xs : Nat → Int32} : lawF n xs 589 = f_loadR 2 1 := rfl
set_option maxRecDepth 8000 in
theorem e_law_590 {n : Nat} {xs : Nat → Int32} : lawF n xs 590 = f_loadR 0 1 := rfl
set_option maxRecDepth 8000 in
theorem e_law_591 {n : Nat} {xs : Nat → Int32} : lawF n xs 591 = f_loadI 3 1 := rfl
set_option maxRecDepth 8000 in
theorem e_law_592 {n : Nat} {xs : Nat → Int32} : lawF n xs 592 = f_push 1 1 := rfl
set_option maxRecDepth 8000 in
theorem e_law_593 {n : Nat} {xs : Nat → Int32} : lawF n xs 593 = f_add := rfl
set_option maxRecDepth 8000 in
theorem e_law_594 {n : Nat} {xs : Nat → Int32} : lawF n xs 594 = f_sld n xs := rfl
set_option maxRecDepth 8000 in
theorem e_law_595 {n : Nat} {xs : Nat → Int32} : lawF n xs 595 = f_callV 5 107 1 := rfl
set_option maxRecDepth 8000 in
theorem e_law_598 {n : Nat} {xs : Nat → Int32} : lawF n xs 598 = f_eq 928 := rfl
set_option maxRecDepth 8000 in
theorem e_law_601 {n : Nat} {xs : Nat → Int32} : lawF n xs 601 = f_push 0 1 := rfl
set_option maxRecDepth 8000 in
theorem e_law_602 {n : Nat} {xs : Nat → Int32} : lawF n xs 602 = f_no := rfl
set_option maxRecDepth 8000 in
theorem e_law_603 {n : Nat} {xs : Nat → Int32} : lawF n xs 603 = f_loadR 1 1 := rfl
set_option maxRecDepth 8000 in
theorem e_law_604 {n : Nat} {xs : Nat → Int32} : lawF n xs 604 = f_callV 4 52 0 := rfl
set_option maxRecDepth 8000 in
theorem e_law_607 {n : Nat} {xs : Nat → Int32} : lawF n xs 607 = f_loadR 2 1 := rfl
set_option maxRecDepth 8000 in
theorem e_law_608 {n : Nat} {xs : Nat → Int32} : lawF n xs 608 = f_callV 5 109 0 := rfl
set_option maxRecDepth 8000 in
theorem e_law_611 {n : Nat} {xs : Nat → Int32} : lawF n xs 611 = f_eq 928 := rfl
set_option maxRecDepth 8000 in
theorem e_law_614 {n : Nat} {xs : Nat → Int32} : lawF n xs 614 = f_push 0 1 := rfl
set_option maxRecDepth 8000 in
theorem e_law_615 {n : Nat} {xs : Nat → Int32} : lawF n xs 615 = f_no := rfl
set_option maxRecDepth 8000 in
theorem e_law_616 {n : Nat} {xs : Nat → Int32} : lawF n xs 616 = f_loadR 1 1 := rfl
set_option maxRecDepth 8000 in
theorem e_law_617 {n : Nat} {xs : Nat → Int32} : lawF n xs 617 = f_loadR 0 1 := rfl
set_option maxRecDepth 8000 in
theorem e_law_618 {n : Nat} {xs : Nat → Int32} : lawF n xs 618 = f_loadI 3 1 := rfl
set_option maxRecDepth 8000 in
theorem e_law_619 {n : Nat} {xs : Nat → Int32} : lawF n xs 619 = f_push 1 1 := rfl
set_option maxRecDepth 8000 in
theorem e_law_620 {n : Nat} {xs : Nat → Int32} : lawF n xs 620 = f_add := rfl
set_option maxRecDepth 8000 in
theorem e_law_621 {n : Nat} {xs : Nat → Int32} : lawF n xs 621 = f_sld n xs := rfl
set_option maxRecDepth 8000 in
theorem e_law_622 {n : Nat} {xs : Nat → Int32} : lawF n xs 622 = f_loadR 0 1 := rfl
set_option maxRecDepth 8000 in
theorem e_law_623 {n : Nat} {xs : Nat → Int32} : lawF n xs 623 = f_loadI 3 1 := rfl
set_option maxRecDepth 8000 in
theorem e_law_624 {n : Nat} {xs : Nat → Int32} : lawF n xs 624 = f_push 2 1 := rfl
set_option maxRecDepth 8000 in
theorem e_law_625 {n : Nat} {xs : Nat → Int32} : lawF n xs 625 = f_add := rfl
set_option maxRecDepth 8000 in
theorem e_law_626 {n : Nat} {xs : Nat → Int32} : lawF n xs 626 = f_sld n xs := rfl
set_option maxRecDepth 8000 in
theorem e_law_627 {n : Nat} {xs : Nat → Int32} : lawF n xs 627 = f_callV 4 53 2 := rfl
set_option maxRecDepth 8000 in
theorem e_law_630 {n : Nat} {xs : Nat → Int32} : lawF n xs 630 = f_loadR 2 1 := rfl
set_option maxRecDepth 8000 in
theorem e_law_631 {n : Nat} {xs : Nat → Int32} : lawF n xs 631 = f_loadR 0 1 := rfl
set_option maxRecDepth 8000 in
theorem e_law_632 {n : Nat} {xs : Nat → Int32} : lawF n xs 632 = f_loadI 3 1 := rfl
set_option maxRecDepth 8000 in
theorem e_law_633 {n : Nat} {xs : Nat → Int32} : lawF n xs 633 = f_push 1 1 := rfl
set_option maxRecDepth 8000 in
theorem e_law_634 {n : Nat} {xs : Nat → Int32} : lawF n xs 634 = f_add := rfl
set_option maxRecDepth 8000 in
theorem e_law_635 {n : Nat} {xs : Nat → Int32} : lawF n xs 635 = f_sld n xs := rfl
set_option maxRecDepth 8000 in
theorem e_law_636 {n : Nat} {xs : Nat → Int32} : lawF n xs 636 = f_loadR 0 1 := rfl
set_option maxRecDepth 8000 in
theorem e_law_637 {n : Nat} {xs : Nat → Int32} : lawF n xs 637 = f_loadI 3 1 := rfl
set_option maxRecDepth 8000 in
theorem e_law_638 {n : Nat} {xs : Nat → Int32} : lawF n xs 638 = f_push 2 1 := rfl
set_option maxRecDepth 8000 in
theorem e_law_639 {n : Nat} {xs : Nat → Int32} : lawF n xs 639 = f_add := rfl
set_option maxRecDepth 8000 in
theorem e_law_640 {n : Nat} {xs : Nat → Int32} : lawF n xs 640 = f_sld n xs := rfl
set_option maxRecDepth 8000 in
theorem e_law_641 {n : Nat} {xs : Nat → Int32} : lawF n xs 641 = f_callV 5 112 2 := rfl
set_option maxRecDepth 8000 in
theorem e_law_644 {n : Nat} {xs : Nat → Int32} : lawF n xs 644 = f_leq := rfl
set_option maxRecDepth 8000 in
theorem e_law_645 {n : Nat} {xs : Nat → Int32} : lawF n xs 645 = f_if0 cEq cNe 928 := rfl
set_option maxRecDepth 8000 in
theorem e_law_648 {n : Nat} {xs : Nat → Int32} : lawF n xs 648 = f_push 0 1 := rfl
set_option maxRecDepth 8000 in
theorem e_law_649 {n : Nat} {xs : Nat → Int32} : lawF n xs 649 = f_no := rfl
set_option maxRecDepth 8000 in
theorem e_law_650 {n : Nat} {xs : Nat → Int32} : lawF n xs 650 = f_loadR 1 1 := rfl
set_option maxRecDepth 8000 in
theorem e_law_651 {n : Nat} {xs : Nat → Int32} : lawF n xs 651 = f_loadR 0 1 := rfl
set_option maxRecDepth 8000 in
theorem e_law_652 {n : Nat} {xs : Nat → Int32} : lawF n xs 652 = f_loadI 3 1 := rfl
set_option maxRecDepth 8000 in
theorem e_law_653 {n : Nat} {xs : Nat → Int32} : lawF n xs 653 = f_push 1 1 := rfl
set_option maxRecDepth 8000 in
theorem e_law_654 {n : Nat} {xs : Nat → Int32} : lawF n xs 654 = f_add := rfl
set_option maxRecDepth 8000 in
theorem e_law_655 {n : Nat} {xs : Nat → Int32} : lawF n xs 655 = f_sld n xs := rfl
set_option maxRecDepth 8000 in
theorem e_law_656 {n : Nat} {xs : Nat → Int32} : lawF n xs 656 = f_loadR 0 1 := rfl
set_option maxRecDepth 8000 in
theorem e_law_657 {n : Nat} {xs : Nat → Int32} : lawF n xs 657 = f_loadI 3 1 := rfl
set_option maxRecDepth 8000 in
theorem e_law_658 {n : Nat} {xs : Nat → Int32} : lawF n xs 658 = f_push 2 1 := rfl
set_option maxRecDepth 8000 in
theorem e_law_659 {n : Nat} {xs : Nat → Int32} : lawF n xs 659 = f_add := rfl
set_option maxRecDepth 8000 in
theorem e_law_660 {n : Nat} {xs : Nat → Int32} : lawF n xs 660 = f_sld n xs := rfl
set_option maxRecDepth 8000 in
theorem e_law_661 {n : Nat} {xs : Nat → Int32} : lawF n xs 661 = f_loadR 0 1 := rfl
set_option maxRecDepth 8000 in
theorem e_law_662 {n : Nat} {xs : Nat → Int32} : lawF n xs 662 = f_loadI 3 1 := rfl
set_option maxRecDepth 8000 in
theorem e_law_663 {n : Nat} {xs : Nat → Int32} : lawF n xs 663 = f_push 3 1 := rfl
set_option maxRecDepth 8000 in
theorem e_law_664 {n : Nat} {xs : Nat → Int32} : lawF n xs 664 = f_add := rfl
set_option maxRecDepth 8000 in
theorem e_law_665 {n : Nat} {xs : Nat → Int32} : lawF n xs 665 = f_sld n xs := rfl
set_option maxRecDepth 8000 in
theorem e_law_666 {n : Nat} {xs : Nat → Int32} : lawF n xs 666 = f_loadR 0 1 := rfl
set_option maxRecDepth 8000 in
theorem e_law_667 {n : Nat} {xs : Nat → Int32} : lawF n xs 667 = f_loadI 3 1 := rfl
set_option maxRecDepth 8000 in
theorem e_law_668 {n : Nat} {xs : Nat → Int32} : lawF n xs 668 = f_push 4 1 := rfl
set_option maxRecDepth 8000 in
theorem e_law_669 {n : Nat} {xs : Nat → Int32} : lawF n xs 669 = f_add := rfl
set_option maxRecDepth 8000 in
theorem e_law_670 {n : Nat} {xs : Nat → Int32} : lawF n xs 670 = f_sld n xs := rfl
set_option maxRecDepth 8000 in
theorem e_law_671 {n : Nat} {xs : Nat → Int32} : lawF n xs 671 = f_callV 4 54 4 := rfl
set_option maxRecDepth 8000 in
theorem e_law_674 {n : Nat} {xs : Nat → Int32} : lawF n xs 674 = f_loadR 2 1 := rfl
set_option maxRecDepth 8000 in
theorem e_law_675 {n : Nat} {xs : Nat → Int32} : lawF n xs 675 = f_loadR 0 1 := rfl
set_option maxRecDepth 8000 in
theorem e_law_676 {n : Nat} {xs : Nat → Int32} : lawF n xs 676 = f_loadI 3 1 := rfl
set_option maxRecDepth 8000 in
theorem e_law_677 {n : Nat} {xs : Nat → Int32} : lawF n xs 677 = f_push 1 1 := rfl
set_option maxRecDepth 8000 in
theorem e_law_678 {n : Nat} {xs : Nat → Int32} : lawF n xs 678 = f_add := rfl
set_option maxRecDepth 8000 in
theorem e_law_679 {n : Nat} {xs : Nat → Int32} : lawF n xs 679 = f_sld n xs := rfl
set_option maxRecDepth 8000 in
theorem e_law_680 {n : Nat} {xs : Nat → Int32} : lawF n xs 680 = f_loadR 0 1 := rfl
set_option maxRecDepth 8000 in
theorem e_law_681 {n : Nat} {xs : Nat → Int32} : lawF n xs 681 = f_loadI 3 1 := rfl
set_option maxRecDepth 8000 in
theorem e_law_682 {n : Nat} {xs : Nat → Int32} : lawF n xs 682 = f_push 2 1 := rfl
set_option maxRecDepth 8000 in
theorem e_law_683 {n : Nat} {xs : Nat → Int32} : lawF n xs 683 = f_add := rfl
set_option maxRecDepth 8000 in
theorem e_law_684 {n : Nat} {xs : Nat → Int32} : lawF n xs 684 = f_sld n xs := rfl
set_option maxRecDepth 8000 in
theorem e_law_685 {n : Nat} {xs : Nat → Int32} : lawF n xs 685 = f_loadR 0 1 := rfl
set_option maxRecDepth 8000 in
theorem e_law_686 {n : Nat} {xs : Nat → Int32} : lawF n xs 686 = f_loadI 3 1 := rfl
set_option maxRecDepth 8000 in
theorem e_law_687 {n : Nat} {xs : Nat → Int32} : lawF n xs 687 = f_push 3 1 := rfl
set_option maxRecDepth 8000 in
theorem e_law_688 {n : Nat} {xs : Nat → Int32} : lawF n xs 688 = f_add := rfl
set_option maxRecDepth 8000 in
theorem e_law_689 {n : Nat} {xs : Nat → Int32} : lawF n xs 689 = f_sld n xs := rfl
set_option maxRecDepth 8000 in
theorem e_law_690 {n : Nat} {xs : Nat → Int32} : lawF n xs 690 = f_loadR 0 1 := rfl
set_option maxRecDepth 8000 in
theorem e_law_691 {n : Nat} {xs : Nat → Int32} : lawF n xs 691 = f_loadI 3 1 := rfl
set_option maxRecDepth 8000 in
theorem e_law_692 {n : Nat} {xs : Nat → Int32} : lawF n xs 692 = f_push 4 1 := rfl
set_option maxRecDepth 8000 in
theorem e_law_693 {n : Nat} {xs : Nat → Int32} : lawF n xs 693 = f_add := rfl
set_option maxRecDepth 8000 in
theorem e_law_694 {n : Nat} {xs : Nat → Int32} : lawF n xs 694 = f_sld n xs := rfl
set_option maxRecDepth 8000 in
theorem e_law_695 {n : Nat} {xs : Nat → Int32} : lawF n xs 695 = f_callV 5 113 4 := rfl
set_option maxRecDepth 8000 in
theorem e_law_698 {n : Nat} {xs : Nat → Int32} : lawF n xs 698 = f_eq 928 := rfl
set_option maxRecDepth 8000 in
theorem e_law_701 {n : Nat} {xs : Nat → Int32} : lawF n xs 701 = f_push 0 1 := rfl
set_option maxRecDepth 8000 in
theorem e_law_702 {n : Nat} {xs : Nat → Int32} : lawF n xs 702 = f_no := rfl
set_option maxRecDepth 8000 in
theorem e_law_703 {n : Nat} {xs : Nat → Int32} : lawF n xs 703 = f_loadR 1 1 := rfl
set_option maxRecDepth 8000 in
theorem e_law_704 {n : Nat} {xs : Nat → Int32} : lawF n xs 704 = f_loadR 0 1 := rfl
set_option maxRecDepth 8000 in
theorem e_law_705 {n : Nat} {xs : Nat → Int32} : lawF n xs 705 = f_loadI 3 1 := rfl
set_option maxRecDepth 8000 in
theorem e_law_706 {n : Nat} {xs : Nat → Int32} : lawF n xs 706 = f_push 1 1 := rfl
set_option maxRecDepth 8000 in
theorem e_law_707 {n : Nat} {xs : Nat → Int32} : lawF n xs 707 = f_add := rfl
set_option maxRecDepth 8000 in
theorem e_law_708 {n : Nat} {xs : Nat → Int32} : lawF n xs 708 = f_sld n xs := rfl
set_option maxRecDepth 8000 in
theorem e_law_709 {n : Nat} {xs : Nat → Int32} : lawF n xs 709 = f_loadR 0 1 := rfl
set_option maxRecDepth 8000 in
theorem e_law_710 {n : Nat} {xs : Nat → Int32} : lawF n xs 710 = f_loadI 3 1 := rfl
set_option maxRecDepth 8000 in
theorem e_law_711 {n : Nat} {xs : Nat → Int32} : lawF n xs 711 = f_push 2 1 := rfl
set_option maxRecDepth 8000 in
theorem e_law_712 {n : Nat} {xs : Nat → Int32} : lawF n xs 712 = f_add := rfl
set_option maxRecDepth 8000 in
theorem e_law_713 {n : Nat} {xs : Nat → Int32} : lawF n xs 713 = f_sld n xs := rfl
set_option maxRecDepth 8000 in
theorem e_law_714 {n : Nat} {xs : Nat → Int32} : lawF n xs 714 = f_loadR 0 1 := rfl
set_option maxRecDepth 8000 in
theorem e_law_715 {n : Nat} {xs : Nat → Int32} : lawF n xs 715 = f_loadI 3 1 := rfl
set_option maxRecDepth 8000 in
theorem e_law_716 {n : Nat} {xs : Nat → Int32} : lawF n xs 716 = f_push 3 1 := rfl
set_option maxRecDepth 8000 in
theorem e_law_717 {n : Nat} {xs : Nat → Int32} : lawF n xs 717 = f_add := rfl
set_option maxRecDepth 8000 in
theorem e_law_718 {n : Nat} {xs : Nat → Int32} : lawF n xs 718 = f_sld n xs := rfl
set_option maxRecDepth 8000 in
theorem e_law_719 {n : Nat} {xs : Nat → Int32} : lawF n xs 719 = f_loadR 0 1 := rfl
set_option maxRecDepth 8000 in
theorem e_law_720 {n : Nat} {xs : Nat → Int32} : lawF n xs 720 = f_loadI 3 1 := rfl
set_option maxRecDepth 8000 in
theorem e_law_721 {n : Nat} {xs : Nat → Int32} : lawF n xs 721 = f_push 4 1 := rfl
set_option maxRecDepth 8000 in
theorem e_law_722 {n : Nat} {xs : Nat → Int32} : lawF n xs 722 = f_add := rfl
set_option maxRecDepth 8000 in
theorem e_law_723 {n : Nat} {xs : Nat → Int32} : lawF n xs 723 = f_sld n xs := rfl
set_option maxRecDepth 8000 in
theorem e_law_724 {n : Nat} {xs : Nat → Int32} : lawF n xs 724 = f_loadR 0 1 := rfl
set_option maxRecDepth 8000 in
theorem e_law_725 {n : Nat} {xs : Nat → Int32} : lawF n xs 725 = f_loadI 3 1 := rfl
set_option maxRecDepth 8000 in
theorem e_law_726 {n : Nat} {xs : Nat → Int32} : lawF n xs 726 = f_push 5 1 := rfl
set_option maxRecDepth 8000 in
theorem e_law_727 {n : Nat} {xs : Nat → Int32} : lawF n xs 727 = f_add := rfl
set_option maxRecDepth 8000 in
theorem e_law_728 {n : Nat} {xs : Nat → Int32} : lawF n xs 728 = f_sld n xs := rfl
set_option maxRecDepth 8000 in
theorem e_law_729 {n : Nat} {xs : Nat → Int32} : lawF n xs 729 = f_callV 4 55 5 := rfl
set_option maxRecDepth 8000 in
theorem e_law_732 {n : Nat} {xs : Nat → Int32} : lawF n xs 732 = f_loadR 2 1 := rfl
set_option maxRecDepth 8000 in
theorem e_law_733 {n : Nat} {xs : Nat → Int32} : lawF n xs 733 = f_loadR 0 1 := rfl
set_option maxRecDepth 8000 in
theorem e_law_734 {n : Nat} {xs : Nat → Int32} : lawF n xs 734 = f_loadI 3 1 := rfl
set_option maxRecDepth 8000 in
theorem e_law_735 {n : Nat} {xs : Nat → Int32} : lawF n xs 735 = f_push 1 1 := rfl
set_option maxRecDepth 8000 in
theorem e_law_736 {n : Nat} {xs : Nat → Int32} : lawF n xs 736 = f_add := rfl
set_option maxRecDepth 8000 in
theorem e_law_737 {n : Nat} {xs : Nat → Int32} : lawF n xs 737 = f_sld n xs := rfl
set_option maxRecDepth 8000 in
theorem e_law_738 {n : Nat} {xs : Nat → Int32} : lawF n xs 738 = f_loadR 0 1 := rfl
set_option maxRecDepth 8000 in
theorem e_law_739 {n : Nat} {xs : Nat → Int32} : lawF n xs 739 = f_loadI 3 1 := rfl
set_option maxRecDepth 8000 in
theorem e_law_740 {n : Nat} {xs : Nat → Int32} : lawF n xs 740 = f_push 2 1 := rfl
set_option maxRecDepth 8000 in
theorem e_law_741 {n : Nat} {xs : Nat → Int32} : lawF n xs 741 = f_add := rfl
set_option maxRecDepth 8000 in
theorem e_law_742 {n : Nat} {xs : Nat → Int32} : lawF n xs 742 = f_sld n xs := rfl
set_option maxRecDepth 8000 in
theorem e_law_743 {n : Nat} {xs : Nat → Int32} : lawF n xs 743 = f_loadR 0 1 := rfl
set_option maxRecDepth 8000 in
theorem e_law_744 {n : Nat} {xs : Nat → Int32} : lawF n xs 744 = f_loadI 3 1 := rfl
set_option maxRecDepth 8000 in
theorem e_law_745 {n : Nat} {xs : Nat → Int32} : lawF n xs 745 = f_push 3 1 := rfl
set_option maxRecDepth 8000 in
theorem e_law_746 {n : Nat} {xs : Nat → Int32} : lawF n xs 746 = f_add := rfl
set_option maxRecDepth 8000 in
theorem e_law_747 {n : Nat} {xs : Nat → Int32} : lawF n xs 747 = f_sld n xs := rfl
set_option maxRecDepth 8000 in
theorem e_law_748 {n : Nat} {xs : Nat → Int32} : lawF n xs 748 = f_loadR 0 1 := rfl
set_option maxRecDepth 8000 in
theorem e_law_749 {n : Nat} {xs : Nat → Int32} : lawF n xs 749 = f_loadI 3 1 := rfl
set_option maxRecDepth 8000 in
theorem e_law_750 {n : Nat} {xs : Nat → Int32} : lawF n xs 750 = f_push 4 1 := rfl
set_option maxRecDepth 8000 in
theorem e_law_751 {n : Nat} {xs : Nat → Int32} : lawF n xs 751 = f_add := rfl
set_option maxRecDepth 8000 in
theorem e_law_752 {n : Nat} {xs : Nat → Int32} : lawF n xs 752 = f_sld n xs := rfl
set_option maxRecDepth 8000 in
theorem e_law_753 {n : Nat} {xs : Nat → Int32} : lawF n xs 753 = f_loadR 0 1 := rfl
set_option maxRecDepth 8000 in
theorem e_law_754 {n : Nat} {xs : Nat → Int32} : lawF n xs 754 = f_loadI 3 1 := rfl
set_option maxRecDepth 8000 in
theorem e_law_755 {n : Nat} {xs : Nat → Int32} : lawF n xs 755 = f_push 5 1 := rfl
set_option maxRecDepth 8000 in
theorem e_law_756 {n : Nat} {xs : Nat → Int32} : lawF n xs 756 = f_add := rfl
set_option maxRecDepth 8000 in
theorem e_law_757 {n : Nat} {xs : Nat → Int32} : lawF n xs 757 = f_sld n xs := rfl
set_option maxRecDepth 8000 in
theorem e_law_758 {n : Nat} {xs : Nat → Int32} : lawF n xs 758 = f_callV 5 115 5 := rfl
set_option maxRecDepth 8000 in
theorem e_law_761 {n : Nat} {xs : Nat → Int32} : lawF n xs 761 = f_eq 928 := rfl
set_option maxRecDepth 8000 in
theorem e_law_764 {n : Nat} {xs : Nat → Int32} : lawF n xs 764 = f_push 0 1 := rfl
set_option maxRecDepth 8000 in
theorem e_law_765 {n : Nat} {xs : Nat → Int32} : lawF n xs 765 = f_no := rfl
set_option maxRecDepth 8000 in
theorem e_law_766 {n : Nat} {xs : Nat → Int32} : lawF n xs 766 = f_loadR 1 1 := rfl
set_option maxRecDepth 8000 in
theorem e_law_767 {n : Nat} {xs : Nat → Int32} : lawF n xs 767 = f_loadR 0 1 := rfl
set_option maxRecDepth 8000 in
theorem e_law_768 {n : Nat} {xs : Nat → Int32} : lawF n xs 768 = f_loadI 3 1 := rfl
set_option maxRecDepth 8000 in
theorem e_law_769 {n : Nat} {xs : Nat → Int32} : lawF n xs 769 = f_push 1 1 := rfl
set_option maxRecDepth 8000 in
theorem e_law_770 {n : Nat} {xs : Nat → Int32} : lawF n xs 770 = f_add := rfl
set_option maxRecDepth 8000 in
theorem e_law_771 {n : Nat} {xs : Nat → Int32} : lawF n xs 771 = f_sld n xs := rfl
set_option maxRecDepth 8000 in
theorem e_law_772 {n : Nat} {xs : Nat → Int32} : lawF n xs 772 = f_loadR 0 1 := rfl
set_option maxRecDepth 8000 in
theorem e_law_773 {n : Nat} {xs : Nat → Int32} : lawF n xs 773 = f_loadI 3 1 := rfl
set_option maxRecDepth 8000 in
theorem e_law_774 {n : Nat} {xs : Nat → Int32} : lawF n xs 774 = f_push 2 1 := rfl
set_option maxRecDepth 8000 in
theorem e_law_775 {n : Nat} {xs : Nat → Int32} : lawF n xs 775 = f_add := rfl
set_option maxRecDepth 8000 in
theorem e_law_776 {n : Nat} {xs : Nat → Int32} : lawF n xs 776 = f_sld n xs := rfl
set_option maxRecDepth 8000 in
theorem e_law_777 {n : Nat} {xs : Nat → Int32} : lawF n xs 777 = f_loadR 0 1 := rfl
set_option maxRecDepth 8000 in
theorem e_law_778 {n : Nat} {xs : Nat → Int32} : lawF n xs 778 = f_loadI 3 1 := rfl
set_option maxRecDepth 8000 in
theorem e_law_779 {n : Nat} {xs : Nat → Int32} : lawF n xs 779 = f_push 3 1 := rfl
set_option maxRecDepth 8000 in
theorem e_law_780 {n : Nat} {xs : Nat → Int32} : lawF n xs 780 = f_add := rfl
set_option maxRecDepth 8000 in
theorem e_law_781 {n : Nat} {xs : Nat → Int32} : lawF n xs 781 = f_sld n xs := rfl
set_option maxRecDepth 8000 in
theorem e_law_782 {n : Nat} {xs : Nat → Int32} : lawF n xs 782 = f_loadR 0 1 := rfl
set_option maxRecDepth 8000 in
theorem e_law_783 {n : Nat} {xs : Nat → Int32} : lawF n xs 783 = f_loadI 3 1 := rfl
set_option maxRecDepth 8000 in
theorem e_law_784 {n : Nat} {xs : Nat → Int32} : lawF n xs 784 = f_push 4 1 := rfl
set_option maxRecDepth 8000 in
theorem e_law_785 {n : Nat} {xs : Nat → Int32} : lawF n xs 785 = f_add := rfl
set_option maxRecDepth 8000 in
theorem e_law_786 {n : Nat} {xs : Nat → Int32} : lawF n xs 786 = f_sld n xs := rfl
set_option maxRecDepth 8000 in
theorem e_law_787 {n : Nat} {xs : Nat → Int32} : lawF n xs 787 = f_loadR 0 1 := rfl
set_option maxRecDepth 8000 in
theorem e_law_788 {n : Nat} {xs : Nat → Int32} : lawF n xs 788 = f_loadI 3 1 := rfl
set_option maxRecDepth 8000 in
theorem e_law_789 {n : Nat} {xs : Nat → Int32} : lawF n xs 789 = f_push 5 1 := rfl
set_option maxRecDepth 8000 in
theorem e_law_790 {n : Nat} {xs : Nat → Int32} : lawF n xs 790 = f_add := rfl
set_option maxRecDepth 8000 in
theorem e_law_791 {n : Nat} {xs : Nat → Int32} : lawF n xs 791 = f_sld n xs := rfl
set_option maxRecDepth 8000 in
theorem e_law_792 {n : Nat} {xs : Nat → Int32} : lawF n xs 792 = f_callV 4 56 5 := rfl
set_option maxRecDepth 8000 in
theorem e_law_795 {n : Nat} {xs : Nat → Int32} : lawF n xs 795 = f_loadR 2 1 := rfl
set_option maxRecDepth 8000 in
theorem e_law_796 {n : Nat} {xs : Nat → Int32} : lawF n xs 796 = f_loadR 0 1 := rfl
set_option maxRecDepth 8000 in
theorem e_law_797 {n : Nat} {xs : Nat → Int32} : lawF n xs 797 = f_loadI 3 1 := rfl
set_option maxRecDepth 8000 in
theorem e_law_798 {n : Nat} {xs : Nat → Int32} : lawF n xs 798 = f_push 1 1 := rfl
set_option maxRecDepth 8000 in
theorem e_law_799 {n : Nat} {xs : Nat → Int32} : lawF n xs 799 = f_add := rfl
set_option maxRecDepth 8000 in
theorem e_law_800 {n : Nat} {xs : Nat → Int32} : lawF n xs 800 = f_sld n xs := rfl
set_option maxRecDepth 8000 in
theorem e_law_801 {n : Nat} {xs : Nat → Int32} : lawF n xs 801 = f_loadR 0 1 := rfl
set_option maxRecDepth 8000 in
theorem e_law_802 {n : Nat} {xs : Nat → Int32} : lawF n xs 802 = f_loadI 3 1 := rfl
set_option maxRecDepth 8000 in
theorem e_law_803 {n : Nat} {xs : Nat → Int32} : lawF n xs 803 = f_push 2 1 := rfl
set_option maxRecDepth 8000 in
theorem e_law_804 {n : Nat} {xs : Nat → Int32} : lawF n xs 804 = f_add := rfl
set_option maxRecDepth 8000 in
theorem e_law_805 {n : Nat} {xs : Nat → Int32} : lawF n xs 805 = f_sld n xs := rfl
set_option maxRecDepth 8000 in
theorem e_law_806 {n : Nat} {xs : Nat → Int32} : lawF n xs 806 = f_loadR 0 1 := rfl
set_option maxRecDepth 8000 in
theorem e_law_807 {n : Nat} {xs : Nat → Int32} : lawF n xs 807 = f_loadI 3 1 := rfl
set_option maxRecDepth 8000 in
theorem e_law_808 {n : Nat} {xs : Nat → Int32} : lawF n xs 808 = f_push 3 1 := rfl
set_option maxRecDepth 8000 in
theorem e_law_809 {n : Nat} {xs : Nat → Int32} : lawF n xs 809 = f_add := rfl
set_option maxRecDepth 8000 in
theorem e_law_810 {n : Nat} {xs : Nat → Int32} : lawF n xs 810 = f_sld n xs := rfl
set_option maxRecDepth 8000 in
theorem e_law_811 {n : Nat} {xs : Nat → Int32} : lawF n xs 811 = f_loadR 0 1 := rfl
set_option maxRecDepth 8000 in
theorem e_law_812 {n : Nat} {xs : Nat → Int32} : lawF n xs 812 = f_loadI 3 1 := rfl
set_option maxRecDepth 8000 in
theorem e_law_813 {n : Nat} {xs : Nat → Int32} : lawF n xs 813 = f_push 4 1 := rfl
set_option maxRecDepth 8000 in
theorem e_law_814 {n : Nat} {xs : Nat → Int32} : lawF n xs 814 = f_add := rfl
set_option maxRecDepth 8000 in
theorem e_law_815 {n : Nat} {xs : Nat → Int32} : lawF n xs 815 = f_sld n xs := rfl
set_option maxRecDepth 8000 in
theorem e_law_816 {n : Nat} {xs : Nat → Int32} : lawF n xs 816 = f_loadR 0 1 := rfl
set_option maxRecDepth 8000 in
theorem e_law_817 {n : Nat} {xs : Nat → Int32} : lawF n xs 817 = f_loadI 3 1 := rfl
set_option maxRecDepth 8000 in
theorem e_law_818 {n : Nat} {xs : Nat → Int32} : lawF n xs 818 = f_push 5 1 := rfl
set_option maxRecDepth 8000 in
theorem e_law_819 {n : Nat} {xs : Nat → Int32} : lawF n xs 819 = f_add := rfl
set_option maxRecDepth 8000 in
theorem e_law_820 {n : Nat} {xs : Nat → Int32} : lawF n xs 820 = f_sld n xs := rfl
set_option maxRecDepth 8000 in
theorem e_law_821 {n : Nat} {xs : Nat → Int32} : lawF n xs 821 = f_callV 5 116 5 := rfl
set_option maxRecDepth 8000 in
theorem e_law_824 {n : Nat} {xs : Nat → Int32} : lawF n xs 824 = f_eq 928 := rfl
set_option maxRecDepth 8000 in
theorem e_law_827 {n : Nat} {xs : Nat → Int32} : lawF n xs 827 = f_push 0 1 := rfl
set_option maxRecDepth 8000 in
theorem e_law_828 {n : Nat} {xs : Nat → Int32} : lawF n xs 828 = f_no := rfl
set_option maxRecDepth 8000 in
theorem e_law_829 {n : Nat} {xs : Nat → Int32} : lawF n xs 829 = f_loadR 1 1 := rfl
set_option maxRecDepth 8000 in
theorem e_law_830 {n : Nat} {xs : Nat → Int32} : lawF n xs 830 = f_loadR 0 1 := rfl
set_option maxRecDepth 8000 in
theorem e_law_831 {n : Nat} {xs : Nat → Int32} : lawF n xs 831 = f_loadI 3 1 := rfl
set_option maxRecDepth 8000 in
theorem e_law_832 {n : Nat} {xs : Nat → Int32} : lawF n xs 832 = f_push 1 1 := rfl
set_option maxRecDepth 8000 in
theorem e_law_833 {n : Nat} {xs : Nat → Int32} : lawF n xs 833 = f_add := rfl
set_option maxRecDepth 8000 in
theorem e_law_834 {n : Nat} {xs : Nat → Int32} : lawF n xs 834 = f_sld n xs := rfl
set_option maxRecDepth 8000 in
theorem e_law_835 {n : Nat} {xs : Nat → Int32} : lawF n xs 835 = f_loadR 0 1 := rfl
set_option maxRecDepth 8000 in
theorem e_law_836 {n : Nat} {xs : Nat → Int32} : lawF n xs 836 = f_loadI 3 1 := rfl
set_option maxRecDepth 8000 in
theorem e_law_837 {n : Nat} {xs : Nat → Int32} : lawF n xs 837 = f_push 2 1 := rfl
set_option maxRecDepth 8000 in
theorem e_law_838 {n : Nat} {xs : Nat → Int32} : lawF n xs 838 = f_add := rfl
set_option maxRecDepth 8000 in
theorem e_law_839 {n : Nat} {xs : Nat → Int32} : lawF n xs 839 = f_sld n xs := rfl
set_option maxRecDepth 8000 in
theorem e_law_840 {n : Nat} {xs : Nat → Int32} : lawF n xs 840 = f_loadR 0 1 := rfl
set_option maxRecDepth 8000 in
theorem e_law_841 {n : Nat} {xs : Nat → Int32} : lawF n xs 841 = f_loadI 3 1 := rfl
set_option maxRecDepth 8000 in
theorem e_law_842 {n : Nat} {xs : Nat → Int32} : lawF n xs 842 = f_push 3 1 := rfl
set_option maxRecDepth 8000 in
theorem e_law_843 {n : Nat} {xs : Nat → Int32} : lawF n xs 843 = f_add := rfl
set_option maxRecDepth 8000 in
theorem e_law_844 {n : Nat} {xs : Nat → Int32} : lawF n xs 844 = f_sld n xs := rfl
set_option maxRecDepth 8000 in
theorem e_law_845 {n : Nat} {xs : Nat → Int32} : lawF n xs 845 = f_callV 4 57 3 := rfl
set_option maxRecDepth 8000 in
theorem e_law_848 {n : Nat} {xs : Nat → Int32} : lawF n xs 848 = f_loadR 2 1 := rfl
set_option maxRecDepth 8000 in
theorem e_law_849 {n : Nat} {xs : Nat → Int32} : lawF n xs 849 = f_loadR 0 1 := rfl
set_option maxRecDepth 8000 in
theorem e_law_850 {n : Nat} {xs : Nat → Int32} : lawF n xs 850 = f_loadI 3 1 := rfl
set_option maxRecDepth 8000 in
theorem e_law_851 {n : Nat} {xs : Nat → Int32} : lawF n xs 851 = f_push 1 1 := rfl
set_option maxRecDepth 8000 in
theorem e_law_852 {n : Nat} {xs : Nat → Int32} : lawF n xs 852 = f_add := rfl
set_option maxRecDepth 8000 in
theorem e_law_853 {n : Nat} {xs : Nat → Int32} : lawF n xs 853 = f_sld n xs := rfl
set_option maxRecDepth 8000 in
theorem e_law_854 {n : Nat} {xs : Nat → Int32} : lawF n xs 854 = f_loadR 0 1 := rfl
set_option maxRecDepth 8000 in
theorem e_law_855 {n : Nat} {xs : Nat → Int32} : lawF n xs 855 = f_loadI 3 1 := rfl
set_option maxRecDepth 8000 in
theorem e_law_856 {n : Nat} {xs : Nat → Int32} : lawF n xs 856 = f_push 2 1 := rfl
set_option maxRecDepth 8000 in
theorem e_law_857 {n : Nat} {xs : Nat → Int32} : lawF n xs 857 = f_add := rfl
set_option maxRecDepth 8000 in
theorem e_law_858 {n : Nat} {xs : Nat → Int32} : lawF n xs 858 = f_sld n xs := rfl
set_option maxRecDepth 8000 in
theorem e_law_859 {n : Nat} {xs : Nat → Int32} : lawF n xs 859 = f_loadR 0 1 := rfl
set_option maxRecDepth 8000 in
theorem e_law_860 {n : Nat} {xs : Nat → Int32} : lawF n xs 860 = f_loadI 3 1 := rfl
set_option maxRecDepth 8000 in
theorem e_law_861 {n : Nat} {xs : Nat → Int32} : lawF n xs 861 = f_push 3 1 := rfl
set_option maxRecDepth 8000 in
theorem e_law_862 {n : Nat} {xs : Nat → Int32} : lawF n xs 862 = f_add := rfl
set_option maxRecDepth 8000 in
theorem e_law_863 {n : Nat} {xs : Nat → Int32} : lawF n xs 863 = f_sld n xs := rfl
set_option maxRecDepth 8000 in
theorem e_law_864 {n : Nat} {xs : Nat → Int32} : lawF n xs 864 = f_callV 5 117 3 := rfl
set_option maxRecDepth 8000 in
theorem e_law_867 {n : Nat} {xs : Nat → Int32} : lawF n xs 867 = f_eq 928 := rfl
set_option maxRecDepth 8000 in
theorem e_law_870 {n : Nat} {xs : Nat → Int32} : lawF n xs 870 = f_push 0 1 := rfl
set_option maxRecDepth 8000 in
theorem e_law_871 {n : Nat} {xs : Nat → Int32} : lawF n xs 871 = f_no := rfl
set_option maxRecDepth 8000 in
theorem e_law_872 {n : Nat} {xs : Nat → Int32} : lawF n xs 872 = f_loadR 1 1 := rfl
set_option maxRecDepth 8000 in
theorem e_law_873 {n : Nat} {xs : Nat → Int32} : lawF n xs 873 = f_loadR 0 1 := rfl
set_option maxRecDepth 8000 in
theorem e_law_874 {n : Nat} {xs : Nat → Int32} : lawF n xs 874 = f_loadI 3 1 := rfl
set_option maxRecDepth 8000 in
theorem e_law_875 {n : Nat} {xs : Nat → Int32} : lawF n xs 875 = f_push 1 1 := rfl
set_option maxRecDepth 8000 in
theorem e_law_876 {n : Nat} {xs : Nat → Int32} : lawF n xs 876 = f_add := rfl
set_option maxRecDepth 8000 in
theorem e_law_877 {n : Nat} {xs : Nat → Int32} : lawF n xs 877 = f_sld n xs := rfl
set_option maxRecDepth 8000 in
theorem e_law_878 {n : Nat} {xs : Nat → Int32} : lawF n xs 878 = f_loadR 0 1 := rfl
set_option maxRecDepth 8000 in
theorem e_law_879 {n : Nat} {xs : Nat → Int32} : lawF n xs 879 = f_loadI 3 1 := rfl
set_option maxRecDepth 8000 in
theorem e_law_880 {n : Nat} {xs : Nat → Int32} : lawF n xs 880 = f_push 2 1 := rfl
set_option maxRecDepth 8000 in
theorem e_law_881 {n : Nat} {xs : Nat → Int32} : lawF n xs 881 = f_add := rfl
set_option maxRecDepth 8000 in
theorem e_law_882 {n : Nat} {xs : Nat → Int32} : lawF n xs 882 = f_sld n xs := rfl
set_option maxRecDepth 8000 in
theorem e_law_883 {n : Nat} {xs : Nat → Int32} : lawF n xs 883 = f_callV 4 58 2 := rfl
set_option maxRecDepth 8000 in
theorem e_law_886 {n : Nat} {xs : Nat → Int32} : lawF n xs 886 = f_loadR 2 1 := rfl
set_option maxRecDepth 8000 in
theorem e_law_887 {n : Nat} {xs : Nat → Int32} : lawF n xs 887 = f_loadR 0 1 := rfl
set_option maxRecDepth 8000 in
theorem e_law_888 {n : Nat} {xs : Nat → Int32} : lawF n xs 888 = f_loadI 3 1 := rfl
set_option maxRecDepth 8000 in
theorem e_law_889 {n : Nat} {xs : Nat → Int32} : lawF n xs 889 = f_push 1 1 := rfl
set_option maxRecDepth 8000 in
theorem e_law_890 {n : Nat} {xs : Nat → Int32} : lawF n xs 890 = f_add := rfl
set_option maxRecDepth 8000 in
theorem e_law_891 {n : Nat} {xs : Nat → Int32} : lawF n xs 891 = f_sld n xs := rfl
set_option maxRecDepth 8000 in
theorem e_law_892 {n : Nat} {xs : Nat → Int32} : lawF n xs 892 = f_loadR 0 1 := rfl
set_option maxRecDepth 8000 in
theorem e_law_893 {n : Nat} {xs : Nat → Int32} : lawF n xs 893 = f_loadI 3 1 := rfl
set_option maxRecDepth 8000 in
theorem e_law_894 {n : Nat} {xs : Nat → Int32} : lawF n xs 894 = f_push 2 1 := rfl
set_option maxRecDepth 8000 in
theorem e_law_895 {n : Nat} {xs : Nat → Int32} : lawF n xs 895 = f_add := rfl
set_option maxRecDepth 8000 in
theorem e_law_896 {n : Nat} {xs : Nat → Int32} : lawF n xs 896 = f_sld n xs := rfl
set_option maxRecDepth 8000 in
theorem e_law_897 {n : Nat} {xs : Nat → Int32} : lawF n xs 897 = f_callV 5 83 2 := rfl
set_option maxRecDepth 8000 in
theorem e_law_900 {n : Nat} {xs : Nat → Int32} : lawF n xs 900 = f_eq 928 := rfl
set_option maxRecDepth 8000 in
theorem e_law_903 {n : Nat} {xs : Nat → Int32} : lawF n xs 903 = f_push 0 1 := rfl
set_option maxRecDepth 8000 in
theorem e_law_904 {n : Nat} {xs : Nat → Int32} : lawF n xs 904 = f_no := rfl
set_option maxRecDepth 8000 in
theorem e_law_905 {n : Nat} {xs : Nat → Int32} : lawF n xs 905 = f_loadR 1 1 := rfl
set_option maxRecDepth 8000 in
theorem e_law_906 {n : Nat} {xs : Nat → Int32} : lawF n xs 906 = f_loadR 0 1 := rfl
set_option maxRecDepth 8000 in
theorem e_law_907 {n : Nat} {xs : Nat → Int32} : lawF n xs 907 = f_loadI 3 1 := rfl
set_option maxRecDepth 8000 in
theorem e_law_908 {n : Nat} {xs : Nat → Int32} : lawF n xs 908 = f_push 1 1 := rfl
set_option maxRecDepth 8000 in
theorem e_law_909 {n : Nat} {xs : Nat → Int32} : lawF n xs 909 = f_add := rfl
set_option maxRecDepth 8000 in
theorem e_law_910 {n : Nat} {xs : Nat → Int32} : lawF n xs 910 = f_sld n xs := rfl
set_option maxRecDepth 8000 in
theorem e_law_911 {n : Nat} {xs : Nat → Int32} : lawF n xs 911 = f_callV 4 59 1 := rfl
set_option maxRecDepth 8000 in
theorem e_law_914 {n : Nat} {xs : Nat → Int32} : lawF n xs 914 = f_loadR 2 1 := rfl
set_option maxRecDepth 8000 in
theorem e_law_915 {n : Nat} {xs : Nat → Int32} : lawF n xs 915 = f_loadR 0 1 := rfl
set_option maxRecDepth 8000 in
theorem e_law_916 {n : Nat} {xs : Nat → Int32} : lawF n xs 916 = f_loadI 3 1 := rfl
set_option maxRecDepth 8000 in
theorem e_law_917 {n : Nat} {xs : Nat → Int32} : lawF n xs 917 = f_push 1 1 := rfl
set_option maxRecDepth 8000 in
theorem e_law_918 {n : Nat} {xs : Nat → Int32} : lawF n xs 918 = f_add := rfl
set_option maxRecDepth 8000 in
theorem e_law_919 {n : Nat} {xs : Nat → Int32} : lawF n xs 919 = f_sld n xs := rfl
set_option maxRecDepth 8000 in
theorem e_law_920 {n : Nat} {xs : Nat → Int32} : lawF n xs 920 = f_callV 5 118 1 := rfl
set_option maxRecDepth 8000 in
theorem e_law_923 {n : Nat} {xs : Nat → Int32} : lawF n xs 923 = f_eq 928 := rfl
set_option maxRecDepth 8000 in
theorem e_law_926 {n : Nat} {xs : Nat → Int32} : lawF n xs 926 = f_push 0 1 := rfl
set_option maxRecDepth 8000 in
theorem e_law_927 {n : Nat} {xs : Nat → Int32} : lawF n xs 927 = f_no := rfl
set_option maxRecDepth 8000 in
theorem e_law_928 {n : Nat} {xs : Nat → Int32} : lawF n xs 928 = f_iinc 3 7 := rfl
set_option maxRecDepth 8000 in
theorem e_law_931 {n : Nat} {xs : Nat → Int32} : lawF n xs 931 = f_goto 18 := rfl
set_option maxRecDepth 8000 in
theorem e_law_934 {n : Nat} {xs : Nat → Int32} : lawF n xs 934 = f_push 1 1 := rfl
set_option maxRecDepth 8000 in
theorem e_law_935 {n : Nat} {xs : Nat → Int32} : lawF n xs 935 = f_lwr := rfl

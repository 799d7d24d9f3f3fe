/-! the small machine stands for the machine, method by method (printed by wip/gen/gen.py) -/
def mTab : Nat → List (Nat × tF) := fun k => match k with
  | 0 => k_X0_forget
  | 1 => k_X0_add
  | 2 => k_X0_isFull
  | 3 => k_X0_holds
  | 4 => k_X0_size
  | 5 => k_X0_patternAt
  | 6 => k_X0_rowsThenAt
  | 7 => k_X1_lay
  | 8 => k_X1_climb
  | 9 => k_X1_is
  | 10 => k_X1_liesJustUnder
  | 11 => k_X2_takeUp
  | 12 => k_X2_isIn
  | 13 => k_X2_lastEnd
  | 14 => k_X2_kindsBehind
  | 15 => k_X2_loseChains
  | 16 => k_X2_endsMatch
  | 17 => k_X2_canFollow
  | 18 => k_X2_matchesIn
  | 19 => k_X2_placeInFirst
  | 20 => k_X2_goToFirstMatch
  | 21 => k_X2_goToNextMatch
  | 22 => k_X2_nextPlace
  | 23 => k_X2_canStandAt
  | 24 => k_X3_of
  | 25 => k_X3_isKindOrNone
  | 26 => k_X3_lengthen
  | 27 => k_X3_length
  | 28 => k_X3_item
  | 29 => k_X3_lastItem
  | 30 => k_X3_withoutLast
  | 31 => k_X3_insert
  | 32 => k_X3_replace
  | 33 => k_X4_begin
  | 34 => k_X4_append
  | 35 => k_X4_size
  | 36 => k_X4_tickAt
  | 37 => k_X4_kindAt
  | 38 => k_X4_bitsAt
  | 39 => k_X4_howMany
  | 40 => k_X5_under
  | 41 => k_X5_row
  | 42 => k_X5_put
  | 43 => k_X5_take
  | 44 => k_X5_gap
  | 45 => k_X5_span
  | 46 => k_X5_count
  | 47 => k_X5_matches
  | 48 => k_X5_match
  | 49 => k_X5_find
  | 50 => k_X5_found
  | 51 => k_X5_closed
  | 52 => k_X5_best
  | 53 => k_X5_expected
  | 54 => k_X5_share
  | 55 => k_X5_lacking
  | 56 => k_X5_sure
  | 57 => k_X5_look
  | 58 => k_X5_isUnder
  | 59 => k_X5_tell
  | 60 => k_X5_isKind
  | 61 => k_X5_isTick
  | 62 => k_X5_isAmong
  | 63 => k_X5_isRow
  | 64 => k_X5_lookAtRow
  | 65 => k_X5_happeningsInAll
  | 66 => k_X5_rowsInOf
  | 67 => k_X5_rowsIn
  | 68 => k_X5_rowsWith
  | 69 => k_X5_countOf
  | 70 => k_X5_rowsLacking
  | 71 => k_X5_gatherRowsBehind
  | 72 => k_X5_findLonger
  | 73 => k_X5_longerSays
  | 74 => k_X5_narrowerSays
  | 75 => k_X5_howFarApart
  | 76 => k_X5_chanceAhead
  | 77 => k_X5_waysToChoose
  | 78 => k_X6_lies
  | 79 => k_X6_isKind
  | 80 => k_X6_isRow
  | 81 => k_X6_isOf
  | 82 => k_X6_under
  | 83 => k_X6_isUnder
  | 84 => k_X6_row
  | 85 => k_X6_put
  | 86 => k_X6_take
  | 87 => k_X6_gap
  | 88 => k_X6_span
  | 89 => k_X6_takes
  | 90 => k_X6_isAt
  | 91 => k_X6_leads
  | 92 => k_X6_spans
  | 93 => k_X6_maps
  | 94 => k_X6_mapsAll
  | 95 => k_X6_ends
  | 96 => k_X6_has
  | 97 => k_X6_countOf
  | 98 => k_X6_count
  | 99 => k_X6_next
  | 100 => k_X6_matches
  | 101 => k_X6_match
  | 102 => k_X6_isThere
  | 103 => k_X6_keeps
  | 104 => k_X6_find
  | 105 => k_X6_found
  | 106 => k_X6_takesFound
  | 107 => k_X6_closed
  | 108 => k_X6_inHeap
  | 109 => k_X6_best
  | 110 => k_X6_those
  | 111 => k_X6_ways
  | 112 => k_X6_expected
  | 113 => k_X6_share
  | 114 => k_X6_isLacking
  | 115 => k_X6_lacking
  | 116 => k_X6_sure
  | 117 => k_X6_look
  | 118 => k_X6_tell
  | 119 => k_J6_bitCount_0f7a4
  | _ => []
def Snd (C : tC) : Prop := CMono C ∧ ∀ d k as M Q, k < 120 → Runs C (tabF (mTab k)) d Q 0 (ent as (mT k).2.2.1) [] M → C d k as M Q
theorem so_X0_forget {l : Launch} {L : Nat → Nat} {D : va_G} {cI cZ cR : ClassId} {d : Nat} {as : List tV} {M : tM} {Q : tQ} (h : Runs (sC l L D cI cZ cR) (tabF k_X0_forget) d Q 0 (ent as 1) [] M) : sC l L D cI cZ cR d 0 as M Q := sC.of (tab := k_X0_forget) rfl (by decide +kernel) (fun F hr hlk => rr_X0_forget F hr hlk) h
theorem so_X0_add {l : Launch} {L : Nat → Nat} {D : va_G} {cI cZ cR : ClassId} {d : Nat} {as : List tV} {M : tM} {Q : tQ} (h : Runs (sC l L D cI cZ cR) (tabF k_X0_add) d Q 0 (ent as 3) [] M) : sC l L D cI cZ cR d 1 as M Q := sC.of (tab := k_X0_add) rfl (by decide +kernel) (fun F hr hlk => rr_X0_add F hr hlk) h
theorem so_X0_isFull {l : Launch} {L : Nat → Nat} {D : va_G} {cI cZ cR : ClassId} {d : Nat} {as : List tV} {M : tM} {Q : tQ} (h : Runs (sC l L D cI cZ cR) (tabF k_X0_isFull) d Q 0 (ent as 1) [] M) : sC l L D cI cZ cR d 2 as M Q := sC.of (tab := k_X0_isFull) rfl (by decide +kernel) (fun F hr hlk => rr_X0_isFull F hr hlk) h
theorem so_X0_holds {l : Launch} {L : Nat → Nat} {D : va_G} {cI cZ cR : ClassId} {d : Nat} {as : List tV} {M : tM} {Q : tQ} (h : Runs (sC l L D cI cZ cR) (tabF k_X0_holds) d Q 0 (ent as 2) [] M) : sC l L D cI cZ cR d 3 as M Q := sC.of (tab := k_X0_holds) rfl (by decide +kernel) (fun F hr hlk => rr_X0_holds F hr hlk) h
theorem so_X0_size {l : Launch} {L : Nat → Nat} {D : va_G} {cI cZ cR : ClassId} {d : Nat} {as : List tV} {M : tM} {Q : tQ} (h : Runs (sC l L D cI cZ cR) (tabF k_X0_size) d Q 0 (ent as 1) [] M) : sC l L D cI cZ cR d 4 as M Q := sC.of (tab := k_X0_size) rfl (by decide +kernel) (fun F hr hlk => rr_X0_size F hr hlk) h
theorem so_X0_patternAt {l : Launch} {L : Nat → Nat} {D : va_G} {cI cZ cR : ClassId} {d : Nat} {as : List tV} {M : tM} {Q : tQ} (h : Runs (sC l L D cI cZ cR) (tabF k_X0_patternAt) d Q 0 (ent as 2) [] M) : sC l L D cI cZ cR d 5 as M Q := sC.of (tab := k_X0_patternAt) rfl (by decide +kernel) (fun F hr hlk => rr_X0_patternAt F hr hlk) h
theorem so_X0_rowsThenAt {l : Launch} {L : Nat → Nat} {D : va_G} {cI cZ cR : ClassId} {d : Nat} {as : List tV} {M : tM} {Q : tQ} (h : Runs (sC l L D cI cZ cR) (tabF k_X0_rowsThenAt) d Q 0 (ent as 2) [] M) : sC l L D cI cZ cR d 6 as M Q := sC.of (tab := k_X0_rowsThenAt) rfl (by decide +kernel) (fun F hr hlk => rr_X0_rowsThenAt F hr hlk) h
theorem so_X1_lay {l : Launch} {L : Nat → Nat} {D : va_G} {cI cZ cR : ClassId} {d : Nat} {as : List tV} {M : tM} {Q : tQ} (h : Runs (sC l L D cI cZ cR) (tabF k_X1_lay) d Q 0 (ent as 4) [] M) : sC l L D cI cZ cR d 7 as M Q := sC.of (tab := k_X1_lay) rfl (by decide +kernel) (fun F hr hlk => rr_X1_lay F hr hlk) h
theorem so_X1_climb {l : Launch} {L : Nat → Nat} {D : va_G} {cI cZ cR : ClassId} {d : Nat} {as : List tV} {M : tM} {Q : tQ} (h : Runs (sC l L D cI cZ cR) (tabF k_X1_climb) d Q 0 (ent as 5) [] M) : sC l L D cI cZ cR d 8 as M Q := sC.of (tab := k_X1_climb) rfl (by decide +kernel) (fun F hr hlk => rr_X1_climb F hr hlk) h
theorem so_X1_is {l : Launch} {L : Nat → Nat} {D : va_G} {cI cZ cR : ClassId} {d : Nat} {as : List tV} {M : tM} {Q : tQ} (h : Runs (sC l L D cI cZ cR) (tabF k_X1_is) d Q 0 (ent as 3) [] M) : sC l L D cI cZ cR d 9 as M Q := sC.of (tab := k_X1_is) rfl (by decide +kernel) (fun F hr hlk => rr_X1_is F hr hlk) h
theorem so_X1_liesJustUnder {l : Launch} {L : Nat → Nat} {D : va_G} {cI cZ cR : ClassId} {d : Nat} {as : List tV} {M : tM} {Q : tQ} (h : Runs (sC l L D cI cZ cR) (tabF k_X1_liesJustUnder) d Q 0 (ent as 3) [] M) : sC l L D cI cZ cR d 10 as M Q := sC.of (tab := k_X1_liesJustUnder) rfl (by decide +kernel) (fun F hr hlk => rr_X1_liesJustUnder F hr hlk) h
theorem so_X2_takeUp {l : Launch} {L : Nat → Nat} {D : va_G} {cI cZ cR : ClassId} {d : Nat} {as : List tV} {M : tM} {Q : tQ} (h : Runs (sC l L D cI cZ cR) (tabF k_X2_takeUp) d Q 0 (ent as 6) [] M) : sC l L D cI cZ cR d 11 as M Q := sC.of (tab := k_X2_takeUp) rfl (by decide +kernel) (fun F hr hlk => rr_X2_takeUp F hr hlk) h
theorem so_X2_isIn {l : Launch} {L : Nat → Nat} {D : va_G} {cI cZ cR : ClassId} {d : Nat} {as : List tV} {M : tM} {Q : tQ} (h : Runs (sC l L D cI cZ cR) (tabF k_X2_isIn) d Q 0 (ent as 3) [] M) : sC l L D cI cZ cR d 12 as M Q := sC.of (tab := k_X2_isIn) rfl (by decide +kernel) (fun F hr hlk => rr_X2_isIn F hr hlk) h
theorem so_X2_lastEnd {l : Launch} {L : Nat → Nat} {D : va_G} {cI cZ cR : ClassId} {d : Nat} {as : List tV} {M : tM} {Q : tQ} (h : Runs (sC l L D cI cZ cR) (tabF k_X2_lastEnd) d Q 0 (ent as 4) [] M) : sC l L D cI cZ cR d 13 as M Q := sC.of (tab := k_X2_lastEnd) rfl (by decide +kernel) (fun F hr hlk => rr_X2_lastEnd F hr hlk) h
theorem so_X2_kindsBehind {l : Launch} {L : Nat → Nat} {D : va_G} {cI cZ cR : ClassId} {d : Nat} {as : List tV} {M : tM} {Q : tQ} (h : Runs (sC l L D cI cZ cR) (tabF k_X2_kindsBehind) d Q 0 (ent as 4) [] M) : sC l L D cI cZ cR d 14 as M Q := sC.of (tab := k_X2_kindsBehind) rfl (by decide +kernel) (fun F hr hlk => rr_X2_kindsBehind F hr hlk) h
theorem so_X2_loseChains {l : Launch} {L : Nat → Nat} {D : va_G} {cI cZ cR : ClassId} {d : Nat} {as : List tV} {M : tM} {Q : tQ} (h : Runs (sC l L D cI cZ cR) (tabF k_X2_loseChains) d Q 0 (ent as 2) [] M) : sC l L D cI cZ cR d 15 as M Q := sC.of (tab := k_X2_loseChains) rfl (by decide +kernel) (fun F hr hlk => rr_X2_loseChains F hr hlk) h
theorem so_X2_endsMatch {l : Launch} {L : Nat → Nat} {D : va_G} {cI cZ cR : ClassId} {d : Nat} {as : List tV} {M : tM} {Q : tQ} (h : Runs (sC l L D cI cZ cR) (tabF k_X2_endsMatch) d Q 0 (ent as 7) [] M) : sC l L D cI cZ cR d 16 as M Q := sC.of (tab := k_X2_endsMatch) rfl (by decide +kernel) (fun F hr hlk => rr_X2_endsMatch F hr hlk) h
theorem so_X2_canFollow {l : Launch} {L : Nat → Nat} {D : va_G} {cI cZ cR : ClassId} {d : Nat} {as : List tV} {M : tM} {Q : tQ} (h : Runs (sC l L D cI cZ cR) (tabF k_X2_canFollow) d Q 0 (ent as 4) [] M) : sC l L D cI cZ cR d 17 as M Q := sC.of (tab := k_X2_canFollow) rfl (by decide +kernel) (fun F hr hlk => rr_X2_canFollow F hr hlk) h
theorem so_X2_matchesIn {l : Launch} {L : Nat → Nat} {D : va_G} {cI cZ cR : ClassId} {d : Nat} {as : List tV} {M : tM} {Q : tQ} (h : Runs (sC l L D cI cZ cR) (tabF k_X2_matchesIn) d Q 0 (ent as 5) [] M) : sC l L D cI cZ cR d 18 as M Q := sC.of (tab := k_X2_matchesIn) rfl (by decide +kernel) (fun F hr hlk => rr_X2_matchesIn F hr hlk) h
theorem so_X2_placeInFirst {l : Launch} {L : Nat → Nat} {D : va_G} {cI cZ cR : ClassId} {d : Nat} {as : List tV} {M : tM} {Q : tQ} (h : Runs (sC l L D cI cZ cR) (tabF k_X2_placeInFirst) d Q 0 (ent as 3) [] M) : sC l L D cI cZ cR d 19 as M Q := sC.of (tab := k_X2_placeInFirst) rfl (by decide +kernel) (fun F hr hlk => rr_X2_placeInFirst F hr hlk) h
theorem so_X2_goToFirstMatch {l : Launch} {L : Nat → Nat} {D : va_G} {cI cZ cR : ClassId} {d : Nat} {as : List tV} {M : tM} {Q : tQ} (h : Runs (sC l L D cI cZ cR) (tabF k_X2_goToFirstMatch) d Q 0 (ent as 2) [] M) : sC l L D cI cZ cR d 20 as M Q := sC.of (tab := k_X2_goToFirstMatch) rfl (by decide +kernel) (fun F hr hlk => rr_X2_goToFirstMatch F hr hlk) h
theorem so_X2_goToNextMatch {l : Launch} {L : Nat → Nat} {D : va_G} {cI cZ cR : ClassId} {d : Nat} {as : List tV} {M : tM} {Q : tQ} (h : Runs (sC l L D cI cZ cR) (tabF k_X2_goToNextMatch) d Q 0 (ent as 5) [] M) : sC l L D cI cZ cR d 21 as M Q := sC.of (tab := k_X2_goToNextMatch) rfl (by decide +kernel) (fun F hr hlk => rr_X2_goToNextMatch F hr hlk) h
theorem so_X2_nextPlace {l : Launch} {L : Nat → Nat} {D : va_G} {cI cZ cR : ClassId} {d : Nat} {as : List tV} {M : tM} {Q : tQ} (h : Runs (sC l L D cI cZ cR) (tabF k_X2_nextPlace) d Q 0 (ent as 4) [] M) : sC l L D cI cZ cR d 22 as M Q := sC.of (tab := k_X2_nextPlace) rfl (by decide +kernel) (fun F hr hlk => rr_X2_nextPlace F hr hlk) h
theorem so_X2_canStandAt {l : Launch} {L : Nat → Nat} {D : va_G} {cI cZ cR : ClassId} {d : Nat} {as : List tV} {M : tM} {Q : tQ} (h : Runs (sC l L D cI cZ cR) (tabF k_X2_canStandAt) d Q 0 (ent as 5) [] M) : sC l L D cI cZ cR d 23 as M Q := sC.of (tab := k_X2_canStandAt) rfl (by decide +kernel) (fun F hr hlk => rr_X2_canStandAt F hr hlk) h
theorem so_X3_of {l : Launch} {L : Nat → Nat} {D : va_G} {cI cZ cR : ClassId} {d : Nat} {as : List tV} {M : tM} {Q : tQ} (h : Runs (sC l L D cI cZ cR) (tabF k_X3_of) d Q 0 (ent as 4) [] M) : sC l L D cI cZ cR d 24 as M Q := sC.of (tab := k_X3_of) rfl (by decide +kernel) (fun F hr hlk => rr_X3_of F hr hlk) h
theorem so_X3_isKindOrNone {l : Launch} {L : Nat → Nat} {D : va_G} {cI cZ cR : ClassId} {d : Nat} {as : List tV} {M : tM} {Q : tQ} (h : Runs (sC l L D cI cZ cR) (tabF k_X3_isKindOrNone) d Q 0 (ent as 1) [] M) : sC l L D cI cZ cR d 25 as M Q := sC.of (tab := k_X3_isKindOrNone) rfl (by decide +kernel) (fun F hr hlk => rr_X3_isKindOrNone F hr hlk) h
theorem so_X3_lengthen {l : Launch} {L : Nat → Nat} {D : va_G} {cI cZ cR : ClassId} {d : Nat} {as : List tV} {M : tM} {Q : tQ} (h : Runs (sC l L D cI cZ cR) (tabF k_X3_lengthen) d Q 0 (ent as 2) [] M) : sC l L D cI cZ cR d 26 as M Q := sC.of (tab := k_X3_lengthen) rfl (by decide +kernel) (fun F hr hlk => rr_X3_lengthen F hr hlk) h
theorem so_X3_length {l : Launch} {L : Nat → Nat} {D : va_G} {cI cZ cR : ClassId} {d : Nat} {as : List tV} {M : tM} {Q : tQ} (h : Runs (sC l L D cI cZ cR) (tabF k_X3_length) d Q 0 (ent as 2) [] M) : sC l L D cI cZ cR d 27 as M Q := sC.of (tab := k_X3_length) rfl (by decide +kernel) (fun F hr hlk => rr_X3_length F hr hlk) h
theorem so_X3_item {l : Launch} {L : Nat → Nat} {D : va_G} {cI cZ cR : ClassId} {d : Nat} {as : List tV} {M : tM} {Q : tQ} (h : Runs (sC l L D cI cZ cR) (tabF k_X3_item) d Q 0 (ent as 3) [] M) : sC l L D cI cZ cR d 28 as M Q := sC.of (tab := k_X3_item) rfl (by decide +kernel) (fun F hr hlk => rr_X3_item F hr hlk) h
theorem so_X3_lastItem {l : Launch} {L : Nat → Nat} {D : va_G} {cI cZ cR : ClassId} {d : Nat} {as : List tV} {M : tM} {Q : tQ} (h : Runs (sC l L D cI cZ cR) (tabF k_X3_lastItem) d Q 0 (ent as 1) [] M) : sC l L D cI cZ cR d 29 as M Q := sC.of (tab := k_X3_lastItem) rfl (by decide +kernel) (fun F hr hlk => rr_X3_lastItem F hr hlk) h
theorem so_X3_withoutLast {l : Launch} {L : Nat → Nat} {D : va_G} {cI cZ cR : ClassId} {d : Nat} {as : List tV} {M : tM} {Q : tQ} (h : Runs (sC l L D cI cZ cR) (tabF k_X3_withoutLast) d Q 0 (ent as 1) [] M) : sC l L D cI cZ cR d 30 as M Q := sC.of (tab := k_X3_withoutLast) rfl (by decide +kernel) (fun F hr hlk => rr_X3_withoutLast F hr hlk) h
theorem so_X3_insert {l : Launch} {L : Nat → Nat} {D : va_G} {cI cZ cR : ClassId} {d : Nat} {as : List tV} {M : tM} {Q : tQ} (h : Runs (sC l L D cI cZ cR) (tabF k_X3_insert) d Q 0 (ent as 5) [] M) : sC l L D cI cZ cR d 31 as M Q := sC.of (tab := k_X3_insert) rfl (by decide +kernel) (fun F hr hlk => rr_X3_insert F hr hlk) h
theorem so_X3_replace {l : Launch} {L : Nat → Nat} {D : va_G} {cI cZ cR : ClassId} {d : Nat} {as : List tV} {M : tM} {Q : tQ} (h : Runs (sC l L D cI cZ cR) (tabF k_X3_replace) d Q 0 (ent as 4) [] M) : sC l L D cI cZ cR d 32 as M Q := sC.of (tab := k_X3_replace) rfl (by decide +kernel) (fun F hr hlk => rr_X3_replace F hr hlk) h
theorem so_X4_begin {l : Launch} {L : Nat → Nat} {D : va_G} {cI cZ cR : ClassId} {d : Nat} {as : List tV} {M : tM} {Q : tQ} (h : Runs (sC l L D cI cZ cR) (tabF k_X4_begin) d Q 0 (ent as 2) [] M) : sC l L D cI cZ cR d 33 as M Q := sC.of (tab := k_X4_begin) rfl (by decide +kernel) (fun F hr hlk => rr_X4_begin F hr hlk) h
theorem so_X4_append {l : Launch} {L : Nat → Nat} {D : va_G} {cI cZ cR : ClassId} {d : Nat} {as : List tV} {M : tM} {Q : tQ} (h : Runs (sC l L D cI cZ cR) (tabF k_X4_append) d Q 0 (ent as 3) [] M) : sC l L D cI cZ cR d 34 as M Q := sC.of (tab := k_X4_append) rfl (by decide +kernel) (fun F hr hlk => rr_X4_append F hr hlk) h
theorem so_X4_size {l : Launch} {L : Nat → Nat} {D : va_G} {cI cZ cR : ClassId} {d : Nat} {as : List tV} {M : tM} {Q : tQ} (h : Runs (sC l L D cI cZ cR) (tabF k_X4_size) d Q 0 (ent as 1) [] M) : sC l L D cI cZ cR d 35 as M Q := sC.of (tab := k_X4_size) rfl (by decide +kernel) (fun F hr hlk => rr_X4_size F hr hlk) h
theorem so_X4_tickAt {l : Launch} {L : Nat → Nat} {D : va_G} {cI cZ cR : ClassId} {d : Nat} {as : List tV} {M : tM} {Q : tQ} (h : Runs (sC l L D cI cZ cR) (tabF k_X4_tickAt) d Q 0 (ent as 2) [] M) : sC l L D cI cZ cR d 36 as M Q := sC.of (tab := k_X4_tickAt) rfl (by decide +kernel) (fun F hr hlk => rr_X4_tickAt F hr hlk) h
theorem so_X4_kindAt {l : Launch} {L : Nat → Nat} {D : va_G} {cI cZ cR : ClassId} {d : Nat} {as : List tV} {M : tM} {Q : tQ} (h : Runs (sC l L D cI cZ cR) (tabF k_X4_kindAt) d Q 0 (ent as 2) [] M) : sC l L D cI cZ cR d 37 as M Q := sC.of (tab := k_X4_kindAt) rfl (by decide +kernel) (fun F hr hlk => rr_X4_kindAt F hr hlk) h
theorem so_X4_bitsAt {l : Launch} {L : Nat → Nat} {D : va_G} {cI cZ cR : ClassId} {d : Nat} {as : List tV} {M : tM} {Q : tQ} (h : Runs (sC l L D cI cZ cR) (tabF k_X4_bitsAt) d Q 0 (ent as 3) [] M) : sC l L D cI cZ cR d 38 as M Q := sC.of (tab := k_X4_bitsAt) rfl (by decide +kernel) (fun F hr hlk => rr_X4_bitsAt F hr hlk) h
theorem so_X4_howMany {l : Launch} {L : Nat → Nat} {D : va_G} {cI cZ cR : ClassId} {d : Nat} {as : List tV} {M : tM} {Q : tQ} (h : Runs (sC l L D cI cZ cR) (tabF k_X4_howMany) d Q 0 (ent as 5) [] M) : sC l L D cI cZ cR d 39 as M Q := sC.of (tab := k_X4_howMany) rfl (by decide +kernel) (fun F hr hlk => rr_X4_howMany F hr hlk) h
theorem so_X5_under {l : Launch} {L : Nat → Nat} {D : va_G} {cI cZ cR : ClassId} {d : Nat} {as : List tV} {M : tM} {Q : tQ} (h : Runs (sC l L D cI cZ cR) (tabF k_X5_under) d Q 0 (ent as 3) [] M) : sC l L D cI cZ cR d 40 as M Q := sC.of (tab := k_X5_under) rfl (by decide +kernel) (fun F hr hlk => rr_X5_under F hr hlk) h
theorem so_X5_row {l : Launch} {L : Nat → Nat} {D : va_G} {cI cZ cR : ClassId} {d : Nat} {as : List tV} {M : tM} {Q : tQ} (h : Runs (sC l L D cI cZ cR) (tabF k_X5_row) d Q 0 (ent as 2) [] M) : sC l L D cI cZ cR d 41 as M Q := sC.of (tab := k_X5_row) rfl (by decide +kernel) (fun F hr hlk => rr_X5_row F hr hlk) h
theorem so_X5_put {l : Launch} {L : Nat → Nat} {D : va_G} {cI cZ cR : ClassId} {d : Nat} {as : List tV} {M : tM} {Q : tQ} (h : Runs (sC l L D cI cZ cR) (tabF k_X5_put) d Q 0 (ent as 4) [] M) : sC l L D cI cZ cR d 42 as M Q := sC.of (tab := k_X5_put) rfl (by decide +kernel) (fun F hr hlk => rr_X5_put F hr hlk) h
theorem so_X5_take {l : Launch} {L : Nat → Nat} {D : va_G} {cI cZ cR : ClassId} {d : Nat} {as : List tV} {M : tM} {Q : tQ} (h : Runs (sC l L D cI cZ cR) (tabF k_X5_take) d Q 0 (ent as 3) [] M) : sC l L D cI cZ cR d 43 as M Q := sC.of (tab := k_X5_take) rfl (by decide +kernel) (fun F hr hlk => rr_X5_take F hr hlk) h
theorem so_X5_gap {l : Launch} {L : Nat → Nat} {D : va_G} {cI cZ cR : ClassId} {d : Nat} {as : List tV} {M : tM} {Q : tQ} (h : Runs (sC l L D cI cZ cR) (tabF k_X5_gap) d Q 0 (ent as 2) [] M) : sC l L D cI cZ cR d 44 as M Q := sC.of (tab := k_X5_gap) rfl (by decide +kernel) (fun F hr hlk => rr_X5_gap F hr hlk) h
theorem so_X5_span {l : Launch} {L : Nat → Nat} {D : va_G} {cI cZ cR : ClassId} {d : Nat} {as : List tV} {M : tM} {Q : tQ} (h : Runs (sC l L D cI cZ cR) (tabF k_X5_span) d Q 0 (ent as 2) [] M) : sC l L D cI cZ cR d 45 as M Q := sC.of (tab := k_X5_span) rfl (by decide +kernel) (fun F hr hlk => rr_X5_span F hr hlk) h
theorem so_X5_count {l : Launch} {L : Nat → Nat} {D : va_G} {cI cZ cR : ClassId} {d : Nat} {as : List tV} {M : tM} {Q : tQ} (h : Runs (sC l L D cI cZ cR) (tabF k_X5_count) d Q 0 (ent as 6) [] M) : sC l L D cI cZ cR d 46 as M Q := sC.of (tab := k_X5_count) rfl (by decide +kernel) (fun F hr hlk => rr_X5_count F hr hlk) h
theorem so_X5_matches {l : Launch} {L : Nat → Nat} {D : va_G} {cI cZ cR : ClassId} {d : Nat} {as : List tV} {M : tM} {Q : tQ} (h : Runs (sC l L D cI cZ cR) (tabF k_X5_matches) d Q 0 (ent as 7) [] M) : sC l L D cI cZ cR d 47 as M Q := sC.of (tab := k_X5_matches) rfl (by decide +kernel) (fun F hr hlk => rr_X5_matches F hr hlk) h
theorem so_X5_match {l : Launch} {L : Nat → Nat} {D : va_G} {cI cZ cR : ClassId} {d : Nat} {as : List tV} {M : tM} {Q : tQ} (h : Runs (sC l L D cI cZ cR) (tabF k_X5_match) d Q 0 (ent as 8) [] M) : sC l L D cI cZ cR d 48 as M Q := sC.of (tab := k_X5_match) rfl (by decide +kernel) (fun F hr hlk => rr_X5_match F hr hlk) h
theorem so_X5_find {l : Launch} {L : Nat → Nat} {D : va_G} {cI cZ cR : ClassId} {d : Nat} {as : List tV} {M : tM} {Q : tQ} (h : Runs (sC l L D cI cZ cR) (tabF k_X5_find) d Q 0 (ent as 4) [] M) : sC l L D cI cZ cR d 49 as M Q := sC.of (tab := k_X5_find) rfl (by decide +kernel) (fun F hr hlk => rr_X5_find F hr hlk) h
theorem so_X5_found {l : Launch} {L : Nat → Nat} {D : va_G} {cI cZ cR : ClassId} {d : Nat} {as : List tV} {M : tM} {Q : tQ} (h : Runs (sC l L D cI cZ cR) (tabF k_X5_found) d Q 0 (ent as 3) [] M) : sC l L D cI cZ cR d 50 as M Q := sC.of (tab := k_X5_found) rfl (by decide +kernel) (fun F hr hlk => rr_X5_found F hr hlk) h
theorem so_X5_closed {l : Launch} {L : Nat → Nat} {D : va_G} {cI cZ cR : ClassId} {d : Nat} {as : List tV} {M : tM} {Q : tQ} (h : Runs (sC l L D cI cZ cR) (tabF k_X5_closed) d Q 0 (ent as 4) [] M) : sC l L D cI cZ cR d 51 as M Q := sC.of (tab := k_X5_closed) rfl (by decide +kernel) (fun F hr hlk => rr_X5_closed F hr hlk) h
theorem so_X5_best {l : Launch} {L : Nat → Nat} {D : va_G} {cI cZ cR : ClassId} {d : Nat} {as : List tV} {M : tM} {Q : tQ} (h : Runs (sC l L D cI cZ cR) (tabF k_X5_best) d Q 0 (ent as 10) [] M) : sC l L D cI cZ cR d 52 as M Q := sC.of (tab := k_X5_best) rfl (by decide +kernel) (fun F hr hlk => rr_X5_best F hr hlk) h
theorem so_X5_expected {l : Launch} {L : Nat → Nat} {D : va_G} {cI cZ cR : ClassId} {d : Nat} {as : List tV} {M : tM} {Q : tQ} (h : Runs (sC l L D cI cZ cR) (tabF k_X5_expected) d Q 0 (ent as 6) [] M) : sC l L D cI cZ cR d 53 as M Q := sC.of (tab := k_X5_expected) rfl (by decide +kernel) (fun F hr hlk => rr_X5_expected F hr hlk) h
theorem so_X5_share {l : Launch} {L : Nat → Nat} {D : va_G} {cI cZ cR : ClassId} {d : Nat} {as : List tV} {M : tM} {Q : tQ} (h : Runs (sC l L D cI cZ cR) (tabF k_X5_share) d Q 0 (ent as 7) [] M) : sC l L D cI cZ cR d 54 as M Q := sC.of (tab := k_X5_share) rfl (by decide +kernel) (fun F hr hlk => rr_X5_share F hr hlk) h
theorem so_X5_lacking {l : Launch} {L : Nat → Nat} {D : va_G} {cI cZ cR : ClassId} {d : Nat} {as : List tV} {M : tM} {Q : tQ} (h : Runs (sC l L D cI cZ cR) (tabF k_X5_lacking) d Q 0 (ent as 9) [] M) : sC l L D cI cZ cR d 55 as M Q := sC.of (tab := k_X5_lacking) rfl (by decide +kernel) (fun F hr hlk => rr_X5_lacking F hr hlk) h
theorem so_X5_sure {l : Launch} {L : Nat → Nat} {D : va_G} {cI cZ cR : ClassId} {d : Nat} {as : List tV} {M : tM} {Q : tQ} (h : Runs (sC l L D cI cZ cR) (tabF k_X5_sure) d Q 0 (ent as 7) [] M) : sC l L D cI cZ cR d 56 as M Q := sC.of (tab := k_X5_sure) rfl (by decide +kernel) (fun F hr hlk => rr_X5_sure F hr hlk) h
theorem so_X5_look {l : Launch} {L : Nat → Nat} {D : va_G} {cI cZ cR : ClassId} {d : Nat} {as : List tV} {M : tM} {Q : tQ} (h : Runs (sC l L D cI cZ cR) (tabF k_X5_look) d Q 0 (ent as 4) [] M) : sC l L D cI cZ cR d 57 as M Q := sC.of (tab := k_X5_look) rfl (by decide +kernel) (fun F hr hlk => rr_X5_look F hr hlk) h
theorem so_X5_isUnder {l : Launch} {L : Nat → Nat} {D : va_G} {cI cZ cR : ClassId} {d : Nat} {as : List tV} {M : tM} {Q : tQ} (h : Runs (sC l L D cI cZ cR) (tabF k_X5_isUnder) d Q 0 (ent as 3) [] M) : sC l L D cI cZ cR d 58 as M Q := sC.of (tab := k_X5_isUnder) rfl (by decide +kernel) (fun F hr hlk => rr_X5_isUnder F hr hlk) h
theorem so_X5_tell {l : Launch} {L : Nat → Nat} {D : va_G} {cI cZ cR : ClassId} {d : Nat} {as : List tV} {M : tM} {Q : tQ} (h : Runs (sC l L D cI cZ cR) (tabF k_X5_tell) d Q 0 (ent as 2) [] M) : sC l L D cI cZ cR d 59 as M Q := sC.of (tab := k_X5_tell) rfl (by decide +kernel) (fun F hr hlk => rr_X5_tell F hr hlk) h
theorem so_X5_isKind {l : Launch} {L : Nat → Nat} {D : va_G} {cI cZ cR : ClassId} {d : Nat} {as : List tV} {M : tM} {Q : tQ} (h : Runs (sC l L D cI cZ cR) (tabF k_X5_isKind) d Q 0 (ent as 1) [] M) : sC l L D cI cZ cR d 60 as M Q := sC.of (tab := k_X5_isKind) rfl (by decide +kernel) (fun F hr hlk => rr_X5_isKind F hr hlk) h
theorem so_X5_isTick {l : Launch} {L : Nat → Nat} {D : va_G} {cI cZ cR : ClassId} {d : Nat} {as : List tV} {M : tM} {Q : tQ} (h : Runs (sC l L D cI cZ cR) (tabF k_X5_isTick) d Q 0 (ent as 1) [] M) : sC l L D cI cZ cR d 61 as M Q := sC.of (tab := k_X5_isTick) rfl (by decide +kernel) (fun F hr hlk => rr_X5_isTick F hr hlk) h
theorem so_X5_isAmong {l : Launch} {L : Nat → Nat} {D : va_G} {cI cZ cR : ClassId} {d : Nat} {as : List tV} {M : tM} {Q : tQ} (h : Runs (sC l L D cI cZ cR) (tabF k_X5_isAmong) d Q 0 (ent as 2) [] M) : sC l L D cI cZ cR d 62 as M Q := sC.of (tab := k_X5_isAmong) rfl (by decide +kernel) (fun F hr hlk => rr_X5_isAmong F hr hlk) h
theorem so_X5_isRow {l : Launch} {L : Nat → Nat} {D : va_G} {cI cZ cR : ClassId} {d : Nat} {as : List tV} {M : tM} {Q : tQ} (h : Runs (sC l L D cI cZ cR) (tabF k_X5_isRow) d Q 0 (ent as 2) [] M) : sC l L D cI cZ cR d 63 as M Q := sC.of (tab := k_X5_isRow) rfl (by decide +kernel) (fun F hr hlk => rr_X5_isRow F hr hlk) h
theorem so_X5_lookAtRow {l : Launch} {L : Nat → Nat} {D : va_G} {cI cZ cR : ClassId} {d : Nat} {as : List tV} {M : tM} {Q : tQ} (h : Runs (sC l L D cI cZ cR) (tabF k_X5_lookAtRow) d Q 0 (ent as 2) [] M) : sC l L D cI cZ cR d 64 as M Q := sC.of (tab := k_X5_lookAtRow) rfl (by decide +kernel) (fun F hr hlk => rr_X5_lookAtRow F hr hlk) h
theorem so_X5_happeningsInAll {l : Launch} {L : Nat → Nat} {D : va_G} {cI cZ cR : ClassId} {d : Nat} {as : List tV} {M : tM} {Q : tQ} (h : Runs (sC l L D cI cZ cR) (tabF k_X5_happeningsInAll) d Q 0 (ent as 3) [] M) : sC l L D cI cZ cR d 65 as M Q := sC.of (tab := k_X5_happeningsInAll) rfl (by decide +kernel) (fun F hr hlk => rr_X5_happeningsInAll F hr hlk) h
theorem so_X5_rowsInOf {l : Launch} {L : Nat → Nat} {D : va_G} {cI cZ cR : ClassId} {d : Nat} {as : List tV} {M : tM} {Q : tQ} (h : Runs (sC l L D cI cZ cR) (tabF k_X5_rowsInOf) d Q 0 (ent as 4) [] M) : sC l L D cI cZ cR d 66 as M Q := sC.of (tab := k_X5_rowsInOf) rfl (by decide +kernel) (fun F hr hlk => rr_X5_rowsInOf F hr hlk) h
theorem so_X5_rowsIn {l : Launch} {L : Nat → Nat} {D : va_G} {cI cZ cR : ClassId} {d : Nat} {as : List tV} {M : tM} {Q : tQ} (h : Runs (sC l L D cI cZ cR) (tabF k_X5_rowsIn) d Q 0 (ent as 1) [] M) : sC l L D cI cZ cR d 67 as M Q := sC.of (tab := k_X5_rowsIn) rfl (by decide +kernel) (fun F hr hlk => rr_X5_rowsIn F hr hlk) h
theorem so_X5_rowsWith {l : Launch} {L : Nat → Nat} {D : va_G} {cI cZ cR : ClassId} {d : Nat} {as : List tV} {M : tM} {Q : tQ} (h : Runs (sC l L D cI cZ cR) (tabF k_X5_rowsWith) d Q 0 (ent as 4) [] M) : sC l L D cI cZ cR d 68 as M Q := sC.of (tab := k_X5_rowsWith) rfl (by decide +kernel) (fun F hr hlk => rr_X5_rowsWith F hr hlk) h
theorem so_X5_countOf {l : Launch} {L : Nat → Nat} {D : va_G} {cI cZ cR : ClassId} {d : Nat} {as : List tV} {M : tM} {Q : tQ} (h : Runs (sC l L D cI cZ cR) (tabF k_X5_countOf) d Q 0 (ent as 2) [] M) : sC l L D cI cZ cR d 69 as M Q := sC.of (tab := k_X5_countOf) rfl (by decide +kernel) (fun F hr hlk => rr_X5_countOf F hr hlk) h
theorem so_X5_rowsLacking {l : Launch} {L : Nat → Nat} {D : va_G} {cI cZ cR : ClassId} {d : Nat} {as : List tV} {M : tM} {Q : tQ} (h : Runs (sC l L D cI cZ cR) (tabF k_X5_rowsLacking) d Q 0 (ent as 2) [] M) : sC l L D cI cZ cR d 70 as M Q := sC.of (tab := k_X5_rowsLacking) rfl (by decide +kernel) (fun F hr hlk => rr_X5_rowsLacking F hr hlk) h
theorem so_X5_gatherRowsBehind {l : Launch} {L : Nat → Nat} {D : va_G} {cI cZ cR : ClassId} {d : Nat} {as : List tV} {M : tM} {Q : tQ} (h : Runs (sC l L D cI cZ cR) (tabF k_X5_gatherRowsBehind) d Q 0 (ent as 6) [] M) : sC l L D cI cZ cR d 71 as M Q := sC.of (tab := k_X5_gatherRowsBehind) rfl (by decide +kernel) (fun F hr hlk => rr_X5_gatherRowsBehind F hr hlk) h
theorem so_X5_findLonger {l : Launch} {L : Nat → Nat} {D : va_G} {cI cZ cR : ClassId} {d : Nat} {as : List tV} {M : tM} {Q : tQ} (h : Runs (sC l L D cI cZ cR) (tabF k_X5_findLonger) d Q 0 (ent as 5) [] M) : sC l L D cI cZ cR d 72 as M Q := sC.of (tab := k_X5_findLonger) rfl (by decide +kernel) (fun F hr hlk => rr_X5_findLonger F hr hlk) h
theorem so_X5_longerSays {l : Launch} {L : Nat → Nat} {D : va_G} {cI cZ cR : ClassId} {d : Nat} {as : List tV} {M : tM} {Q : tQ} (h : Runs (sC l L D cI cZ cR) (tabF k_X5_longerSays) d Q 0 (ent as 6) [] M) : sC l L D cI cZ cR d 73 as M Q := sC.of (tab := k_X5_longerSays) rfl (by decide +kernel) (fun F hr hlk => rr_X5_longerSays F hr hlk) h
theorem so_X5_narrowerSays {l : Launch} {L : Nat → Nat} {D : va_G} {cI cZ cR : ClassId} {d : Nat} {as : List tV} {M : tM} {Q : tQ} (h : Runs (sC l L D cI cZ cR) (tabF k_X5_narrowerSays) d Q 0 (ent as 7) [] M) : sC l L D cI cZ cR d 74 as M Q := sC.of (tab := k_X5_narrowerSays) rfl (by decide +kernel) (fun F hr hlk => rr_X5_narrowerSays F hr hlk) h
theorem so_X5_howFarApart {l : Launch} {L : Nat → Nat} {D : va_G} {cI cZ cR : ClassId} {d : Nat} {as : List tV} {M : tM} {Q : tQ} (h : Runs (sC l L D cI cZ cR) (tabF k_X5_howFarApart) d Q 0 (ent as 5) [] M) : sC l L D cI cZ cR d 75 as M Q := sC.of (tab := k_X5_howFarApart) rfl (by decide +kernel) (fun F hr hlk => rr_X5_howFarApart F hr hlk) h
theorem so_X5_chanceAhead {l : Launch} {L : Nat → Nat} {D : va_G} {cI cZ cR : ClassId} {d : Nat} {as : List tV} {M : tM} {Q : tQ} (h : Runs (sC l L D cI cZ cR) (tabF k_X5_chanceAhead) d Q 0 (ent as 4) [] M) : sC l L D cI cZ cR d 76 as M Q := sC.of (tab := k_X5_chanceAhead) rfl (by decide +kernel) (fun F hr hlk => rr_X5_chanceAhead F hr hlk) h
theorem so_X5_waysToChoose {l : Launch} {L : Nat → Nat} {D : va_G} {cI cZ cR : ClassId} {d : Nat} {as : List tV} {M : tM} {Q : tQ} (h : Runs (sC l L D cI cZ cR) (tabF k_X5_waysToChoose) d Q 0 (ent as 5) [] M) : sC l L D cI cZ cR d 77 as M Q := sC.of (tab := k_X5_waysToChoose) rfl (by decide +kernel) (fun F hr hlk => rr_X5_waysToChoose F hr hlk) h
theorem so_X6_lies {l : Launch} {L : Nat → Nat} {D : va_G} {cI cZ cR : ClassId} {d : Nat} {as : List tV} {M : tM} {Q : tQ} (h : Runs (sC l L D cI cZ cR) (tabF k_X6_lies) d Q 0 (ent as 3) [] M) : sC l L D cI cZ cR d 78 as M Q := sC.of (tab := k_X6_lies) rfl (by decide +kernel) (fun F hr hlk => rr_X6_lies F hr hlk) h
theorem so_X6_isKind {l : Launch} {L : Nat → Nat} {D : va_G} {cI cZ cR : ClassId} {d : Nat} {as : List tV} {M : tM} {Q : tQ} (h : Runs (sC l L D cI cZ cR) (tabF k_X6_isKind) d Q 0 (ent as 1) [] M) : sC l L D cI cZ cR d 79 as M Q := sC.of (tab := k_X6_isKind) rfl (by decide +kernel) (fun F hr hlk => rr_X6_isKind F hr hlk) h
theorem so_X6_isRow {l : Launch} {L : Nat → Nat} {D : va_G} {cI cZ cR : ClassId} {d : Nat} {as : List tV} {M : tM} {Q : tQ} (h : Runs (sC l L D cI cZ cR) (tabF k_X6_isRow) d Q 0 (ent as 2) [] M) : sC l L D cI cZ cR d 80 as M Q := sC.of (tab := k_X6_isRow) rfl (by decide +kernel) (fun F hr hlk => rr_X6_isRow F hr hlk) h
theorem so_X6_isOf {l : Launch} {L : Nat → Nat} {D : va_G} {cI cZ cR : ClassId} {d : Nat} {as : List tV} {M : tM} {Q : tQ} (h : Runs (sC l L D cI cZ cR) (tabF k_X6_isOf) d Q 0 (ent as 4) [] M) : sC l L D cI cZ cR d 81 as M Q := sC.of (tab := k_X6_isOf) rfl (by decide +kernel) (fun F hr hlk => rr_X6_isOf F hr hlk) h
theorem so_X6_under {l : Launch} {L : Nat → Nat} {D : va_G} {cI cZ cR : ClassId} {d : Nat} {as : List tV} {M : tM} {Q : tQ} (h : Runs (sC l L D cI cZ cR) (tabF k_X6_under) d Q 0 (ent as 3) [] M) : sC l L D cI cZ cR d 82 as M Q := sC.of (tab := k_X6_under) rfl (by decide +kernel) (fun F hr hlk => rr_X6_under F hr hlk) h
theorem so_X6_isUnder {l : Launch} {L : Nat → Nat} {D : va_G} {cI cZ cR : ClassId} {d : Nat} {as : List tV} {M : tM} {Q : tQ} (h : Runs (sC l L D cI cZ cR) (tabF k_X6_isUnder) d Q 0 (ent as 3) [] M) : sC l L D cI cZ cR d 83 as M Q := sC.of (tab := k_X6_isUnder) rfl (by decide +kernel) (fun F hr hlk => rr_X6_isUnder F hr hlk) h
theorem so_X6_row {l : Launch} {L : Nat → Nat} {D : va_G} {cI cZ cR : ClassId} {d : Nat} {as : List tV} {M : tM} {Q : tQ} (h : Runs (sC l L D cI cZ cR) (tabF k_X6_row) d Q 0 (ent as 2) [] M) : sC l L D cI cZ cR d 84 as M Q := sC.of (tab := k_X6_row) rfl (by decide +kernel) (fun F hr hlk => rr_X6_row F hr hlk) h
theorem so_X6_put {l : Launch} {L : Nat → Nat} {D : va_G} {cI cZ cR : ClassId} {d : Nat} {as : List tV} {M : tM} {Q : tQ} (h : Runs (sC l L D cI cZ cR) (tabF k_X6_put) d Q 0 (ent as 5) [] M) : sC l L D cI cZ cR d 85 as M Q := sC.of (tab := k_X6_put) rfl (by decide +kernel) (fun F hr hlk => rr_X6_put F hr hlk) h
theorem so_X6_take {l : Launch} {L : Nat → Nat} {D : va_G} {cI cZ cR : ClassId} {d : Nat} {as : List tV} {M : tM} {Q : tQ} (h : Runs (sC l L D cI cZ cR) (tabF k_X6_take) d Q 0 (ent as 3) [] M) : sC l L D cI cZ cR d 86 as M Q := sC.of (tab := k_X6_take) rfl (by decide +kernel) (fun F hr hlk => rr_X6_take F hr hlk) h
theorem so_X6_gap {l : Launch} {L : Nat → Nat} {D : va_G} {cI cZ cR : ClassId} {d : Nat} {as : List tV} {M : tM} {Q : tQ} (h : Runs (sC l L D cI cZ cR) (tabF k_X6_gap) d Q 0 (ent as 2) [] M) : sC l L D cI cZ cR d 87 as M Q := sC.of (tab := k_X6_gap) rfl (by decide +kernel) (fun F hr hlk => rr_X6_gap F hr hlk) h
theorem so_X6_span {l : Launch} {L : Nat → Nat} {D : va_G} {cI cZ cR : ClassId} {d : Nat} {as : List tV} {M : tM} {Q : tQ} (h : Runs (sC l L D cI cZ cR) (tabF k_X6_span) d Q 0 (ent as 2) [] M) : sC l L D cI cZ cR d 88 as M Q := sC.of (tab := k_X6_span) rfl (by decide +kernel) (fun F hr hlk => rr_X6_span F hr hlk) h
theorem so_X6_takes {l : Launch} {L : Nat → Nat} {D : va_G} {cI cZ cR : ClassId} {d : Nat} {as : List tV} {M : tM} {Q : tQ} (h : Runs (sC l L D cI cZ cR) (tabF k_X6_takes) d Q 0 (ent as 6) [] M) : sC l L D cI cZ cR d 89 as M Q := sC.of (tab := k_X6_takes) rfl (by decide +kernel) (fun F hr hlk => rr_X6_takes F hr hlk) h
theorem so_X6_isAt {l : Launch} {L : Nat → Nat} {D : va_G} {cI cZ cR : ClassId} {d : Nat} {as : List tV} {M : tM} {Q : tQ} (h : Runs (sC l L D cI cZ cR) (tabF k_X6_isAt) d Q 0 (ent as 4) [] M) : sC l L D cI cZ cR d 90 as M Q := sC.of (tab := k_X6_isAt) rfl (by decide +kernel) (fun F hr hlk => rr_X6_isAt F hr hlk) h
theorem so_X6_leads {l : Launch} {L : Nat → Nat} {D : va_G} {cI cZ cR : ClassId} {d : Nat} {as : List tV} {M : tM} {Q : tQ} (h : Runs (sC l L D cI cZ cR) (tabF k_X6_leads) d Q 0 (ent as 4) [] M) : sC l L D cI cZ cR d 91 as M Q := sC.of (tab := k_X6_leads) rfl (by decide +kernel) (fun F hr hlk => rr_X6_leads F hr hlk) h
theorem so_X6_spans {l : Launch} {L : Nat → Nat} {D : va_G} {cI cZ cR : ClassId} {d : Nat} {as : List tV} {M : tM} {Q : tQ} (h : Runs (sC l L D cI cZ cR) (tabF k_X6_spans) d Q 0 (ent as 4) [] M) : sC l L D cI cZ cR d 92 as M Q := sC.of (tab := k_X6_spans) rfl (by decide +kernel) (fun F hr hlk => rr_X6_spans F hr hlk) h
theorem so_X6_maps {l : Launch} {L : Nat → Nat} {D : va_G} {cI cZ cR : ClassId} {d : Nat} {as : List tV} {M : tM} {Q : tQ} (h : Runs (sC l L D cI cZ cR) (tabF k_X6_maps) d Q 0 (ent as 6) [] M) : sC l L D cI cZ cR d 93 as M Q := sC.of (tab := k_X6_maps) rfl (by decide +kernel) (fun F hr hlk => rr_X6_maps F hr hlk) h
theorem so_X6_mapsAll {l : Launch} {L : Nat → Nat} {D : va_G} {cI cZ cR : ClassId} {d : Nat} {as : List tV} {M : tM} {Q : tQ} (h : Runs (sC l L D cI cZ cR) (tabF k_X6_mapsAll) d Q 0 (ent as 2) [] M) : sC l L D cI cZ cR d 94 as M Q := sC.of (tab := k_X6_mapsAll) rfl (by decide +kernel) (fun F hr hlk => rr_X6_mapsAll F hr hlk) h
theorem so_X6_ends {l : Launch} {L : Nat → Nat} {D : va_G} {cI cZ cR : ClassId} {d : Nat} {as : List tV} {M : tM} {Q : tQ} (h : Runs (sC l L D cI cZ cR) (tabF k_X6_ends) d Q 0 (ent as 8) [] M) : sC l L D cI cZ cR d 95 as M Q := sC.of (tab := k_X6_ends) rfl (by decide +kernel) (fun F hr hlk => rr_X6_ends F hr hlk) h
theorem so_X6_has {l : Launch} {L : Nat → Nat} {D : va_G} {cI cZ cR : ClassId} {d : Nat} {as : List tV} {M : tM} {Q : tQ} (h : Runs (sC l L D cI cZ cR) (tabF k_X6_has) d Q 0 (ent as 4) [] M) : sC l L D cI cZ cR d 96 as M Q := sC.of (tab := k_X6_has) rfl (by decide +kernel) (fun F hr hlk => rr_X6_has F hr hlk) h
theorem so_X6_countOf {l : Launch} {L : Nat → Nat} {D : va_G} {cI cZ cR : ClassId} {d : Nat} {as : List tV} {M : tM} {Q : tQ} (h : Runs (sC l L D cI cZ cR) (tabF k_X6_countOf) d Q 0 (ent as 4) [] M) : sC l L D cI cZ cR d 97 as M Q := sC.of (tab := k_X6_countOf) rfl (by decide +kernel) (fun F hr hlk => rr_X6_countOf F hr hlk) h
theorem so_X6_count {l : Launch} {L : Nat → Nat} {D : va_G} {cI cZ cR : ClassId} {d : Nat} {as : List tV} {M : tM} {Q : tQ} (h : Runs (sC l L D cI cZ cR) (tabF k_X6_count) d Q 0 (ent as 5) [] M) : sC l L D cI cZ cR d 98 as M Q := sC.of (tab := k_X6_count) rfl (by decide +kernel) (fun F hr hlk => rr_X6_count F hr hlk) h
theorem so_X6_next {l : Launch} {L : Nat → Nat} {D : va_G} {cI cZ cR : ClassId} {d : Nat} {as : List tV} {M : tM} {Q : tQ} (h : Runs (sC l L D cI cZ cR) (tabF k_X6_next) d Q 0 (ent as 4) [] M) : sC l L D cI cZ cR d 99 as M Q := sC.of (tab := k_X6_next) rfl (by decide +kernel) (fun F hr hlk => rr_X6_next F hr hlk) h
theorem so_X6_matches {l : Launch} {L : Nat → Nat} {D : va_G} {cI cZ cR : ClassId} {d : Nat} {as : List tV} {M : tM} {Q : tQ} (h : Runs (sC l L D cI cZ cR) (tabF k_X6_matches) d Q 0 (ent as 9) [] M) : sC l L D cI cZ cR d 100 as M Q := sC.of (tab := k_X6_matches) rfl (by decide +kernel) (fun F hr hlk => rr_X6_matches F hr hlk) h
theorem so_X6_match {l : Launch} {L : Nat → Nat} {D : va_G} {cI cZ cR : ClassId} {d : Nat} {as : List tV} {M : tM} {Q : tQ} (h : Runs (sC l L D cI cZ cR) (tabF k_X6_match) d Q 0 (ent as 7) [] M) : sC l L D cI cZ cR d 101 as M Q := sC.of (tab := k_X6_match) rfl (by decide +kernel) (fun F hr hlk => rr_X6_match F hr hlk) h
theorem so_X6_isThere {l : Launch} {L : Nat → Nat} {D : va_G} {cI cZ cR : ClassId} {d : Nat} {as : List tV} {M : tM} {Q : tQ} (h : Runs (sC l L D cI cZ cR) (tabF k_X6_isThere) d Q 0 (ent as 3) [] M) : sC l L D cI cZ cR d 102 as M Q := sC.of (tab := k_X6_isThere) rfl (by decide +kernel) (fun F hr hlk => rr_X6_isThere F hr hlk) h
theorem so_X6_keeps {l : Launch} {L : Nat → Nat} {D : va_G} {cI cZ cR : ClassId} {d : Nat} {as : List tV} {M : tM} {Q : tQ} (h : Runs (sC l L D cI cZ cR) (tabF k_X6_keeps) d Q 0 (ent as 4) [] M) : sC l L D cI cZ cR d 103 as M Q := sC.of (tab := k_X6_keeps) rfl (by decide +kernel) (fun F hr hlk => rr_X6_keeps F hr hlk) h
theorem so_X6_find {l : Launch} {L : Nat → Nat} {D : va_G} {cI cZ cR : ClassId} {d : Nat} {as : List tV} {M : tM} {Q : tQ} (h : Runs (sC l L D cI cZ cR) (tabF k_X6_find) d Q 0 (ent as 10) [] M) : sC l L D cI cZ cR d 104 as M Q := sC.of (tab := k_X6_find) rfl (by decide +kernel) (fun F hr hlk => rr_X6_find F hr hlk) h
theorem so_X6_found {l : Launch} {L : Nat → Nat} {D : va_G} {cI cZ cR : ClassId} {d : Nat} {as : List tV} {M : tM} {Q : tQ} (h : Runs (sC l L D cI cZ cR) (tabF k_X6_found) d Q 0 (ent as 3) [] M) : sC l L D cI cZ cR d 105 as M Q := sC.of (tab := k_X6_found) rfl (by decide +kernel) (fun F hr hlk => rr_X6_found F hr hlk) h
theorem so_X6_takesFound {l : Launch} {L : Nat → Nat} {D : va_G} {cI cZ cR : ClassId} {d : Nat} {as : List tV} {M : tM} {Q : tQ} (h : Runs (sC l L D cI cZ cR) (tabF k_X6_takesFound) d Q 0 (ent as 2) [] M) : sC l L D cI cZ cR d 106 as M Q := sC.of (tab := k_X6_takesFound) rfl (by decide +kernel) (fun F hr hlk => rr_X6_takesFound F hr hlk) h
theorem so_X6_closed {l : Launch} {L : Nat → Nat} {D : va_G} {cI cZ cR : ClassId} {d : Nat} {as : List tV} {M : tM} {Q : tQ} (h : Runs (sC l L D cI cZ cR) (tabF k_X6_closed) d Q 0 (ent as 8) [] M) : sC l L D cI cZ cR d 107 as M Q := sC.of (tab := k_X6_closed) rfl (by decide +kernel) (fun F hr hlk => rr_X6_closed F hr hlk) h
theorem so_X6_inHeap {l : Launch} {L : Nat → Nat} {D : va_G} {cI cZ cR : ClassId} {d : Nat} {as : List tV} {M : tM} {Q : tQ} (h : Runs (sC l L D cI cZ cR) (tabF k_X6_inHeap) d Q 0 (ent as 5) [] M) : sC l L D cI cZ cR d 108 as M Q := sC.of (tab := k_X6_inHeap) rfl (by decide +kernel) (fun F hr hlk => rr_X6_inHeap F hr hlk) h
theorem so_X6_best {l : Launch} {L : Nat → Nat} {D : va_G} {cI cZ cR : ClassId} {d : Nat} {as : List tV} {M : tM} {Q : tQ} (h : Runs (sC l L D cI cZ cR) (tabF k_X6_best) d Q 0 (ent as 6) [] M) : sC l L D cI cZ cR d 109 as M Q := sC.of (tab := k_X6_best) rfl (by decide +kernel) (fun F hr hlk => rr_X6_best F hr hlk) h
theorem so_X6_those {l : Launch} {L : Nat → Nat} {D : va_G} {cI cZ cR : ClassId} {d : Nat} {as : List tV} {M : tM} {Q : tQ} (h : Runs (sC l L D cI cZ cR) (tabF k_X6_those) d Q 0 (ent as 5) [] M) : sC l L D cI cZ cR d 110 as M Q := sC.of (tab := k_X6_those) rfl (by decide +kernel) (fun F hr hlk => rr_X6_those F hr hlk) h
theorem so_X6_ways {l : Launch} {L : Nat → Nat} {D : va_G} {cI cZ cR : ClassId} {d : Nat} {as : List tV} {M : tM} {Q : tQ} (h : Runs (sC l L D cI cZ cR) (tabF k_X6_ways) d Q 0 (ent as 5) [] M) : sC l L D cI cZ cR d 111 as M Q := sC.of (tab := k_X6_ways) rfl (by decide +kernel) (fun F hr hlk => rr_X6_ways F hr hlk) h
theorem so_X6_expected {l : Launch} {L : Nat → Nat} {D : va_G} {cI cZ cR : ClassId} {d : Nat} {as : List tV} {M : tM} {Q : tQ} (h : Runs (sC l L D cI cZ cR) (tabF k_X6_expected) d Q 0 (ent as 8) [] M) : sC l L D cI cZ cR d 112 as M Q := sC.of (tab := k_X6_expected) rfl (by decide +kernel) (fun F hr hlk => rr_X6_expected F hr hlk) h
theorem so_X6_share {l : Launch} {L : Nat → Nat} {D : va_G} {cI cZ cR : ClassId} {d : Nat} {as : List tV} {M : tM} {Q : tQ} (h : Runs (sC l L D cI cZ cR) (tabF k_X6_share) d Q 0 (ent as 6) [] M) : sC l L D cI cZ cR d 113 as M Q := sC.of (tab := k_X6_share) rfl (by decide +kernel) (fun F hr hlk => rr_X6_share F hr hlk) h
theorem so_X6_isLacking {l : Launch} {L : Nat → Nat} {D : va_G} {cI cZ cR : ClassId} {d : Nat} {as : List tV} {M : tM} {Q : tQ} (h : Runs (sC l L D cI cZ cR) (tabF k_X6_isLacking) d Q 0 (ent as 2) [] M) : sC l L D cI cZ cR d 114 as M Q := sC.of (tab := k_X6_isLacking) rfl (by decide +kernel) (fun F hr hlk => rr_X6_isLacking F hr hlk) h
theorem so_X6_lacking {l : Launch} {L : Nat → Nat} {D : va_G} {cI cZ cR : ClassId} {d : Nat} {as : List tV} {M : tM} {Q : tQ} (h : Runs (sC l L D cI cZ cR) (tabF k_X6_lacking) d Q 0 (ent as 8) [] M) : sC l L D cI cZ cR d 115 as M Q := sC.of (tab := k_X6_lacking) rfl (by decide +kernel) (fun F hr hlk => rr_X6_lacking F hr hlk) h
theorem so_X6_sure {l : Launch} {L : Nat → Nat} {D : va_G} {cI cZ cR : ClassId} {d : Nat} {as : List tV} {M : tM} {Q : tQ} (h : Runs (sC l L D cI cZ cR) (tabF k_X6_sure) d Q 0 (ent as 9) [] M) : sC l L D cI cZ cR d 116 as M Q := sC.of (tab := k_X6_sure) rfl (by decide +kernel) (fun F hr hlk => rr_X6_sure F hr hlk) h
theorem so_X6_look {l : Launch} {L : Nat → Nat} {D : va_G} {cI cZ cR : ClassId} {d : Nat} {as : List tV} {M : tM} {Q : tQ} (h : Runs (sC l L D cI cZ cR) (tabF k_X6_look) d Q 0 (ent as 4) [] M) : sC l L D cI cZ cR d 117 as M Q := sC.of (tab := k_X6_look) rfl (by decide +kernel) (fun F hr hlk => rr_X6_look F hr hlk) h
theorem so_X6_tell {l : Launch} {L : Nat → Nat} {D : va_G} {cI cZ cR : ClassId} {d : Nat} {as : List tV} {M : tM} {Q : tQ} (h : Runs (sC l L D cI cZ cR) (tabF k_X6_tell) d Q 0 (ent as 4) [] M) : sC l L D cI cZ cR d 118 as M Q := sC.of (tab := k_X6_tell) rfl (by decide +kernel) (fun F hr hlk => rr_X6_tell F hr hlk) h
theorem so_J6_bitCount_0f7a4 {l : Launch} {L : Nat → Nat} {D : va_G} {cI cZ cR : ClassId} {d : Nat} {as : List tV} {M : tM} {Q : tQ} (h : Runs (sC l L D cI cZ cR) (tabF k_J6_bitCount_0f7a4) d Q 0 (ent as 1) [] M) : sC l L D cI cZ cR d 119 as M Q := sC.of (tab := k_J6_bitCount_0f7a4) rfl (by decide +kernel) (fun F hr hlk => rr_J6_bitCount_0f7a4 F hr hlk) h
theorem Snd.sC {l : Launch} {L : Nat → Nat} {D : va_G} {cI cZ cR : ClassId} : Snd (sC l L D cI cZ cR) := by
  refine ⟨CMono.sC, fun d k as M Q hk h => ?_⟩
  match k, hk, h with
  | 0, _, h => exact so_X0_forget h
  | 1, _, h => exact so_X0_add h
  | 2, _, h => exact so_X0_isFull h
  | 3, _, h => exact so_X0_holds h
  | 4, _, h => exact so_X0_size h
  | 5, _, h => exact so_X0_patternAt h
  | 6, _, h => exact so_X0_rowsThenAt h
  | 7, _, h => exact so_X1_lay h
  | 8, _, h => exact so_X1_climb h
  | 9, _, h => exact so_X1_is h
  | 10, _, h => exact so_X1_liesJustUnder h
  | 11, _, h => exact so_X2_takeUp h
  | 12, _, h => exact so_X2_isIn h
  | 13, _, h => exact so_X2_lastEnd h
  | 14, _, h => exact so_X2_kindsBehind h
  | 15, _, h => exact so_X2_loseChains h
  | 16, _, h => exact so_X2_endsMatch h
  | 17, _, h => exact so_X2_canFollow h
  | 18, _, h => exact so_X2_matchesIn h
  | 19, _, h => exact so_X2_placeInFirst h
  | 20, _, h => exact so_X2_goToFirstMatch h
  | 21, _, h => exact so_X2_goToNextMatch h
  | 22, _, h => exact so_X2_nextPlace h
  | 23, _, h => exact so_X2_canStandAt h
  | 24, _, h => exact so_X3_of h
  | 25, _, h => exact so_X3_isKindOrNone h
  | 26, _, h => exact so_X3_lengthen h
  | 27, _, h => exact so_X3_length h
  | 28, _, h => exact so_X3_item h
  | 29, _, h => exact so_X3_lastItem h
  | 30, _, h => exact so_X3_withoutLast h
  | 31, _, h => exact so_X3_insert h
  | 32, _, h => exact so_X3_replace h
  | 33, _, h => exact so_X4_begin h
  | 34, _, h => exact so_X4_append h
  | 35, _, h => exact so_X4_size h
  | 36, _, h => exact so_X4_tickAt h
  | 37, _, h => exact so_X4_kindAt h
  | 38, _, h => exact so_X4_bitsAt h
  | 39, _, h => exact so_X4_howMany h
  | 40, _, h => exact so_X5_under h
  | 41, _, h => exact so_X5_row h
  | 42, _, h => exact so_X5_put h
  | 43, _, h => exact so_X5_take h
  | 44, _, h => exact so_X5_gap h
  | 45, _, h => exact so_X5_span h
  | 46, _, h => exact so_X5_count h
  | 47, _, h => exact so_X5_matches h
  | 48, _, h => exact so_X5_match h
  | 49, _, h => exact so_X5_find h
  | 50, _, h => exact so_X5_found h
  | 51, _, h => exact so_X5_closed h
  | 52, _, h => exact so_X5_best h
  | 53, _, h => exact so_X5_expected h
  | 54, _, h => exact so_X5_share h
  | 55, _, h => exact so_X5_lacking h
  | 56, _, h => exact so_X5_sure h
  | 57, _, h => exact so_X5_look h
  | 58, _, h => exact so_X5_isUnder h
  | 59, _, h => exact so_X5_tell h
  | 60, _, h => exact so_X5_isKind h
  | 61, _, h => exact so_X5_isTick h
  | 62, _, h => exact so_X5_isAmong h
  | 63, _, h => exact so_X5_isRow h
  | 64, _, h => exact so_X5_lookAtRow h
  | 65, _, h => exact so_X5_happeningsInAll h
  | 66, _, h => exact so_X5_rowsInOf h
  | 67, _, h => exact so_X5_rowsIn h
  | 68, _, h => exact so_X5_rowsWith h
  | 69, _, h => exact so_X5_countOf h
  | 70, _, h => exact so_X5_rowsLacking h
  | 71, _, h => exact so_X5_gatherRowsBehind h
  | 72, _, h => exact so_X5_findLonger h
  | 73, _, h => exact so_X5_longerSays h
  | 74, _, h => exact so_X5_narrowerSays h
  | 75, _, h => exact so_X5_howFarApart h
  | 76, _, h => exact so_X5_chanceAhead h
  | 77, _, h => exact so_X5_waysToChoose h
  | 78, _, h => exact so_X6_lies h
  | 79, _, h => exact so_X6_isKind h
  | 80, _, h => exact so_X6_isRow h
  | 81, _, h => exact so_X6_isOf h
  | 82, _, h => exact so_X6_under h
  | 83, _, h => exact so_X6_isUnder h
  | 84, _, h => exact so_X6_row h
  | 85, _, h => exact so_X6_put h
  | 86, _, h => exact so_X6_take h
  | 87, _, h => exact so_X6_gap h
  | 88, _, h => exact so_X6_span h
  | 89, _, h => exact so_X6_takes h
  | 90, _, h => exact so_X6_isAt h
  | 91, _, h => exact so_X6_leads h
  | 92, _, h => exact so_X6_spans h
  | 93, _, h => exact so_X6_maps h
  | 94, _, h => exact so_X6_mapsAll h
  | 95, _, h => exact so_X6_ends h
  | 96, _, h => exact so_X6_has h
  | 97, _, h => exact so_X6_countOf h
  | 98, _, h => exact so_X6_count h
  | 99, _, h => exact so_X6_next h
  | 100, _, h => exact so_X6_matches h
  | 101, _, h => exact so_X6_match h
  | 102, _, h => exact so_X6_isThere h
  | 103, _, h => exact so_X6_keeps h
  | 104, _, h => exact so_X6_find h
  | 105, _, h => exact so_X6_found h
  | 106, _, h => exact so_X6_takesFound h
  | 107, _, h => exact so_X6_closed h
  | 108, _, h => exact so_X6_inHeap h
  | 109, _, h => exact so_X6_best h
  | 110, _, h => exact so_X6_those h
  | 111, _, h => exact so_X6_ways h
  | 112, _, h => exact so_X6_expected h
  | 113, _, h => exact so_X6_share h
  | 114, _, h => exact so_X6_isLacking h
  | 115, _, h => exact so_X6_lacking h
  | 116, _, h => exact so_X6_sure h
  | 117, _, h => exact so_X6_look h
  | 118, _, h => exact so_X6_tell h
  | 119, _, h => exact so_J6_bitCount_0f7a4 h
  | k + 120, hk, _ => exact absurd hk (by omega)
theorem en_X0_forget {C : tC} (S : Snd C) {d : Nat} {M : tM} {Q : tQ} {a0 : tV} (h : Runs C (tabF k_X0_forget) d Q 0 [some a0] [] M) : C d 0 [a0] M Q := S.2 d 0 _ M Q (by decide) h
theorem en_X0_add {C : tC} (S : Snd C) {d : Nat} {M : tM} {Q : tQ} {a0 a1 a2 : tV} (h : Runs C (tabF k_X0_add) d Q 0 [some a0, some a1, some a2] [] M) : C d 1 [a0, a1, a2] M Q := S.2 d 1 _ M Q (by decide) h
theorem en_X0_isFull {C : tC} (S : Snd C) {d : Nat} {M : tM} {Q : tQ} {a0 : tV} (h : Runs C (tabF k_X0_isFull) d Q 0 [some a0] [] M) : C d 2 [a0] M Q := S.2 d 2 _ M Q (by decide) h
theorem en_X0_holds {C : tC} (S : Snd C) {d : Nat} {M : tM} {Q : tQ} {a0 a1 : tV} (h : Runs C (tabF k_X0_holds) d Q 0 [some a0, some a1] [] M) : C d 3 [a0, a1] M Q := S.2 d 3 _ M Q (by decide) h
theorem en_X0_size {C : tC} (S : Snd C) {d : Nat} {M : tM} {Q : tQ} {a0 : tV} (h : Runs C (tabF k_X0_size) d Q 0 [some a0] [] M) : C d 4 [a0] M Q := S.2 d 4 _ M Q (by decide) h
theorem en_X0_patternAt {C : tC} (S : Snd C) {d : Nat} {M : tM} {Q : tQ} {a0 a1 : tV} (h : Runs C (tabF k_X0_patternAt) d Q 0 [some a0, some a1] [] M) : C d 5 [a0, a1] M Q := S.2 d 5 _ M Q (by decide) h
theorem en_X0_rowsThenAt {C : tC} (S : Snd C) {d : Nat} {M : tM} {Q : tQ} {a0 a1 : tV} (h : Runs C (tabF k_X0_rowsThenAt) d Q 0 [some a0, some a1] [] M) : C d 6 [a0, a1] M Q := S.2 d 6 _ M Q (by decide) h
theorem en_X1_lay {C : tC} (S : Snd C) {d : Nat} {M : tM} {Q : tQ} {a0 a1 a2 : tV} (h : Runs C (tabF k_X1_lay) d Q 0 [some a0, some a1, some a2, none] [] M) : C d 7 [a0, a1, a2] M Q := S.2 d 7 _ M Q (by decide) h
theorem en_X1_climb {C : tC} (S : Snd C) {d : Nat} {M : tM} {Q : tQ} {a0 a1 : tV} (h : Runs C (tabF k_X1_climb) d Q 0 [some a0, some a1, none, none, none] [] M) : C d 8 [a0, a1] M Q := S.2 d 8 _ M Q (by decide) h
theorem en_X1_is {C : tC} (S : Snd C) {d : Nat} {M : tM} {Q : tQ} {a0 a1 a2 : tV} (h : Runs C (tabF k_X1_is) d Q 0 [some a0, some a1, some a2] [] M) : C d 9 [a0, a1, a2] M Q := S.2 d 9 _ M Q (by decide) h
theorem en_X1_liesJustUnder {C : tC} (S : Snd C) {d : Nat} {M : tM} {Q : tQ} {a0 a1 a2 : tV} (h : Runs C (tabF k_X1_liesJustUnder) d Q 0 [some a0, some a1, some a2] [] M) : C d 10 [a0, a1, a2] M Q := S.2 d 10 _ M Q (by decide) h
theorem en_X2_takeUp {C : tC} (S : Snd C) {d : Nat} {M : tM} {Q : tQ} {a0 a1 : tV} (h : Runs C (tabF k_X2_takeUp) d Q 0 [some a0, some a1, none, none, none, none] [] M) : C d 11 [a0, a1] M Q := S.2 d 11 _ M Q (by decide) h
theorem en_X2_isIn {C : tC} (S : Snd C) {d : Nat} {M : tM} {Q : tQ} {a0 a1 : tV} (h : Runs C (tabF k_X2_isIn) d Q 0 [some a0, some a1, none] [] M) : C d 12 [a0, a1] M Q := S.2 d 12 _ M Q (by decide) h
theorem en_X2_lastEnd {C : tC} (S : Snd C) {d : Nat} {M : tM} {Q : tQ} {a0 a1 : tV} (h : Runs C (tabF k_X2_lastEnd) d Q 0 [some a0, some a1, none, none] [] M) : C d 13 [a0, a1] M Q := S.2 d 13 _ M Q (by decide) h
theorem en_X2_kindsBehind {C : tC} (S : Snd C) {d : Nat} {M : tM} {Q : tQ} {a0 a1 : tV} (h : Runs C (tabF k_X2_kindsBehind) d Q 0 [some a0, some a1, none, none] [] M) : C d 14 [a0, a1] M Q := S.2 d 14 _ M Q (by decide) h
theorem en_X2_loseChains {C : tC} (S : Snd C) {d : Nat} {M : tM} {Q : tQ} {a0 : tV} (h : Runs C (tabF k_X2_loseChains) d Q 0 [some a0, none] [] M) : C d 15 [a0] M Q := S.2 d 15 _ M Q (by decide) h
theorem en_X2_endsMatch {C : tC} (S : Snd C) {d : Nat} {M : tM} {Q : tQ} {a0 a1 a2 : tV} (h : Runs C (tabF k_X2_endsMatch) d Q 0 [some a0, some a1, some a2, none, none, none, none] [] M) : C d 16 [a0, a1, a2] M Q := S.2 d 16 _ M Q (by decide) h
theorem en_X2_canFollow {C : tC} (S : Snd C) {d : Nat} {M : tM} {Q : tQ} {a0 a1 a2 : tV} (h : Runs C (tabF k_X2_canFollow) d Q 0 [some a0, some a1, some a2, none] [] M) : C d 17 [a0, a1, a2] M Q := S.2 d 17 _ M Q (by decide) h
theorem en_X2_matchesIn {C : tC} (S : Snd C) {d : Nat} {M : tM} {Q : tQ} {a0 a1 : tV} (h : Runs C (tabF k_X2_matchesIn) d Q 0 [some a0, some a1, none, none, none] [] M) : C d 18 [a0, a1] M Q := S.2 d 18 _ M Q (by decide) h
theorem en_X2_placeInFirst {C : tC} (S : Snd C) {d : Nat} {M : tM} {Q : tQ} {a0 a1 a2 : tV} (h : Runs C (tabF k_X2_placeInFirst) d Q 0 [some a0, some a1, some a2] [] M) : C d 19 [a0, a1, a2] M Q := S.2 d 19 _ M Q (by decide) h
theorem en_X2_goToFirstMatch {C : tC} (S : Snd C) {d : Nat} {M : tM} {Q : tQ} {a0 a1 : tV} (h : Runs C (tabF k_X2_goToFirstMatch) d Q 0 [some a0, some a1] [] M) : C d 20 [a0, a1] M Q := S.2 d 20 _ M Q (by decide) h
theorem en_X2_goToNextMatch {C : tC} (S : Snd C) {d : Nat} {M : tM} {Q : tQ} {a0 a1 a2 : tV} (h : Runs C (tabF k_X2_goToNextMatch) d Q 0 [some a0, some a1, some a2, none, none] [] M) : C d 21 [a0, a1, a2] M Q := S.2 d 21 _ M Q (by decide) h
theorem en_X2_nextPlace {C : tC} (S : Snd C) {d : Nat} {M : tM} {Q : tQ} {a0 a1 a2 : tV} (h : Runs C (tabF k_X2_nextPlace) d Q 0 [some a0, some a1, some a2, none] [] M) : C d 22 [a0, a1, a2] M Q := S.2 d 22 _ M Q (by decide) h
theorem en_X2_canStandAt {C : tC} (S : Snd C) {d : Nat} {M : tM} {Q : tQ} {a0 a1 a2 a3 : tV} (h : Runs C (tabF k_X2_canStandAt) d Q 0 [some a0, some a1, some a2, some a3, none] [] M) : C d 23 [a0, a1, a2, a3] M Q := S.2 d 23 _ M Q (by decide) h
theorem en_X3_of {C : tC} (S : Snd C) {d : Nat} {M : tM} {Q : tQ} {a0 a1 a2 a3 : tV} (h : Runs C (tabF k_X3_of) d Q 0 [some a0, some a1, some a2, some a3] [] M) : C d 24 [a0, a1, a2, a3] M Q := S.2 d 24 _ M Q (by decide) h
theorem en_X3_isKindOrNone {C : tC} (S : Snd C) {d : Nat} {M : tM} {Q : tQ} {a0 : tV} (h : Runs C (tabF k_X3_isKindOrNone) d Q 0 [some a0] [] M) : C d 25 [a0] M Q := S.2 d 25 _ M Q (by decide) h
theorem en_X3_lengthen {C : tC} (S : Snd C) {d : Nat} {M : tM} {Q : tQ} {a0 a1 : tV} (h : Runs C (tabF k_X3_lengthen) d Q 0 [some a0, some a1] [] M) : C d 26 [a0, a1] M Q := S.2 d 26 _ M Q (by decide) h
theorem en_X3_length {C : tC} (S : Snd C) {d : Nat} {M : tM} {Q : tQ} {a0 : tV} (h : Runs C (tabF k_X3_length) d Q 0 [some a0, none] [] M) : C d 27 [a0] M Q := S.2 d 27 _ M Q (by decide) h
theorem en_X3_item {C : tC} (S : Snd C) {d : Nat} {M : tM} {Q : tQ} {a0 a1 : tV} (h : Runs C (tabF k_X3_item) d Q 0 [some a0, some a1, none] [] M) : C d 28 [a0, a1] M Q := S.2 d 28 _ M Q (by decide) h
theorem en_X3_lastItem {C : tC} (S : Snd C) {d : Nat} {M : tM} {Q : tQ} {a0 : tV} (h : Runs C (tabF k_X3_lastItem) d Q 0 [some a0] [] M) : C d 29 [a0] M Q := S.2 d 29 _ M Q (by decide) h
theorem en_X3_withoutLast {C : tC} (S : Snd C) {d : Nat} {M : tM} {Q : tQ} {a0 : tV} (h : Runs C (tabF k_X3_withoutLast) d Q 0 [some a0] [] M) : C d 30 [a0] M Q := S.2 d 30 _ M Q (by decide) h
theorem en_X3_insert {C : tC} (S : Snd C) {d : Nat} {M : tM} {Q : tQ} {a0 a1 a2 : tV} (h : Runs C (tabF k_X3_insert) d Q 0 [some a0, some a1, some a2, none, none] [] M) : C d 31 [a0, a1, a2] M Q := S.2 d 31 _ M Q (by decide) h
theorem en_X3_replace {C : tC} (S : Snd C) {d : Nat} {M : tM} {Q : tQ} {a0 a1 a2 : tV} (h : Runs C (tabF k_X3_replace) d Q 0 [some a0, some a1, some a2, none] [] M) : C d 32 [a0, a1, a2] M Q := S.2 d 32 _ M Q (by decide) h
theorem en_X4_begin {C : tC} (S : Snd C) {d : Nat} {M : tM} {Q : tQ} {a0 a1 : tV} (h : Runs C (tabF k_X4_begin) d Q 0 [some a0, some a1] [] M) : C d 33 [a0, a1] M Q := S.2 d 33 _ M Q (by decide) h
theorem en_X4_append {C : tC} (S : Snd C) {d : Nat} {M : tM} {Q : tQ} {a0 a1 a2 : tV} (h : Runs C (tabF k_X4_append) d Q 0 [some a0, some a1, some a2] [] M) : C d 34 [a0, a1, a2] M Q := S.2 d 34 _ M Q (by decide) h
theorem en_X4_size {C : tC} (S : Snd C) {d : Nat} {M : tM} {Q : tQ} {a0 : tV} (h : Runs C (tabF k_X4_size) d Q 0 [some a0] [] M) : C d 35 [a0] M Q := S.2 d 35 _ M Q (by decide) h
theorem en_X4_tickAt {C : tC} (S : Snd C) {d : Nat} {M : tM} {Q : tQ} {a0 a1 : tV} (h : Runs C (tabF k_X4_tickAt) d Q 0 [some a0, some a1] [] M) : C d 36 [a0, a1] M Q := S.2 d 36 _ M Q (by decide) h
theorem en_X4_kindAt {C : tC} (S : Snd C) {d : Nat} {M : tM} {Q : tQ} {a0 a1 : tV} (h : Runs C (tabF k_X4_kindAt) d Q 0 [some a0, some a1] [] M) : C d 37 [a0, a1] M Q := S.2 d 37 _ M Q (by decide) h
theorem en_X4_bitsAt {C : tC} (S : Snd C) {d : Nat} {M : tM} {Q : tQ} {a0 a1 a2 : tV} (h : Runs C (tabF k_X4_bitsAt) d Q 0 [some a0, some a1, some a2] [] M) : C d 38 [a0, a1, a2] M Q := S.2 d 38 _ M Q (by decide) h
theorem en_X4_howMany {C : tC} (S : Snd C) {d : Nat} {M : tM} {Q : tQ} {a0 a1 a2 : tV} (h : Runs C (tabF k_X4_howMany) d Q 0 [some a0, some a1, some a2, none, none] [] M) : C d 39 [a0, a1, a2] M Q := S.2 d 39 _ M Q (by decide) h
theorem en_X5_under {C : tC} (S : Snd C) {d : Nat} {M : tM} {Q : tQ} {a0 a1 a2 : tV} (h : Runs C (tabF k_X5_under) d Q 0 [some a0, some a1, some a2] [] M) : C d 40 [a0, a1, a2] M Q := S.2 d 40 _ M Q (by decide) h
theorem en_X5_row {C : tC} (S : Snd C) {d : Nat} {M : tM} {Q : tQ} {a0 a1 : tV} (h : Runs C (tabF k_X5_row) d Q 0 [some a0, some a1] [] M) : C d 41 [a0, a1] M Q := S.2 d 41 _ M Q (by decide) h
theorem en_X5_put {C : tC} (S : Snd C) {d : Nat} {M : tM} {Q : tQ} {a0 a1 a2 a3 : tV} (h : Runs C (tabF k_X5_put) d Q 0 [some a0, some a1, some a2, some a3] [] M) : C d 42 [a0, a1, a2, a3] M Q := S.2 d 42 _ M Q (by decide) h
theorem en_X5_take {C : tC} (S : Snd C) {d : Nat} {M : tM} {Q : tQ} {a0 a1 a2 : tV} (h : Runs C (tabF k_X5_take) d Q 0 [some a0, some a1, some a2] [] M) : C d 43 [a0, a1, a2] M Q := S.2 d 43 _ M Q (by decide) h
theorem en_X5_gap {C : tC} (S : Snd C) {d : Nat} {M : tM} {Q : tQ} {a0 a1 : tV} (h : Runs C (tabF k_X5_gap) d Q 0 [some a0, some a1] [] M) : C d 44 [a0, a1] M Q := S.2 d 44 _ M Q (by decide) h
theorem en_X5_span {C : tC} (S : Snd C) {d : Nat} {M : tM} {Q : tQ} {a0 a1 : tV} (h : Runs C (tabF k_X5_span) d Q 0 [some a0, some a1] [] M) : C d 45 [a0, a1] M Q := S.2 d 45 _ M Q (by decide) h
theorem en_X5_count {C : tC} (S : Snd C) {d : Nat} {M : tM} {Q : tQ} {a0 a1 a2 a3 a4 : tV} (h : Runs C (tabF k_X5_count) d Q 0 [some a0, some a1, some a2, some a3, some a4, none] [] M) : C d 46 [a0, a1, a2, a3, a4] M Q := S.2 d 46 _ M Q (by decide) h
theorem en_X5_matches {C : tC} (S : Snd C) {d : Nat} {M : tM} {Q : tQ} {a0 a1 a2 a3 a4 a5 : tV} (h : Runs C (tabF k_X5_matches) d Q 0 [some a0, some a1, some a2, some a3, some a4, some a5, none] [] M) : C d 47 [a0, a1, a2, a3, a4, a5] M Q := S.2 d 47 _ M Q (by decide) h
theorem en_X5_match {C : tC} (S : Snd C) {d : Nat} {M : tM} {Q : tQ} {a0 a1 a2 a3 a4 a5 a6 : tV} (h : Runs C (tabF k_X5_match) d Q 0 [some a0, some a1, some a2, some a3, some a4, some a5, some a6, none] [] M) : C d 48 [a0, a1, a2, a3, a4, a5, a6] M Q := S.2 d 48 _ M Q (by decide) h
theorem en_X5_find {C : tC} (S : Snd C) {d : Nat} {M : tM} {Q : tQ} {a0 a1 a2 : tV} (h : Runs C (tabF k_X5_find) d Q 0 [some a0, some a1, some a2, none] [] M) : C d 49 [a0, a1, a2] M Q := S.2 d 49 _ M Q (by decide) h
theorem en_X5_found {C : tC} (S : Snd C) {d : Nat} {M : tM} {Q : tQ} {a0 a1 a2 : tV} (h : Runs C (tabF k_X5_found) d Q 0 [some a0, some a1, some a2] [] M) : C d 50 [a0, a1, a2] M Q := S.2 d 50 _ M Q (by decide) h
theorem en_X5_closed {C : tC} (S : Snd C) {d : Nat} {M : tM} {Q : tQ} {a0 a1 : tV} (h : Runs C (tabF k_X5_closed) d Q 0 [some a0, some a1, none, none] [] M) : C d 51 [a0, a1] M Q := S.2 d 51 _ M Q (by decide) h
theorem en_X5_best {C : tC} (S : Snd C) {d : Nat} {M : tM} {Q : tQ} {a0 : tV} (h : Runs C (tabF k_X5_best) d Q 0 [some a0, none, none, none, none, none, none, none, none, none] [] M) : C d 52 [a0] M Q := S.2 d 52 _ M Q (by decide) h
theorem en_X5_expected {C : tC} (S : Snd C) {d : Nat} {M : tM} {Q : tQ} {a0 a1 a2 : tV} (h : Runs C (tabF k_X5_expected) d Q 0 [some a0, some a1, some a2, none, none, none] [] M) : C d 53 [a0, a1, a2] M Q := S.2 d 53 _ M Q (by decide) h
theorem en_X5_share {C : tC} (S : Snd C) {d : Nat} {M : tM} {Q : tQ} {a0 a1 a2 a3 a4 : tV} (h : Runs C (tabF k_X5_share) d Q 0 [some a0, some a1, some a2, some a3, some a4, none, none] [] M) : C d 54 [a0, a1, a2, a3, a4] M Q := S.2 d 54 _ M Q (by decide) h
theorem en_X5_lacking {C : tC} (S : Snd C) {d : Nat} {M : tM} {Q : tQ} {a0 a1 a2 a3 a4 a5 : tV} (h : Runs C (tabF k_X5_lacking) d Q 0 [some a0, some a1, some a2, some a3, some a4, some a5, none, none, none] [] M) : C d 55 [a0, a1, a2, a3, a4, a5] M Q := S.2 d 55 _ M Q (by decide) h
theorem en_X5_sure {C : tC} (S : Snd C) {d : Nat} {M : tM} {Q : tQ} {a0 a1 a2 a3 a4 a5 : tV} (h : Runs C (tabF k_X5_sure) d Q 0 [some a0, some a1, some a2, some a3, some a4, some a5, none] [] M) : C d 56 [a0, a1, a2, a3, a4, a5] M Q := S.2 d 56 _ M Q (by decide) h
theorem en_X5_look {C : tC} (S : Snd C) {d : Nat} {M : tM} {Q : tQ} {a0 a1 a2 a3 : tV} (h : Runs C (tabF k_X5_look) d Q 0 [some a0, some a1, some a2, some a3] [] M) : C d 57 [a0, a1, a2, a3] M Q := S.2 d 57 _ M Q (by decide) h
theorem en_X5_isUnder {C : tC} (S : Snd C) {d : Nat} {M : tM} {Q : tQ} {a0 a1 a2 : tV} (h : Runs C (tabF k_X5_isUnder) d Q 0 [some a0, some a1, some a2] [] M) : C d 58 [a0, a1, a2] M Q := S.2 d 58 _ M Q (by decide) h
theorem en_X5_tell {C : tC} (S : Snd C) {d : Nat} {M : tM} {Q : tQ} {a0 a1 : tV} (h : Runs C (tabF k_X5_tell) d Q 0 [some a0, some a1] [] M) : C d 59 [a0, a1] M Q := S.2 d 59 _ M Q (by decide) h
theorem en_X5_isKind {C : tC} (S : Snd C) {d : Nat} {M : tM} {Q : tQ} {a0 : tV} (h : Runs C (tabF k_X5_isKind) d Q 0 [some a0] [] M) : C d 60 [a0] M Q := S.2 d 60 _ M Q (by decide) h
theorem en_X5_isTick {C : tC} (S : Snd C) {d : Nat} {M : tM} {Q : tQ} {a0 : tV} (h : Runs C (tabF k_X5_isTick) d Q 0 [some a0] [] M) : C d 61 [a0] M Q := S.2 d 61 _ M Q (by decide) h
theorem en_X5_isAmong {C : tC} (S : Snd C) {d : Nat} {M : tM} {Q : tQ} {a0 a1 : tV} (h : Runs C (tabF k_X5_isAmong) d Q 0 [some a0, some a1] [] M) : C d 62 [a0, a1] M Q := S.2 d 62 _ M Q (by decide) h
theorem en_X5_isRow {C : tC} (S : Snd C) {d : Nat} {M : tM} {Q : tQ} {a0 a1 : tV} (h : Runs C (tabF k_X5_isRow) d Q 0 [some a0, some a1] [] M) : C d 63 [a0, a1] M Q := S.2 d 63 _ M Q (by decide) h
theorem en_X5_lookAtRow {C : tC} (S : Snd C) {d : Nat} {M : tM} {Q : tQ} {a0 a1 : tV} (h : Runs C (tabF k_X5_lookAtRow) d Q 0 [some a0, some a1] [] M) : C d 64 [a0, a1] M Q := S.2 d 64 _ M Q (by decide) h
theorem en_X5_happeningsInAll {C : tC} (S : Snd C) {d : Nat} {M : tM} {Q : tQ} {a0 : tV} (h : Runs C (tabF k_X5_happeningsInAll) d Q 0 [some a0, none, none] [] M) : C d 65 [a0] M Q := S.2 d 65 _ M Q (by decide) h
theorem en_X5_rowsInOf {C : tC} (S : Snd C) {d : Nat} {M : tM} {Q : tQ} {a0 a1 : tV} (h : Runs C (tabF k_X5_rowsInOf) d Q 0 [some a0, some a1, none, none] [] M) : C d 66 [a0, a1] M Q := S.2 d 66 _ M Q (by decide) h
theorem en_X5_rowsIn {C : tC} (S : Snd C) {d : Nat} {M : tM} {Q : tQ} {a0 : tV} (h : Runs C (tabF k_X5_rowsIn) d Q 0 [some a0] [] M) : C d 67 [a0] M Q := S.2 d 67 _ M Q (by decide) h
theorem en_X5_rowsWith {C : tC} (S : Snd C) {d : Nat} {M : tM} {Q : tQ} {a0 a1 : tV} (h : Runs C (tabF k_X5_rowsWith) d Q 0 [some a0, some a1, none, none] [] M) : C d 68 [a0, a1] M Q := S.2 d 68 _ M Q (by decide) h
theorem en_X5_countOf {C : tC} (S : Snd C) {d : Nat} {M : tM} {Q : tQ} {a0 a1 : tV} (h : Runs C (tabF k_X5_countOf) d Q 0 [some a0, some a1] [] M) : C d 69 [a0, a1] M Q := S.2 d 69 _ M Q (by decide) h
theorem en_X5_rowsLacking {C : tC} (S : Snd C) {d : Nat} {M : tM} {Q : tQ} {a0 a1 : tV} (h : Runs C (tabF k_X5_rowsLacking) d Q 0 [some a0, some a1] [] M) : C d 70 [a0, a1] M Q := S.2 d 70 _ M Q (by decide) h
theorem en_X5_gatherRowsBehind {C : tC} (S : Snd C) {d : Nat} {M : tM} {Q : tQ} {a0 a1 a2 : tV} (h : Runs C (tabF k_X5_gatherRowsBehind) d Q 0 [some a0, some a1, some a2, none, none, none] [] M) : C d 71 [a0, a1, a2] M Q := S.2 d 71 _ M Q (by decide) h
theorem en_X5_findLonger {C : tC} (S : Snd C) {d : Nat} {M : tM} {Q : tQ} {a0 a1 a2 a3 : tV} (h : Runs C (tabF k_X5_findLonger) d Q 0 [some a0, some a1, some a2, some a3, none] [] M) : C d 72 [a0, a1, a2, a3] M Q := S.2 d 72 _ M Q (by decide) h
theorem en_X5_longerSays {C : tC} (S : Snd C) {d : Nat} {M : tM} {Q : tQ} {a0 a1 a2 : tV} (h : Runs C (tabF k_X5_longerSays) d Q 0 [some a0, some a1, some a2, none, none, none] [] M) : C d 73 [a0, a1, a2] M Q := S.2 d 73 _ M Q (by decide) h
theorem en_X5_narrowerSays {C : tC} (S : Snd C) {d : Nat} {M : tM} {Q : tQ} {a0 a1 a2 : tV} (h : Runs C (tabF k_X5_narrowerSays) d Q 0 [some a0, some a1, some a2, none, none, none, none] [] M) : C d 74 [a0, a1, a2] M Q := S.2 d 74 _ M Q (by decide) h
theorem en_X5_howFarApart {C : tC} (S : Snd C) {d : Nat} {M : tM} {Q : tQ} {a0 a1 a2 : tV} (h : Runs C (tabF k_X5_howFarApart) d Q 0 [some a0, some a1, some a2, none, none] [] M) : C d 75 [a0, a1, a2] M Q := S.2 d 75 _ M Q (by decide) h
theorem en_X5_chanceAhead {C : tC} (S : Snd C) {d : Nat} {M : tM} {Q : tQ} {a0 a1 : tV} (h : Runs C (tabF k_X5_chanceAhead) d Q 0 [some a0, some a1, none, none] [] M) : C d 76 [a0, a1] M Q := S.2 d 76 _ M Q (by decide) h
theorem en_X5_waysToChoose {C : tC} (S : Snd C) {d : Nat} {M : tM} {Q : tQ} {a0 a1 : tV} (h : Runs C (tabF k_X5_waysToChoose) d Q 0 [some a0, some a1, none, none, none] [] M) : C d 77 [a0, a1] M Q := S.2 d 77 _ M Q (by decide) h
theorem en_X6_lies {C : tC} (S : Snd C) {d : Nat} {M : tM} {Q : tQ} {a0 a1 a2 : tV} (h : Runs C (tabF k_X6_lies) d Q 0 [some a0, some a1, some a2] [] M) : C d 78 [a0, a1, a2] M Q := S.2 d 78 _ M Q (by decide) h
theorem en_X6_isKind {C : tC} (S : Snd C) {d : Nat} {M : tM} {Q : tQ} {a0 : tV} (h : Runs C (tabF k_X6_isKind) d Q 0 [some a0] [] M) : C d 79 [a0] M Q := S.2 d 79 _ M Q (by decide) h
theorem en_X6_isRow {C : tC} (S : Snd C) {d : Nat} {M : tM} {Q : tQ} {a0 a1 : tV} (h : Runs C (tabF k_X6_isRow) d Q 0 [some a0, some a1] [] M) : C d 80 [a0, a1] M Q := S.2 d 80 _ M Q (by decide) h
theorem en_X6_isOf {C : tC} (S : Snd C) {d : Nat} {M : tM} {Q : tQ} {a0 a1 a2 : tV} (h : Runs C (tabF k_X6_isOf) d Q 0 [some a0, some a1, some a2, none] [] M) : C d 81 [a0, a1, a2] M Q := S.2 d 81 _ M Q (by decide) h
theorem en_X6_under {C : tC} (S : Snd C) {d : Nat} {M : tM} {Q : tQ} {a0 a1 a2 : tV} (h : Runs C (tabF k_X6_under) d Q 0 [some a0, some a1, some a2] [] M) : C d 82 [a0, a1, a2] M Q := S.2 d 82 _ M Q (by decide) h
theorem en_X6_isUnder {C : tC} (S : Snd C) {d : Nat} {M : tM} {Q : tQ} {a0 a1 a2 : tV} (h : Runs C (tabF k_X6_isUnder) d Q 0 [some a0, some a1, some a2] [] M) : C d 83 [a0, a1, a2] M Q := S.2 d 83 _ M Q (by decide) h
theorem en_X6_row {C : tC} (S : Snd C) {d : Nat} {M : tM} {Q : tQ} {a0 a1 : tV} (h : Runs C (tabF k_X6_row) d Q 0 [some a0, some a1] [] M) : C d 84 [a0, a1] M Q := S.2 d 84 _ M Q (by decide) h
theorem en_X6_put {C : tC} (S : Snd C) {d : Nat} {M : tM} {Q : tQ} {a0 a1 a2 a3 : tV} (h : Runs C (tabF k_X6_put) d Q 0 [some a0, some a1, some a2, some a3, none] [] M) : C d 85 [a0, a1, a2, a3] M Q := S.2 d 85 _ M Q (by decide) h
theorem en_X6_take {C : tC} (S : Snd C) {d : Nat} {M : tM} {Q : tQ} {a0 a1 a2 : tV} (h : Runs C (tabF k_X6_take) d Q 0 [some a0, some a1, some a2] [] M) : C d 86 [a0, a1, a2] M Q := S.2 d 86 _ M Q (by decide) h
theorem en_X6_gap {C : tC} (S : Snd C) {d : Nat} {M : tM} {Q : tQ} {a0 a1 : tV} (h : Runs C (tabF k_X6_gap) d Q 0 [some a0, some a1] [] M) : C d 87 [a0, a1] M Q := S.2 d 87 _ M Q (by decide) h
theorem en_X6_span {C : tC} (S : Snd C) {d : Nat} {M : tM} {Q : tQ} {a0 a1 : tV} (h : Runs C (tabF k_X6_span) d Q 0 [some a0, some a1] [] M) : C d 88 [a0, a1] M Q := S.2 d 88 _ M Q (by decide) h
theorem en_X6_takes {C : tC} (S : Snd C) {d : Nat} {M : tM} {Q : tQ} {a0 a1 a2 a3 a4 : tV} (h : Runs C (tabF k_X6_takes) d Q 0 [some a0, some a1, some a2, some a3, some a4, none] [] M) : C d 89 [a0, a1, a2, a3, a4] M Q := S.2 d 89 _ M Q (by decide) h
theorem en_X6_isAt {C : tC} (S : Snd C) {d : Nat} {M : tM} {Q : tQ} {a0 a1 a2 a3 : tV} (h : Runs C (tabF k_X6_isAt) d Q 0 [some a0, some a1, some a2, some a3] [] M) : C d 90 [a0, a1, a2, a3] M Q := S.2 d 90 _ M Q (by decide) h
theorem en_X6_leads {C : tC} (S : Snd C) {d : Nat} {M : tM} {Q : tQ} {a0 a1 a2 a3 : tV} (h : Runs C (tabF k_X6_leads) d Q 0 [some a0, some a1, some a2, some a3] [] M) : C d 91 [a0, a1, a2, a3] M Q := S.2 d 91 _ M Q (by decide) h
theorem en_X6_spans {C : tC} (S : Snd C) {d : Nat} {M : tM} {Q : tQ} {a0 a1 a2 a3 : tV} (h : Runs C (tabF k_X6_spans) d Q 0 [some a0, some a1, some a2, some a3] [] M) : C d 92 [a0, a1, a2, a3] M Q := S.2 d 92 _ M Q (by decide) h
theorem en_X6_maps {C : tC} (S : Snd C) {d : Nat} {M : tM} {Q : tQ} {a0 a1 : tV} (h : Runs C (tabF k_X6_maps) d Q 0 [some a0, some a1, none, none, none, none] [] M) : C d 93 [a0, a1] M Q := S.2 d 93 _ M Q (by decide) h
theorem en_X6_mapsAll {C : tC} (S : Snd C) {d : Nat} {M : tM} {Q : tQ} {a0 : tV} (h : Runs C (tabF k_X6_mapsAll) d Q 0 [some a0, none] [] M) : C d 94 [a0] M Q := S.2 d 94 _ M Q (by decide) h
theorem en_X6_ends {C : tC} (S : Snd C) {d : Nat} {M : tM} {Q : tQ} {a0 a1 a2 a3 : tV} (h : Runs C (tabF k_X6_ends) d Q 0 [some a0, some a1, some a2, some a3, none, none, none, none] [] M) : C d 95 [a0, a1, a2, a3] M Q := S.2 d 95 _ M Q (by decide) h
theorem en_X6_has {C : tC} (S : Snd C) {d : Nat} {M : tM} {Q : tQ} {a0 a1 a2 : tV} (h : Runs C (tabF k_X6_has) d Q 0 [some a0, some a1, some a2, none] [] M) : C d 96 [a0, a1, a2] M Q := S.2 d 96 _ M Q (by decide) h
theorem en_X6_countOf {C : tC} (S : Snd C) {d : Nat} {M : tM} {Q : tQ} {a0 a1 : tV} (h : Runs C (tabF k_X6_countOf) d Q 0 [some a0, some a1, none, none] [] M) : C d 97 [a0, a1] M Q := S.2 d 97 _ M Q (by decide) h
theorem en_X6_count {C : tC} (S : Snd C) {d : Nat} {M : tM} {Q : tQ} {a0 a1 a2 a3 a4 : tV} (h : Runs C (tabF k_X6_count) d Q 0 [some a0, some a1, some a2, some a3, some a4] [] M) : C d 98 [a0, a1, a2, a3, a4] M Q := S.2 d 98 _ M Q (by decide) h
theorem en_X6_next {C : tC} (S : Snd C) {d : Nat} {M : tM} {Q : tQ} {a0 a1 a2 : tV} (h : Runs C (tabF k_X6_next) d Q 0 [some a0, some a1, some a2, none] [] M) : C d 99 [a0, a1, a2] M Q := S.2 d 99 _ M Q (by decide) h
theorem en_X6_matches {C : tC} (S : Snd C) {d : Nat} {M : tM} {Q : tQ} {a0 a1 a2 a3 a4 a5 : tV} (h : Runs C (tabF k_X6_matches) d Q 0 [some a0, some a1, some a2, some a3, some a4, some a5, none, none, none] [] M) : C d 100 [a0, a1, a2, a3, a4, a5] M Q := S.2 d 100 _ M Q (by decide) h
theorem en_X6_match {C : tC} (S : Snd C) {d : Nat} {M : tM} {Q : tQ} {a0 a1 a2 a3 a4 a5 a6 : tV} (h : Runs C (tabF k_X6_match) d Q 0 [some a0, some a1, some a2, some a3, some a4, some a5, some a6] [] M) : C d 101 [a0, a1, a2, a3, a4, a5, a6] M Q := S.2 d 101 _ M Q (by decide) h
theorem en_X6_isThere {C : tC} (S : Snd C) {d : Nat} {M : tM} {Q : tQ} {a0 a1 : tV} (h : Runs C (tabF k_X6_isThere) d Q 0 [some a0, some a1, none] [] M) : C d 102 [a0, a1] M Q := S.2 d 102 _ M Q (by decide) h
theorem en_X6_keeps {C : tC} (S : Snd C) {d : Nat} {M : tM} {Q : tQ} {a0 a1 a2 : tV} (h : Runs C (tabF k_X6_keeps) d Q 0 [some a0, some a1, some a2, none] [] M) : C d 103 [a0, a1, a2] M Q := S.2 d 103 _ M Q (by decide) h
theorem en_X6_find {C : tC} (S : Snd C) {d : Nat} {M : tM} {Q : tQ} {a0 a1 a2 : tV} (h : Runs C (tabF k_X6_find) d Q 0 [some a0, some a1, some a2, none, none, none, none, none, none, none] [] M) : C d 104 [a0, a1, a2] M Q := S.2 d 104 _ M Q (by decide) h
theorem en_X6_found {C : tC} (S : Snd C) {d : Nat} {M : tM} {Q : tQ} {a0 a1 a2 : tV} (h : Runs C (tabF k_X6_found) d Q 0 [some a0, some a1, some a2] [] M) : C d 105 [a0, a1, a2] M Q := S.2 d 105 _ M Q (by decide) h
theorem en_X6_takesFound {C : tC} (S : Snd C) {d : Nat} {M : tM} {Q : tQ} {a0 a1 : tV} (h : Runs C (tabF k_X6_takesFound) d Q 0 [some a0, some a1] [] M) : C d 106 [a0, a1] M Q := S.2 d 106 _ M Q (by decide) h
theorem en_X6_closed {C : tC} (S : Snd C) {d : Nat} {M : tM} {Q : tQ} {a0 a1 : tV} (h : Runs C (tabF k_X6_closed) d Q 0 [some a0, some a1, none, none, none, none, none, none] [] M) : C d 107 [a0, a1] M Q := S.2 d 107 _ M Q (by decide) h
theorem en_X6_inHeap {C : tC} (S : Snd C) {d : Nat} {M : tM} {Q : tQ} {a0 a1 a2 : tV} (h : Runs C (tabF k_X6_inHeap) d Q 0 [some a0, some a1, some a2, none, none] [] M) : C d 108 [a0, a1, a2] M Q := S.2 d 108 _ M Q (by decide) h
theorem en_X6_best {C : tC} (S : Snd C) {d : Nat} {M : tM} {Q : tQ} {a0 : tV} (h : Runs C (tabF k_X6_best) d Q 0 [some a0, none, none, none, none, none] [] M) : C d 109 [a0] M Q := S.2 d 109 _ M Q (by decide) h
theorem en_X6_those {C : tC} (S : Snd C) {d : Nat} {M : tM} {Q : tQ} {a0 a1 a2 : tV} (h : Runs C (tabF k_X6_those) d Q 0 [some a0, some a1, some a2, none, none] [] M) : C d 110 [a0, a1, a2] M Q := S.2 d 110 _ M Q (by decide) h
theorem en_X6_ways {C : tC} (S : Snd C) {d : Nat} {M : tM} {Q : tQ} {a0 a1 : tV} (h : Runs C (tabF k_X6_ways) d Q 0 [some a0, some a1, none, none, none] [] M) : C d 111 [a0, a1] M Q := S.2 d 111 _ M Q (by decide) h
theorem en_X6_expected {C : tC} (S : Snd C) {d : Nat} {M : tM} {Q : tQ} {a0 a1 a2 : tV} (h : Runs C (tabF k_X6_expected) d Q 0 [some a0, some a1, some a2, none, none, none, none, none] [] M) : C d 112 [a0, a1, a2] M Q := S.2 d 112 _ M Q (by decide) h
theorem en_X6_share {C : tC} (S : Snd C) {d : Nat} {M : tM} {Q : tQ} {a0 a1 a2 a3 a4 : tV} (h : Runs C (tabF k_X6_share) d Q 0 [some a0, some a1, some a2, some a3, some a4, none] [] M) : C d 113 [a0, a1, a2, a3, a4] M Q := S.2 d 113 _ M Q (by decide) h
theorem en_X6_isLacking {C : tC} (S : Snd C) {d : Nat} {M : tM} {Q : tQ} {a0 a1 : tV} (h : Runs C (tabF k_X6_isLacking) d Q 0 [some a0, some a1] [] M) : C d 114 [a0, a1] M Q := S.2 d 114 _ M Q (by decide) h
theorem en_X6_lacking {C : tC} (S : Snd C) {d : Nat} {M : tM} {Q : tQ} {a0 a1 a2 a3 a4 a5 : tV} (h : Runs C (tabF k_X6_lacking) d Q 0 [some a0, some a1, some a2, some a3, some a4, some a5, none, none] [] M) : C d 115 [a0, a1, a2, a3, a4, a5] M Q := S.2 d 115 _ M Q (by decide) h
theorem en_X6_sure {C : tC} (S : Snd C) {d : Nat} {M : tM} {Q : tQ} {a0 a1 a2 a3 a4 a5 : tV} (h : Runs C (tabF k_X6_sure) d Q 0 [some a0, some a1, some a2, some a3, some a4, some a5, none, none, none] [] M) : C d 116 [a0, a1, a2, a3, a4, a5] M Q := S.2 d 116 _ M Q (by decide) h
theorem en_X6_look {C : tC} (S : Snd C) {d : Nat} {M : tM} {Q : tQ} {a0 a1 a2 a3 : tV} (h : Runs C (tabF k_X6_look) d Q 0 [some a0, some a1, some a2, some a3] [] M) : C d 117 [a0, a1, a2, a3] M Q := S.2 d 117 _ M Q (by decide) h
theorem en_X6_tell {C : tC} (S : Snd C) {d : Nat} {M : tM} {Q : tQ} {a0 a1 : tV} (h : Runs C (tabF k_X6_tell) d Q 0 [some a0, some a1, none, none] [] M) : C d 118 [a0, a1] M Q := S.2 d 118 _ M Q (by decide) h
theorem en_J6_bitCount_0f7a4 {C : tC} (S : Snd C) {d : Nat} {M : tM} {Q : tQ} {a0 : tV} (h : Runs C (tabF k_J6_bitCount_0f7a4) d Q 0 [some a0] [] M) : C d 119 [a0] M Q := S.2 d 119 _ M Q (by decide) h

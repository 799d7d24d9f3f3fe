/-! Integer.bitCount -/
def popc (x : Nat) (n : Nat) : Int := sumI (fun r => if x.testBit r then 1 else 0) n
theorem land_split {a b m n : Nat} (ha : a < 256) (hm : m < 256) : (a + 256 * b) &&& (m + 256 * n) = (a &&& m) + 256 * (b &&& n) := by
  have h1 : ∀ x y : Nat, x < 256 → ∀ j, (x + 256 * y).testBit j = if j < 8 then x.testBit j else y.testBit (j - 8) := by
    intro x y hx j
    have := Nat.testBit_two_pow_mul_add y (i := 8) (b := x) hx j
    rw [show (2 : Nat) ^ 8 = 256 from rfl, Nat.add_comm] at this
    exact this
  apply Nat.eq_of_testBit_eq
  intro j
  rw [Nat.testBit_and, h1 a b ha, h1 m n hm, h1 (a &&& m) (b &&& n) (Nat.lt_of_le_of_lt Nat.and_le_left ha)]
  split
  · rw [Nat.testBit_and]
  · rw [Nat.testBit_and]
def pb1 (a : Nat) : Nat := a - (a / 2 &&& 85)
def pb2 (y : Nat) : Nat := (y &&& 51) + (y / 4 &&& 51)
def pb3 (u : Nat) : Nat := (u + u / 16) &&& 15
def pbB (a : Nat) : Nat := (if a.testBit 0 then 1 else 0) + (if a.testBit 1 then 1 else 0) + (if a.testBit 2 then 1 else 0) + (if a.testBit 3 then 1 else 0) + (if a.testBit 4 then 1 else 0) + (if a.testBit 5 then 1 else 0) + (if a.testBit 6 then 1 else 0) + (if a.testBit 7 then 1 else 0)
theorem pb_1 : ∀ a : Nat, a < 256 → ∀ e : Nat, e < 2 → ((a / 2 + 128 * e) &&& 85) = (a / 2 &&& 85) ∧ (a / 2 &&& 85) ≤ a ∧ pb1 a < 256 := by decide +kernel
theorem pb_2 : ∀ y : Nat, y < 256 → ∀ e : Nat, e < 4 → ((y / 4 + 64 * e) &&& 51) = (y / 4 &&& 51) := by decide +kernel
theorem pb_3 : ∀ a : Nat, a < 256 → pb2 (pb1 a) ≤ 68 ∧ pb2 (pb1 a) % 16 ≤ 4 ∧ pb3 (pb2 (pb1 a)) = pbB a ∧ pbB a ≤ 8 := by decide +kernel
theorem pb_4 : ∀ u : Nat, u < 69 → ∀ e : Nat, e < 5 → ((u + u / 16 + 16 * e) &&& 15) = pb3 u ∧ u + u / 16 + 16 * e < 256 := by decide +kernel
theorem pb_fin : ∀ a : Nat, a < 9 → ∀ b : Nat, b < 9 → ∀ c : Nat, c < 9 → ((a + 256 * (b + 256 * c)) + (a + 256 * (b + 256 * c)) / 256 + ((a + 256 * (b + 256 * c)) + (a + 256 * (b + 256 * c)) / 256) / 65536) % 64 = a + b + c := by decide +kernel
/-- the steps of the trick on 24 bits -/
theorem pb_all {x : Nat} (hx : x < 16777216) : ∃ i1 i2 i3 : Nat, i1 = x - (x / 2 &&& 1431655765) ∧ (x / 2 &&& 1431655765) ≤ x ∧ i1 < 16777216 ∧ i2 = (i1 &&& 858993459) + (i1 / 4 &&& 858993459) ∧ i2 < 16777216 ∧ i3 = (i2 + i2 / 16) &&& 252645135 ∧ i2 + i2 / 16 < 16777216 * 16 ∧ i3 < 16777216 ∧ ((i3 + i3 / 256 + (i3 + i3 / 256) / 65536) % 64 : Nat) = pbB (x % 256) + pbB (x / 256 % 256) + pbB (x / 65536) := by
  obtain ⟨a, ha⟩ : ∃ a, a = x % 256 := ⟨_, rfl⟩
  obtain ⟨b, hb⟩ : ∃ a, a = x / 256 % 256 := ⟨_, rfl⟩
  obtain ⟨c, hc⟩ : ∃ a, a = x / 65536 := ⟨_, rfl⟩
  rw [← ha, ← hb, ← hc]
  have hxe : x = a + 256 * (b + 256 * c) := by omega
  have a1 : a < 256 := by omega
  have b1 : b < 256 := by omega
  have c1 : c < 256 := by omega
  have h1 : (x / 2 &&& 1431655765) = (a / 2 &&& 85) + 256 * ((b / 2 &&& 85) + 256 * (c / 2 &&& 85)) := by
    rw [show x / 2 = (a / 2 + 128 * (b % 2)) + 256 * ((b / 2 + 128 * (c % 2)) + 256 * (c / 2 + 256 * 0)) by omega, show 1431655765 = 85 + 256 * (85 + 256 * (85 + 256 * 85)) from rfl]
    rw [land_split (by omega) (by omega), land_split (by omega) (by omega), land_split (by omega) (by omega), (pb_1 a a1 (b % 2) (by omega)).1, (pb_1 b b1 (c % 2) (by omega)).1]
    simp
  have p1 := (pb_1 a a1 0 (by omega)).2
  have p2 := (pb_1 b b1 0 (by omega)).2
  have p3 := (pb_1 c c1 0 (by omega)).2
  have h2 : x - (x / 2 &&& 1431655765) = pb1 a + 256 * (pb1 b + 256 * pb1 c) := by
    rw [h1]
    unfold pb1
    omega
  obtain ⟨u, hu⟩ : ∃ u, u = pb1 a := ⟨_, rfl⟩
  obtain ⟨v, hv⟩ : ∃ u, u = pb1 b := ⟨_, rfl⟩
  obtain ⟨w, hw⟩ : ∃ u, u = pb1 c := ⟨_, rfl⟩
  rw [← hu] at h2 p1
  rw [← hv] at h2 p2
  rw [← hw] at h2 p3
  have h3 : ((u + 256 * (v + 256 * w)) &&& 858993459) + ((u + 256 * (v + 256 * w)) / 4 &&& 858993459) = pb2 u + 256 * (pb2 v + 256 * pb2 w) := by
    rw [show (u + 256 * (v + 256 * w)) / 4 = (u / 4 + 64 * (v % 4)) + 256 * ((v / 4 + 64 * (w % 4)) + 256 * (w / 4 + 256 * 0)) by omega, show 858993459 = 51 + 256 * (51 + 256 * (51 + 256 * 51)) from rfl]
    rw [land_split (a := u / 4 + 64 * (v % 4)) (by omega) (by omega), land_split (a := v / 4 + 64 * (w % 4)) (by omega) (by omega), land_split (a := w / 4) (by omega) (by omega), (pb_2 u (by omega) (v % 4) (by omega)), (pb_2 v (by omega) (w % 4) (by omega))]
    rw [show u + 256 * (v + 256 * w) = u + 256 * (v + 256 * (w + 256 * 0)) by omega, land_split (a := u) (by omega) (by omega), land_split (a := v) (by omega) (by omega), land_split (a := w) (by omega) (by omega)]
    unfold pb2
    simp only [Nat.zero_and]
    omega
  have q1 := pb_3 a a1
  have q2 := pb_3 b b1
  have q3 := pb_3 c c1
  rw [← hu] at q1
  rw [← hv] at q2
  rw [← hw] at q3
  obtain ⟨r, hr⟩ : ∃ u2, u2 = pb2 u := ⟨_, rfl⟩
  obtain ⟨s, hs⟩ : ∃ u2, u2 = pb2 v := ⟨_, rfl⟩
  obtain ⟨t, ht⟩ : ∃ u2, u2 = pb2 w := ⟨_, rfl⟩
  rw [← hr] at h3 q1
  rw [← hs] at h3 q2
  rw [← ht] at h3 q3
  have h4 : ((r + 256 * (s + 256 * t)) + (r + 256 * (s + 256 * t)) / 16) &&& 252645135 = pb3 r + 256 * (pb3 s + 256 * pb3 t) := by
    rw [show (r + 256 * (s + 256 * t)) + (r + 256 * (s + 256 * t)) / 16 = (r + r / 16 + 16 * (s % 16)) + 256 * ((s + s / 16 + 16 * (t % 16)) + 256 * ((t + t / 16 + 16 * 0) + 256 * 0)) by omega, show 252645135 = 15 + 256 * (15 + 256 * (15 + 256 * 15)) from rfl]
    have z1 := pb_4 r (by omega) (s % 16) (by omega)
    have z2 := pb_4 s (by omega) (t % 16) (by omega)
    have z3 := pb_4 t (by omega) 0 (by omega)
    rw [land_split z1.2 (by omega), land_split z2.2 (by omega), land_split z3.2 (by omega), z1.1, z2.1, z3.1]
    simp
  refine ⟨_, _, _, rfl, by rw [h1]; omega, by rw [h2]; omega, rfl, ?_, rfl, ?_, ?_, ?_⟩
  · rw [h2, h3]; omega
  · rw [h2, h3]; omega
  · rw [h2, h3, h4, q1.2.2.1, q2.2.2.1, q3.2.2.1]; omega
  · rw [h2, h3, h4, q1.2.2.1, q2.2.2.1, q3.2.2.1]; exact pb_fin _ (by omega) _ (by omega) _ (by omega)
theorem pb_popc {x : Nat} (hx : x < 16777216) : popc x 24 = ((pbB (x % 256) + pbB (x / 256 % 256) + pbB (x / 65536) : Nat) : Int) := by
  have h1 : ∀ j, j < 8 → (x % 256).testBit j = x.testBit j := by
    intro j hj
    have := Nat.testBit_mod_two_pow x 8 j
    rw [show (2 : Nat) ^ 8 = 256 from rfl] at this
    rw [this]; simp [hj]
  have h2 : ∀ j, j < 8 → (x / 256 % 256).testBit j = x.testBit (8 + j) := by
    intro j hj
    have := Nat.testBit_mod_two_pow (x / 256) 8 j
    rw [show (2 : Nat) ^ 8 = 256 from rfl] at this
    rw [this, show x / 256 = x / 2 ^ 8 from rfl, Nat.testBit_div_two_pow]; simp [hj, Nat.add_comm]
  have h3 : ∀ j, j < 8 → (x / 65536).testBit j = x.testBit (16 + j) := by
    intro j hj
    rw [show x / 65536 = x / 2 ^ 16 from rfl, Nat.testBit_div_two_pow, Nat.add_comm]
  unfold pbB
  rw [h1 0 (by omega), h1 1 (by omega), h1 2 (by omega), h1 3 (by omega), h1 4 (by omega), h1 5 (by omega), h1 6 (by omega), h1 7 (by omega), h2 0 (by omega), h2 1 (by omega), h2 2 (by omega), h2 3 (by omega), h2 4 (by omega), h2 5 (by omega), h2 6 (by omega), h2 7 (by omega), h3 0 (by omega), h3 1 (by omega), h3 2 (by omega), h3 3 (by omega), h3 4 (by omega), h3 5 (by omega), h3 6 (by omega), h3 7 (by omega)]
  unfold popc
  simp only [sumI]
  have cast : ∀ b : Bool, (if b = true then (1 : Int) else 0) = (((if b = true then 1 else 0) : Nat) : Int) := by intro b; cases b <;> rfl
  simp only [cast, Int.natCast_add, Int.zero_add, Int.add_assoc]
section
variable {C : tC} {Q : tQ} {d : Nat} {M : tM}
set_option maxRecDepth 40000 in
set_option maxHeartbeats 4000000 in
theorem c_J6_bitCount (S : Snd C) {x : Nat} (hx : x < 16777216) (k : Q (some (vI (popc x 24))) M) : C d 119 [vI x] M Q := by
  obtain ⟨i1, i2, i3, e1, l1, b1, e2, b2, e3, b3, b4, e5⟩ := pb_all hx
  rw [pb_popc hx, ← e5] at k
  have c1 : bAnd ((x : Int) / 2) 1431655765 = ((x / 2 &&& 1431655765 : Nat) : Int) := by
    rw [show ((x : Int) / 2) = ((x / 2 : Nat) : Int) by omega, show (1431655765 : Int) = ((1431655765 : Nat) : Int) from rfl, bAnd_nat (Or.inl (by omega))]
  have c2 : (x : Int) - ((x / 2 &&& 1431655765 : Nat) : Int) = i1 := by omega
  have c3 : bAnd (i1 : Int) 858993459 = ((i1 &&& 858993459 : Nat) : Int) := by
    rw [show (858993459 : Int) = ((858993459 : Nat) : Int) from rfl, bAnd_nat (Or.inl (by omega))]
  have c4 : bAnd ((i1 : Int) / 4) 858993459 = ((i1 / 4 &&& 858993459 : Nat) : Int) := by
    rw [show ((i1 : Int) / 4) = ((i1 / 4 : Nat) : Int) by omega, show (858993459 : Int) = ((858993459 : Nat) : Int) from rfl, bAnd_nat (Or.inl (by omega))]
  have c5 : ((i1 &&& 858993459 : Nat) : Int) + ((i1 / 4 &&& 858993459 : Nat) : Int) = i2 := by omega
  have c6 : bAnd ((i2 : Int) + (i2 : Int) / 16) 252645135 = (i3 : Int) := by
    rw [show ((i2 : Int) + (i2 : Int) / 16) = ((i2 + i2 / 16 : Nat) : Int) by omega, show (252645135 : Int) = ((252645135 : Nat) : Int) from rfl, bAnd_nat (Or.inr (by omega)), ← e3]
  have c7 : bAnd ((i3 : Int) + (i3 : Int) / 256 + ((i3 : Int) + (i3 : Int) / 256) / 65536) 63 = (((i3 + i3 / 256 + (i3 + i3 / 256) / 65536) % 64 : Nat) : Int) := by
    rw [show ((i3 : Int) + (i3 : Int) / 256 + ((i3 : Int) + (i3 : Int) / 256) / 65536) = ((i3 + i3 / 256 + (i3 + i3 / 256) / 65536 : Nat) : Int) by omega]
    have := bAnd_mask (a := i3 + i3 / 256 + (i3 + i3 / 256) / 65536) (k := 6) (by omega)
    rw [show ((2 : Int) ^ 6 - 1) = 63 from rfl, show ((2 : Nat) ^ 6) = 64 from rfl] at this
    exact this
  refine en_J6_bitCount_0f7a4 S ?_
  refine Runs.go S.1 mo_J6_bitCount_0f7a4 [] 44 ?_
  simp only [e_J6_bitCount_0f7a4_0, e_J6_bitCount_0f7a4_1, e_J6_bitCount_0f7a4_2, e_J6_bitCount_0f7a4_3, e_J6_bitCount_0f7a4_4, e_J6_bitCount_0f7a4_7, e_J6_bitCount_0f7a4_8, e_J6_bitCount_0f7a4_9, e_J6_bitCount_0f7a4_10, e_J6_bitCount_0f7a4_11, e_J6_bitCount_0f7a4_14, e_J6_bitCount_0f7a4_15, e_J6_bitCount_0f7a4_16, e_J6_bitCount_0f7a4_17, e_J6_bitCount_0f7a4_18, e_J6_bitCount_0f7a4_21, e_J6_bitCount_0f7a4_22, e_J6_bitCount_0f7a4_23, e_J6_bitCount_0f7a4_24, e_J6_bitCount_0f7a4_25, e_J6_bitCount_0f7a4_26, e_J6_bitCount_0f7a4_27, e_J6_bitCount_0f7a4_28, e_J6_bitCount_0f7a4_29, e_J6_bitCount_0f7a4_32, e_J6_bitCount_0f7a4_33, e_J6_bitCount_0f7a4_34, e_J6_bitCount_0f7a4_35, e_J6_bitCount_0f7a4_36, e_J6_bitCount_0f7a4_38, e_J6_bitCount_0f7a4_39, e_J6_bitCount_0f7a4_40, e_J6_bitCount_0f7a4_41, e_J6_bitCount_0f7a4_42, e_J6_bitCount_0f7a4_43, e_J6_bitCount_0f7a4_45, e_J6_bitCount_0f7a4_46, e_J6_bitCount_0f7a4_47, e_J6_bitCount_0f7a4_48, e_J6_bitCount_0f7a4_49, e_J6_bitCount_0f7a4_51, e_J6_bitCount_0f7a4_52, c1, c2, c3, c4, c5, c6, c7, f_add, f_and, f_iret, f_loadI, f_push, f_storeI, f_sub, f_ushr, stN, lget, lput, clrL, lputL, lenLe, lenGe, noL, swL, List.elem_cons, List.elem_nil, List.take_succ_cons, List.take_zero, List.take_nil, List.drop_succ_cons, List.drop_zero, List.reverse_cons, List.reverse_nil, List.nil_append, List.cons_append, Option.toList_some, Option.toList_none, Bool.and_true, Bool.or_false, Bool.false_or, Bool.true_or, Bool.and_self, true_and, and_true, Nat.reduceAdd, Nat.reduceBEq, Int.reduceAdd, Int.reduceNeg, Int.reduceLE, Int.reduceLT, Int.reduceSub, Int.reduceMul, Int.reduceToNat, cEq, cNe, cLt, cGe, cGt, cLe, iR, lR, cl_0, cl_1, cl_4, cl_9, cl_86, al_2, al_3, al_5, al_13, al_6, al_7, al_8, al_10, al_11, al_87, al_88, al_90, al_91, al_92, al_93, al_94, al_95, al_96, al_97, al_98, al_99, al_100, ne_eq, not_true_eq_false, not_false_eq_true, upM_eq, upM_ni, upM_nj, upM_24, upM_48, upM_i24, upM_i48, upM_2448, upM_4824, Nat.reduceEqDiff, reduceCtorEq, or_true, true_or, Int.reduceEq, true_implies, false_implies, Int.reducePow, Int.toNat_natCast]
  exact ⟨by omega, by omega, by omega, by omega, by omega, k⟩
end

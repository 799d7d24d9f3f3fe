/-! THE WORLD: the cells of the system, as a function of the small machine's memory; an instruction's row -/
abbrev iN (x : Int) : Int32 := Int32.ofInt x
abbrev lI (x : Int) : Int64 := Int64.ofInt x
def toV (L : Nat → Nat) : tV → Value
  | .inl x => .int (iN x)
  | .inr (.inl i) => .ref (L i)
  | .inr (.inr x) => .long (lI x)
def flds (L : Nat → Nat) (ci i : Nat) (f : Nat → Int) : List Value := match ci with
  | 0 => [.ref (L 10), .ref (L 11), .int (iN (f 2))]
  | 1 => [.ref (L 2), .ref (L 3)]
  | 2 => [.int (iN (f 0)), .int (iN (f 1)), .ref (L 1), .int (iN (f 3)), .ref (L 5), .ref (L 6), .ref (L 7), .ref (L 8)]
  | 3 => [.int (iN (f 0)), .int (iN (f 1)), .ref (L (i + 24)), .ref (L (i + 48)), .int (iN (f 4))]
  | 4 => [.ref (L 1), .ref (L 4), .ref (L 9), .ref (L 12), .ref (L 13), .int (iN (f 5))]
  | _ => [.int (iN (f 0)), .int (iN (f 1)), .int (iN (f 2)), .int (iN (f 3)), .ref (L 87), .ref (L 88), .ref (L 89), .ref (L 90), .ref (L 91), .ref (L 92), .int (iN (f 10)), .ref (L 93), .ref (L 94), .ref (L 95), .int (iN (f 14)), .ref (L 96), .ref (L 97), .ref (L 98), .ref (L 99), .ref (L 100)]
def cE (L : Nat → Nat) (cI cZ cR : ClassId) (i : Nat) (f : Nat → Int) : va_E :=
  if clsOf i = 9 then (if i = 12 then .inl (cR, 24, .inr (.inr (.inr (.inr (fun j => some (L (14 + j))))))) else if i = 89 then .inl (cZ, 24, .inl (fun j => iN (f j))) else .inl (cI, (alen i).toNat, .inl (fun j => iN (f j))))
  else .inr (clsOf i, flds L (clsOf i) i f)
def wW (L : Nat → Nat) (cI cZ cR : ClassId) (M : tM) : va_W := (List.range 101).map (fun i => (L i, cE L cI cZ cR i (M i)))
abbrev tyL (cI cZ cR : ClassId) : List (ClassId × FieldType) := [(cI, .int), (cZ, .boolean), (cR, .object "RowFinder$Row")]
abbrev vwCl : List vw_C := [(RX0, TX0, 3), (RX1, TX1, 2), (RX2, TX2, 8), (RX4, TX4, 5), (RX5, TX5, 6), (RX6, TX6, 20)]
def TB : List Cond := lw_tbl.filter goodWord
theorem TB.mem {w : Cond} (h : w ∈ lw_tbl) (g : goodWord w = true) : w ∈ TB := List.mem_filter.mpr ⟨h, g⟩
theorem TB.good {ws : List Cond} (h : ∀ w ∈ ws, w ∈ TB) : GoodIn TB ws := fun w hw => ⟨h w hw, good_of_word (List.mem_filter.mp (h w hw)).2⟩
abbrev AL (L : Nat → Nat) : Nat → Prop := fun q => ∃ i, i < 101 ∧ L i = q
def iL (L : Nat → Nat) : Prop := ∀ i j, i < 101 → j < 101 → L i = L j → i = j
/-! pure rows -/
theorem wW.at {L : Nat → Nat} {cI cZ cR : ClassId} {M : tM} {i : Nat} (h : i < 101) : (wW L cI cZ cR M)[i]? = some (L i, cE L cI cZ cR i (M i)) := by
  unfold wW
  rw [List.getElem?_map, List.getElem?_range h]
  rfl
theorem wW.len {L : Nat → Nat} {cI cZ cR : ClassId} {M : tM} : (wW L cI cZ cR M).length = 101 := by
  unfold wW
  rw [List.length_map, List.length_range]
theorem wW.of {L : Nat → Nat} {cI cZ cR : ClassId} {M : tM} {k : Nat} {q : Nat × va_E} (h : (wW L cI cZ cR M)[k]? = some q) : k < 101 ∧ q = (L k, cE L cI cZ cR k (M k)) := by
  have h1 : k < 101 := by
    have := (List.getElem?_eq_some_iff.mp h).1
    rwa [wW.len] at this
  rw [wW.at h1] at h
  exact ⟨h1, (Option.some.inj h).symm⟩
theorem wW.D {L : Nat → Nat} {cI cZ cR : ClassId} {M : tM} {A : Nat → Prop} (hi : iL L) (hA : ∀ i, i < 101 → A (L i)) : va_D A (wW L cI cZ cR M) := by
  refine ⟨fun i j x y hx hy hxy => ?_, fun k q hk => ?_⟩
  · obtain ⟨h1, rfl⟩ := wW.of hx
    obtain ⟨h2, rfl⟩ := wW.of hy
    exact hi i j h1 h2 hxy
  · obtain ⟨h1, rfl⟩ := wW.of hk
    exact hA k h1
theorem wW.set {L : Nat → Nat} {cI cZ cR : ClassId} {M M2 : tM} {i : Nat} (h : i < 101) (ho : ∀ a, a ≠ i → M2 a = M a) : (wW L cI cZ cR M).set i (L i, cE L cI cZ cR i (M2 i)) = wW L cI cZ cR M2 := by
  apply List.ext_getElem?
  intro k
  by_cases hk : k = i
  · subst hk
    rw [List.getElem?_set_self (by rw [wW.len]; exact h), wW.at h]
  · rw [List.getElem?_set_ne (Ne.symm hk)]
    by_cases h2 : k < 101
    · rw [wW.at h2, wW.at h2, ho k hk]
    · rw [List.getElem?_eq_none (by rw [wW.len]; omega), List.getElem?_eq_none (by rw [wW.len]; omega)]
theorem upM_o {M : tM} {i j : Nat} {x : Int} {a : Nat} (h : a ≠ i) : upM M i j x a = M a := by
  funext b
  simp [upM, h]
theorem upM_i {M : tM} {i j : Nat} {x : Int} {b : Nat} : upM M i j x i b = if b = j then x else M i b := by
  simp [upM]
theorem clsOf_lt {i ci : Nat} (h : clsOf i = ci) (h9 : ci ≠ 9) : i < 101 := by
  refine Nat.lt_of_not_le fun hh => h9 (h ▸ ?_)
  unfold clsOf
  repeat (first | rw [if_neg (by omega)] | rfl)
theorem clsOf_cE {L : Nat → Nat} {cI cZ cR : ClassId} {i ci : Nat} {f : Nat → Int} (h : clsOf i = ci) (h9 : ci ≠ 9) : cE L cI cZ cR i f = .inr (ci, flds L ci i f) := by
  unfold cE
  rw [if_neg (by rw [h]; exact h9), h]
theorem alen_small : ∀ i, i < 101 → 0 < alen i → clsOf i = 9 ∧ i ≠ 12 ∧ i ≠ 89 ∧ alen i ≤ 8000 := by decide +kernel
theorem alen_big {i : Nat} (h : 101 ≤ i) : alen i = 0 := by
  unfold alen
  repeat (first | rw [if_neg (by omega)] | rfl)
theorem alen_ok {i : Nat} (h : 0 < alen i) : i < 101 ∧ clsOf i = 9 ∧ i ≠ 12 ∧ i ≠ 89 ∧ alen i ≤ 8000 := by
  have h1 : i < 101 := Nat.lt_of_not_le fun hh => by rw [alen_big hh] at h; omega
  exact ⟨h1, alen_small i h1 h⟩
theorem alen_cE {L : Nat → Nat} {cI cZ cR : ClassId} {i : Nat} {f : Nat → Int} (h : 0 < alen i) : cE L cI cZ cR i f = .inl (cI, (alen i).toNat, .inl (fun j => iN (f j))) := by
  obtain ⟨-, h1, h2, h3, -⟩ := alen_ok h
  unfold cE
  rw [if_pos h1, if_neg h2, if_neg h3]
theorem iN_toInt {x : Int} (h : iR x) : (iN x).toInt = x := Int32.toInt_ofInt_of_le h.1 h.2
theorem lI_toInt {x : Int} (h : lR x) : (lI x).toInt = x := Int64.toInt_ofInt_of_le h.1 h.2
theorem iN_lt {x y : Int} (hx : iR x) (hy : iR y) : iN x < iN y ↔ x < y := by rw [Int32.lt_iff_toInt_lt, iN_toInt hx, iN_toInt hy]
theorem iN_le {x y : Int} (hx : iR x) (hy : iR y) : iN x ≤ iN y ↔ x ≤ y := by rw [Int32.le_iff_toInt_le, iN_toInt hx, iN_toInt hy]
theorem iN_eq {x y : Int} (hx : iR x) (hy : iR y) : iN x = iN y ↔ x = y := by rw [← Int32.toInt_inj, iN_toInt hx, iN_toInt hy]
theorem iN_0 : iN 0 = 0 := rfl
theorem iR_0 : iR 0 := by unfold iR; omega
theorem iN_in {x : Int} {n : Nat} (h0 : 0 ≤ x) (h : x < n) (hn : n ≤ 100000) : vp_in (iN x) n ∧ (iN x).toNatClampNeg = x.toNat := by
  have hr : iR x := ⟨by omega, by omega⟩
  refine ⟨vp_in_iff.mpr ?_, ?_⟩
  · rw [iN_toInt hr]
    exact ⟨h0, h⟩
  · show (iN x).toInt.toNat = _
    rw [iN_toInt hr]
theorem iN_of (x : Int32) : iN x.toInt = x := Int32.ofInt_toInt x
theorem iN_rt (x : Int32) : iR x.toInt := ⟨by have := x.le_toInt; omega, by have := x.toInt_lt; omega⟩
theorem bAnd_iN (x y : Int) : iN (bAnd x y) = iN x &&& iN y := iN_of _
theorem bOr_iN (x y : Int) : iN (bOr x y) = iN x ||| iN y := iN_of _
theorem bXor_iN (x y : Int) : iN (bXor x y) = iN x ^^^ iN y := iN_of _
theorem nI_iN (n : Nat) : nI n = iN (n : Int) := by
  unfold nI
  exact (Int32.ofInt_eq_ofNat).symm
theorem sh_cnt : ∀ n : Nat, n < 32 → ((iN (n : Int) &&& 31).toBitVec.smod 32).toNat = n := by decide +kernel
theorem ush_cnt : ∀ n : Nat, n < 32 → (((iN (n : Int)).toUInt32 &&& Int32.toUInt32 31).toBitVec % 32).toNat = n := by decide +kernel
theorem iN_shl {x y : Int} (h : 0 ≤ y ∧ y < 32) : iN x <<< (iN y &&& 31) = iN (x * 2 ^ y.toNat) := by
  obtain ⟨n, rfl⟩ : ∃ n : Nat, y = n := ⟨y.toNat, by omega⟩
  have hn : n < 32 := by omega
  have e := pk_shl (iN x) (iN (n : Int) &&& 31) n (sh_cnt n hn)
  rw [Int.toNat_natCast]
  show _ = Int32.ofInt (x * 2 ^ n)
  rw [Int32.ofInt_mul]
  apply Int32.toBitVec_inj.mp
  apply BitVec.eq_of_toNat_eq
  rw [e, Int32.toBitVec_mul, BitVec.toNat_mul]
  have e2 : (iN ((2 : Int) ^ n)).toBitVec.toNat = 2 ^ n % 2 ^ 32 := by
    have : ((2 : Int) ^ n) = ((2 ^ n : Nat) : Int) := by rw [Int.natCast_pow]; rfl
    rw [this, ← nI_iN]
    show (BitVec.ofNat 32 (2 ^ n)).toNat = _
    rw [BitVec.toNat_ofNat]
  rw [e2, Nat.mul_mod_mod]
theorem iN_shr {x y : Int} (hx : iR x) (h : 0 ≤ y ∧ y < 32) : iN x >>> (iN y &&& 31) = iN (x / 2 ^ y.toNat) := by
  obtain ⟨n, rfl⟩ : ∃ n : Nat, y = n := ⟨y.toNat, by omega⟩
  have hn : n < 32 := by omega
  have e := pk_shr (iN x) (iN (n : Int) &&& 31) n (sh_cnt n hn)
  rw [iN_toInt hx, Int.shiftRight_eq_div_pow] at e
  rw [Int.toNat_natCast]
  apply Int32.toInt_inj.mp
  have hp : (0 : Int) < 2 ^ n := Int.pow_pos (by omega)
  have hq : (((2 ^ n : Nat)) : Int) = 2 ^ n := by rw [Int.natCast_pow]; rfl
  rw [hq] at e
  rw [e, iN_toInt]
  have hp1 : (1 : Int) ≤ 2 ^ n := hp
  refine ⟨?_, ?_⟩
  · apply Int.le_ediv_of_mul_le hp
    have := hx.1
    have h3 : (-2147483648 : Int) * 2 ^ n ≤ -2147483648 * 1 := Int.mul_le_mul_of_nonpos_left (by omega) hp1
    omega
  · apply Int.ediv_lt_of_lt_mul hp
    have := hx.2
    have h3 : (2147483648 : Int) * 1 ≤ 2147483648 * 2 ^ n := Int.mul_le_mul_of_nonneg_left hp1 (by omega)
    omega
theorem iN_ushr {x y : Int} (hx : 0 ≤ x ∧ x < 2147483648) (h : 0 ≤ y ∧ y < 32) : ((iN x).toUInt32 >>> ((iN y).toUInt32 &&& Int32.toUInt32 31)).toInt32 = iN (x / 2 ^ y.toNat) := by
  obtain ⟨n, rfl⟩ : ∃ n : Nat, y = n := ⟨y.toNat, by omega⟩
  obtain ⟨k, rfl⟩ : ∃ k : Nat, x = k := ⟨x.toNat, by omega⟩
  have hn : n < 32 := by omega
  rw [← nI_iN k, pk_ushrN (by omega) (iN (n : Int)) n (ush_cnt n hn), nI_iN, Int.toNat_natCast]
  congr 1
theorem iN_div {x y : Int} (hx : 0 ≤ x ∧ x < 2147483648) (hy : 0 < y ∧ y < 2147483648) : iN x / iN y = iN (x / y) := by
  obtain ⟨a, rfl⟩ : ∃ n : Nat, x = n := ⟨x.toNat, by omega⟩
  obtain ⟨b, rfl⟩ : ∃ n : Nat, y = n := ⟨y.toNat, by omega⟩
  rw [← nI_iN, ← nI_iN, pk_div (by omega) (by omega) (by omega), nI_iN, Int.natCast_ediv]
theorem lN_lI (n : Nat) : lN n = lI (n : Int) := by
  unfold lN
  exact (Int64.ofInt_eq_ofNat).symm
theorem lI_div {x y : Int} (hx : 0 ≤ x ∧ x < 9223372036854775808) (hy : 0 < y ∧ y < 9223372036854775808) : lI x / lI y = lI (x / y) := by
  obtain ⟨a, rfl⟩ : ∃ n : Nat, x = n := ⟨x.toNat, by omega⟩
  obtain ⟨b, rfl⟩ : ∃ n : Nat, y = n := ⟨y.toNat, by omega⟩
  rw [← lN_lI, ← lN_lI, pk_lDiv (by omega) (by omega) (by omega), lN_lI, Int.natCast_ediv]
theorem lI_cmp {x y : Int} (hx : lR x) (hy : lR y) : lg_cmp (lI x) (lI y) = iN (cmpL x y) := by
  unfold lg_cmp cmpL
  have h1 : lI x > lI y ↔ y < x := by rw [gt_iff_lt, Int64.lt_iff_toInt_lt, lI_toInt hx, lI_toInt hy]
  have h2 : lI x = lI y ↔ x = y := by rw [← Int64.toInt_inj, lI_toInt hx, lI_toInt hy]
  by_cases q : y < x
  · rw [if_pos q, if_pos (h1.mpr q)]
    rfl
  · rw [if_neg q, if_neg (fun z => q (h1.mp z))]
    by_cases q2 : x = y
    · rw [if_pos q2, if_pos (h2.mpr q2)]
      rfl
    · rw [if_neg q2, if_neg (fun z => q2 (h2.mp z))]
      rfl
theorem iN_i2l {x : Int} (hx : iR x) : (iN x).toInt64 = lI x := Int32.toInt64_ofInt (by have := hx.1; rw [Int32.toInt_minValue]; omega) (by have := hx.2; rw [Int32.toInt_maxValue]; omega)
/-! locals -/
def tp (L : Nat → Nat) : Nat → tLs → List (Nat × Value)
  | _, [] => []
  | o, none :: l => tp L (o + 1) l
  | o, some v :: l => (o, toV L v) :: tp L (o + 1) l
theorem tp.mem {L : Nat → Nat} : ∀ (l : tLs) (o : Nat) (q : Nat × Value), q ∈ tp L o l ↔ ∃ j v, lget l j = some v ∧ q = (o + j, toV L v)
  | [], o, q => by simp [tp, lget]
  | none :: l, o, q => by
    unfold tp
    rw [tp.mem l (o + 1) q]
    constructor
    · rintro ⟨j, v, h1, h2⟩
      exact ⟨j + 1, v, h1, by rw [h2]; congr 1; omega⟩
    · rintro ⟨j, v, h1, h2⟩
      cases j with
      | zero => simp [lget] at h1
      | succ j => exact ⟨j, v, h1, by rw [h2]; congr 1; omega⟩
  | some w :: l, o, q => by
    unfold tp
    rw [List.mem_cons, tp.mem l (o + 1) q]
    constructor
    · rintro (h | ⟨j, v, h1, h2⟩)
      · exact ⟨0, w, rfl, h⟩
      · exact ⟨j + 1, v, h1, by rw [h2]; congr 1; omega⟩
    · rintro ⟨j, v, h1, h2⟩
      cases j with
      | zero => left; simp [lget] at h1; rw [h2, h1]; rfl
      | succ j => right; exact ⟨j, v, h1, by rw [h2]; congr 1; omega⟩
theorem tp.at {L : Nat → Nat} {ls : tLs} {lsA : Array Slot} {n j : Nat} {v : tV} (h : lv_has lsA n (tp L 0 ls)) (hj : lget ls j = some v) : lsA[j]? = some (.val (toV L v)) := by
  have := h.2.2 (j, toV L v) ((tp.mem ls 0 _).mpr ⟨j, v, hj, by rw [Nat.zero_add]⟩)
  exact this
theorem lget_lput : ∀ (l : tLs) (i j : Nat) (v w : tV), lget (lput l i v) j = some w → (j = i ∧ w = v) ∨ (j ≠ i ∧ lget l j = some w ∧ (j + 1 = i → ∀ x, w ≠ .inr (.inr x)))
  | [], i, j, v, w, h => by simp [lput, lget] at h
  | a :: l, 0, j, v, w, h => by
    cases j with
    | zero => simp [lput, lget] at h; exact Or.inl ⟨rfl, h.symm⟩
    | succ j => exact Or.inr ⟨by omega, h, by omega⟩
  | a :: l, 1, j, v, w, h => by
    cases j with
    | zero =>
      right
      refine ⟨by omega, ?_, fun _ x hx => ?_⟩
      · simp only [lput, lget] at h ⊢
        unfold clrL at h
        split at h
        · cases h
        · exact h
      · subst hx
        simp only [lput, lget] at h
        unfold clrL at h
        split at h
        · cases h
        · rename_i z
          exact z _ h
    | succ j =>
      rcases lget_lput l 0 j v w h with ⟨h1, h2⟩ | ⟨h1, h2, h3⟩
      · exact Or.inl ⟨by omega, h2⟩
      · exact Or.inr ⟨by omega, h2, by omega⟩
  | a :: l, n + 2, j, v, w, h => by
    cases j with
    | zero => exact Or.inr ⟨by omega, h, by omega⟩
    | succ j =>
      rcases lget_lput l (n + 1) j v w h with ⟨h1, h2⟩ | ⟨h1, h2, h3⟩
      · exact Or.inl ⟨by omega, h2⟩
      · exact Or.inr ⟨by omega, h2, fun e => h3 (by omega)⟩
theorem lget_lputL : ∀ (l : tLs) (i j : Nat) (v w : tV), lget (lputL l i v) j = some w → (j = i ∧ w = v) ∨ (j ≠ i ∧ j ≠ i + 1 ∧ lget l j = some w ∧ (j + 1 = i → ∀ x, w ≠ .inr (.inr x)))
  | [], i, j, v, w, h => by simp [lputL, lget] at h
  | [a], 0, j, v, w, h => by
    cases j with
    | zero => simp [lputL, lget] at h; exact Or.inl ⟨rfl, h.symm⟩
    | succ j => simp [lputL, lget] at h
  | a :: b :: l, 0, j, v, w, h => by
    match j, h with
    | 0, h => simp [lputL, lget] at h; exact Or.inl ⟨rfl, h.symm⟩
    | 1, h => simp [lputL, lget] at h
    | j + 2, h => exact Or.inr ⟨by omega, by omega, h, by omega⟩
  | a :: l, 1, j, v, w, h => by
    cases j with
    | zero =>
      right
      refine ⟨by omega, by omega, ?_, fun _ x hx => ?_⟩
      · simp only [lputL, lget] at h ⊢
        unfold clrL at h
        split at h
        · cases h
        · exact h
      · subst hx
        simp only [lputL, lget] at h
        unfold clrL at h
        split at h
        · cases h
        · rename_i z
          exact z _ h
    | succ j =>
      simp only [lputL] at h
      rcases lget_lputL l 0 j v w h with ⟨h1, h2⟩ | ⟨h1, h0, h2, h3⟩
      · exact Or.inl ⟨by omega, h2⟩
      · exact Or.inr ⟨by omega, by omega, h2, by omega⟩
  | a :: l, n + 2, j, v, w, h => by
    simp only [lputL] at h
    cases j with
    | zero => exact Or.inr ⟨by omega, by omega, h, by omega⟩
    | succ j =>
      rcases lget_lputL l (n + 1) j v w h with ⟨h1, h2⟩ | ⟨h1, h0, h2, h3⟩
      · exact Or.inl ⟨by omega, h2⟩
      · exact Or.inr ⟨by omega, by omega, h2, fun e => h3 (by omega)⟩
theorem toV_cat {L : Nat → Nat} {v : tV} (h : ∀ x, v ≠ .inr (.inr x)) : ((toV L v).category == 2) = false := by
  rcases v with x | i | x
  · rfl
  · rfl
  · exact absurd rfl (h x)
theorem tp.put {L : Nat → Nat} {ls : tLs} {lsA : Array Slot} {n i : Nat} {v : tV} (h : lv_has lsA n ((i, toV L v) :: (tp L 0 ls).filter (fun q => !(q.1 == i) && !(q.1 + 1 == i && q.2.category == 2)))) : lv_has lsA n (tp L 0 (lput ls i v)) := by
  refine ⟨h.1, h.2.1, fun q hq => ?_⟩
  obtain ⟨j, w, h1, rfl⟩ := (tp.mem _ _ _).mp hq
  rw [Nat.zero_add]
  rcases lget_lput ls i j v w h1 with ⟨rfl, rfl⟩ | ⟨h2, h3, h4⟩
  · exact h.2.2 _ List.mem_cons_self
  · refine h.2.2 (j, toV L w) (List.mem_cons_of_mem _ (List.mem_filter.mpr ⟨(tp.mem _ _ _).mpr ⟨j, w, h3, by rw [Nat.zero_add]⟩, ?_⟩))
    by_cases e : j + 1 = i
    · have := toV_cat (L := L) (h4 e)
      simp [h2, this]
    · simp [h2, e]
theorem tp.putL {L : Nat → Nat} {ls : tLs} {lsA : Array Slot} {n i : Nat} {v : tV} (h : lv_has lsA n ((i, toV L v) :: (tp L 0 ls).filter (fun q => !(q.1 == i) && (!(q.1 == i + 1) && !(q.1 + 1 == i && q.2.category == 2))))) : lv_has lsA n (tp L 0 (lputL ls i v)) := by
  refine ⟨h.1, h.2.1, fun q hq => ?_⟩
  obtain ⟨j, w, h1, rfl⟩ := (tp.mem _ _ _).mp hq
  rw [Nat.zero_add]
  rcases lget_lputL ls i j v w h1 with ⟨rfl, rfl⟩ | ⟨h2, h0, h3, h4⟩
  · exact h.2.2 _ List.mem_cons_self
  · refine h.2.2 (j, toV L w) (List.mem_cons_of_mem _ (List.mem_filter.mpr ⟨(tp.mem _ _ _).mpr ⟨j, w, h3, by rw [Nat.zero_add]⟩, ?_⟩))
    by_cases e : j + 1 = i
    · have := toV_cat (L := L) (h4 e)
      simp [h2, h0, this]
    · simp [h2, h0, e]

/-! helpers: constants of the cells, bits of natural numbers -/
theorem cl_0 : clsOf 0 = 4 := rfl
theorem cl_1 : clsOf 1 = 1 := rfl
theorem cl_4 : clsOf 4 = 2 := rfl
theorem cl_9 : clsOf 9 = 0 := rfl
theorem cl_86 : clsOf 86 = 5 := rfl
theorem al_2 : alen 2 = 16 := rfl
theorem al_3 : alen 3 = 16 := rfl
theorem al_5 : alen 5 = 16 := rfl
theorem al_13 : alen 13 = 16 := rfl
theorem al_6 : alen 6 = 4 := rfl
theorem al_7 : alen 7 = 4 := rfl
theorem al_8 : alen 8 = 4 := rfl
theorem al_10 : alen 10 = 2000 := rfl
theorem al_11 : alen 11 = 2000 := rfl
theorem al_87 : alen 87 = 16 := rfl
theorem al_88 : alen 88 = 24 := rfl
theorem al_90 : alen 90 = 24 := rfl
theorem al_91 : alen 91 = 720 := rfl
theorem al_92 : alen 92 = 720 := rfl
theorem al_93 : alen 93 = 8000 := rfl
theorem al_94 : alen 94 = 2000 := rfl
theorem al_95 : alen 95 = 2000 := rfl
theorem al_96 : alen 96 = 4 := rfl
theorem al_97 : alen 97 = 384 := rfl
theorem al_98 : alen 98 = 720 := rfl
theorem al_99 : alen 99 = 720 := rfl
theorem al_100 : alen 100 = 4 := rfl
theorem cl_row {i : Nat} (h : 14 ≤ i ∧ i < 38) : clsOf i = 3 := by unfold clsOf; rw [if_pos h]
theorem al_tk {i : Nat} (h : 14 ≤ i ∧ i < 38) : alen (i + 24) = 30 := by unfold alen; rw [if_pos (by omega)]
theorem al_kn {i : Nat} (h : 14 ≤ i ∧ i < 38) : alen (i + 48) = 30 := by unfold alen; rw [if_pos (by omega)]
theorem upM_eq {M : tM} {i j : Nat} {x : Int} : upM M i j x i j = x := by simp [upM]
theorem upM_ne {M : tM} {i j a b : Nat} {x : Int} (h : ¬ (a = i ∧ b = j)) : upM M i j x a b = M a b := by simp [upM, h]
theorem upM_ni {M : tM} {i j a b : Nat} {x : Int} (h : a ≠ i) : upM M i j x a b = M a b := by simp [upM, h]
theorem upM_nj {M : tM} {i j a b : Nat} {x : Int} (h : b ≠ j) : upM M i j x a b = M a b := by simp [upM, h]
/-! bits -/
theorem iN_nat_and (a b : Nat) : iN (a : Int) &&& iN (b : Int) = iN ((a &&& b : Nat) : Int) := by
  rw [← nI_iN, ← nI_iN, ← nI_iN]
  unfold nI
  apply Int32.toBitVec_inj.mp
  show BitVec.ofNat 32 a &&& BitVec.ofNat 32 b = BitVec.ofNat 32 (a &&& b)
  exact (BitVec.ofNat_and ..).symm
theorem iN_nat_or (a b : Nat) : iN (a : Int) ||| iN (b : Int) = iN ((a ||| b : Nat) : Int) := by
  rw [← nI_iN, ← nI_iN, ← nI_iN]
  unfold nI
  apply Int32.toBitVec_inj.mp
  show BitVec.ofNat 32 a ||| BitVec.ofNat 32 b = BitVec.ofNat 32 (a ||| b)
  exact (BitVec.ofNat_or ..).symm
theorem bAnd_nat {a b : Nat} (h : a < 2147483648 ∨ b < 2147483648) : bAnd (a : Int) (b : Int) = ((a &&& b : Nat) : Int) := by
  unfold bAnd
  show (iN (a : Int) &&& iN (b : Int)).toInt = _
  rw [iN_nat_and, iN_toInt]
  have : a &&& b < 2147483648 := by
    rcases h with h | h
    · exact Nat.lt_of_le_of_lt Nat.and_le_left h
    · exact Nat.lt_of_le_of_lt Nat.and_le_right h
  exact ⟨by omega, by omega⟩
theorem bOr_nat {a b : Nat} (ha : a < 2147483648) (hb : b < 2147483648) : bOr (a : Int) (b : Int) = ((a ||| b : Nat) : Int) := by
  unfold bOr
  show (iN (a : Int) ||| iN (b : Int)).toInt = _
  rw [iN_nat_or, iN_toInt]
  have : a ||| b < 2 ^ 31 := Nat.or_lt_two_pow (by omega) (by omega)
  exact ⟨by omega, by omega⟩
theorem bAnd_1 {a : Nat} : bAnd (a : Int) 1 = ((a % 2 : Nat) : Int) := by
  have h := bAnd_nat (a := a) (b := 1) (Or.inr (by omega))
  rw [show ((1 : Nat) : Int) = 1 from rfl] at h
  rw [h]
  congr 1
  have := Nat.and_two_pow_sub_one_eq_mod a 1
  simpa using this
/-- a bit of a natural number, as the program asks for it -/
theorem bit_ask {a j : Nat} : bAnd ((a : Int) / 2 ^ j) 1 = (if a.testBit j then 1 else 0) := by
  have h : ((a : Int) / 2 ^ j) = ((a / 2 ^ j : Nat) : Int) := by rw [Int.natCast_ediv, Int.natCast_pow]; rfl
  rw [h, bAnd_1]
  rw [Nat.testBit_eq_decide_div_mod_eq]
  by_cases q : a / 2 ^ j % 2 = 1
  · simp [q]
  · have : a / 2 ^ j % 2 = 0 := by omega
    simp [this]
theorem bOr_sum {a b k : Nat} (hb : b < 2 ^ k) (h : a * 2 ^ k + b < 2147483648) : bOr ((a : Int) * 2 ^ k) (b : Int) = (a : Int) * 2 ^ k + b := by
  have e : ((a : Int) * 2 ^ k) = ((a * 2 ^ k : Nat) : Int) := by rw [Int.natCast_mul, Int.natCast_pow]; rfl
  rw [e, bOr_nat (by omega) (by omega)]
  have : a * 2 ^ k ||| b = a * 2 ^ k + b := by
    rw [Nat.mul_comm, Nat.two_pow_add_eq_or_of_lt hb]
  rw [this]
  omega
theorem bAnd_mask {a k : Nat} (hk : k < 31) : bAnd (a : Int) (2 ^ k - 1) = ((a % 2 ^ k : Nat) : Int) := by
  have h1 : (1 : Nat) ≤ 2 ^ k := Nat.one_le_two_pow
  have e : ((2 : Int) ^ k - 1) = ((2 ^ k - 1 : Nat) : Int) := by rw [Int.natCast_sub h1, Int.natCast_pow]; rfl
  have h2 : 2 ^ k < 2 ^ 31 := Nat.pow_lt_pow_right (by omega) hk
  rw [e, bAnd_nat (Or.inr (by omega)), Nat.and_two_pow_sub_one_eq_mod]
theorem upM_24 {M : tM} {i j b : Nat} {x : Int} : upM M (i + 24) j x i b = M i b := upM_ni (by omega)
theorem upM_48 {M : tM} {i j b : Nat} {x : Int} : upM M (i + 48) j x i b = M i b := upM_ni (by omega)
theorem upM_i24 {M : tM} {i j b : Nat} {x : Int} : upM M i j x (i + 24) b = M (i + 24) b := upM_ni (by omega)
theorem upM_i48 {M : tM} {i j b : Nat} {x : Int} : upM M i j x (i + 48) b = M (i + 48) b := upM_ni (by omega)
theorem upM_2448 {M : tM} {i j b : Nat} {x : Int} : upM M (i + 24) j x (i + 48) b = M (i + 48) b := upM_ni (by omega)
theorem upM_4824 {M : tM} {i j b : Nat} {x : Int} : upM M (i + 48) j x (i + 24) b = M (i + 24) b := upM_ni (by omega)

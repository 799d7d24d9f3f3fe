/-! A SMALL MACHINE over whole numbers: what an instruction does to program counter, locals, stack and memory, as a predicate transformer. Memory: cell i, place j holds a whole number (an int is it modulo 2^32). References are numbers of cells. -/
abbrev tV : Type := Int ⊕ (Nat ⊕ Int)
abbrev vI (x : Int) : tV := Sum.inl x
abbrev vR (i : Nat) : tV := Sum.inr (Sum.inl i)
abbrev vL (x : Int) : tV := Sum.inr (Sum.inr x)
abbrev tLs : Type := List (Option tV)
abbrev tM : Type := Nat → Nat → Int
abbrev tQ : Type := Option tV → tM → Prop
abbrev tY : Type := Nat → tLs → List tV → tM → Prop
abbrev tC : Type := Nat → Nat → List tV → tM → tQ → Prop
abbrev tF : Type := tC → Nat → tQ → tY → tY
def iR (x : Int) : Prop := -2147483648 ≤ x ∧ x < 2147483648
def lR (x : Int) : Prop := -9223372036854775808 ≤ x ∧ x < 9223372036854775808
def lget : tLs → Nat → Option tV
  | [], _ => none
  | a :: _, 0 => a
  | _ :: l, n + 1 => lget l n
def clrL : Option tV → Option tV
  | some (.inr (.inr _)) => none
  | x => x
def lput : tLs → Nat → tV → tLs
  | [], _, _ => []
  | _ :: l, 0, v => some v :: l
  | a :: l, 1, v => clrL a :: lput l 0 v
  | a :: l, n + 2, v => a :: lput l (n + 1) v
def lputL : tLs → Nat → tV → tLs
  | [], _, _ => []
  | [_], 0, v => [some v]
  | _ :: _ :: l, 0, v => some v :: none :: l
  | a :: l, 1, v => clrL a :: lputL l 0 v
  | a :: l, n + 2, v => a :: lputL l (n + 1) v
def upM (M : tM) (i j : Nat) (x : Int) : tM := fun a b => if a = i ∧ b = j then x else M a b
def bAnd (x y : Int) : Int := (Int32.ofInt x &&& Int32.ofInt y).toInt
def bOr (x y : Int) : Int := (Int32.ofInt x ||| Int32.ofInt y).toInt
def bXor (x y : Int) : Int := (Int32.ofInt x ^^^ Int32.ofInt y).toInt
def cmpL (x y : Int) : Int := if y < x then 1 else if x = y then 0 else -1
/-! the cells of the system: class, length, targets -/
def clsOf (i : Nat) : Nat := if 14 ≤ i ∧ i < 38 then 3 else if i = 0 then 4 else if i = 1 then 1 else if i = 4 then 2 else if i = 9 then 0 else if i = 86 then 5 else 9
def alen (i : Nat) : Int := if 38 ≤ i ∧ i < 86 then 30 else if i = 2 then 16 else if i = 3 then 16 else if i = 5 then 16 else if i = 6 then 4 else if i = 7 then 4 else if i = 8 then 4 else if i = 10 then 2000 else if i = 11 then 2000 else if i = 13 then 16 else if i = 87 then 16 else if i = 88 then 24 else if i = 90 then 24 else if i = 91 then 720 else if i = 92 then 720 else if i = 93 then 8000 else if i = 94 then 2000 else if i = 95 then 2000 else if i = 96 then 4 else if i = 97 then 384 else if i = 98 then 720 else if i = 99 then 720 else if i = 100 then 4 else 0
/-! what instructions do -/
def f_no : tF := fun _ _ _ _ _ _ _ _ => False
def f_push (n : Int) (len : Nat) : tF := fun _ _ _ Y pc ls st M => Y (pc + len) ls (vI n :: st) M
def f_pushL (n : Int) (len : Nat) : tF := fun _ _ _ Y pc ls st M => Y (pc + len) ls (vL n :: st) M
def f_loadI (i len : Nat) : tF := fun _ _ _ Y pc ls st M => match lget ls i with
  | some (.inl x) => Y (pc + len) ls (vI x :: st) M
  | _ => False
def f_loadR (i len : Nat) : tF := fun _ _ _ Y pc ls st M => match lget ls i with
  | some (.inr (.inl x)) => Y (pc + len) ls (vR x :: st) M
  | _ => False
def f_loadL (i len : Nat) : tF := fun _ _ _ Y pc ls st M => match lget ls i with
  | some (.inr (.inr x)) => Y (pc + len) ls (vL x :: st) M
  | _ => False
def f_storeI (i len : Nat) : tF := fun _ _ _ Y pc ls st M => match st with
  | .inl x :: st => Y (pc + len) (lput ls i (vI x)) st M
  | _ => False
def f_storeR (i len : Nat) : tF := fun _ _ _ Y pc ls st M => match st with
  | .inr (.inl x) :: st => Y (pc + len) (lput ls i (vR x)) st M
  | _ => False
def f_storeL (i len : Nat) : tF := fun _ _ _ Y pc ls st M => match st with
  | .inr (.inr x) :: st => Y (pc + len) (lputL ls i (vL x)) st M
  | _ => False
def f_iinc (i : Nat) (n : Int) : tF := fun _ _ _ Y pc ls st M => match lget ls i with
  | some (.inl x) => Y (pc + 3) (lput ls i (vI (x + n))) st M
  | _ => False
def f_add : tF := fun _ _ _ Y pc ls st M => match st with
  | .inl y :: .inl x :: st => Y (pc + 1) ls (vI (x + y) :: st) M
  | _ => False
def f_sub : tF := fun _ _ _ Y pc ls st M => match st with
  | .inl y :: .inl x :: st => Y (pc + 1) ls (vI (x - y) :: st) M
  | _ => False
def f_mul : tF := fun _ _ _ Y pc ls st M => match st with
  | .inl y :: .inl x :: st => Y (pc + 1) ls (vI (x * y) :: st) M
  | _ => False
def f_neg : tF := fun _ _ _ Y pc ls st M => match st with
  | .inl x :: st => Y (pc + 1) ls (vI (-x) :: st) M
  | _ => False
def f_and : tF := fun _ _ _ Y pc ls st M => match st with
  | .inl y :: .inl x :: st => Y (pc + 1) ls (vI (bAnd x y) :: st) M
  | _ => False
def f_or : tF := fun _ _ _ Y pc ls st M => match st with
  | .inl y :: .inl x :: st => Y (pc + 1) ls (vI (bOr x y) :: st) M
  | _ => False
def f_xor : tF := fun _ _ _ Y pc ls st M => match st with
  | .inl y :: .inl x :: st => Y (pc + 1) ls (vI (bXor x y) :: st) M
  | _ => False
def f_shl : tF := fun _ _ _ Y pc ls st M => match st with
  | .inl y :: .inl x :: st => (0 ≤ y ∧ y < 32) ∧ Y (pc + 1) ls (vI (x * 2 ^ y.toNat) :: st) M
  | _ => False
def f_shr : tF := fun _ _ _ Y pc ls st M => match st with
  | .inl y :: .inl x :: st => iR x ∧ (0 ≤ y ∧ y < 32) ∧ Y (pc + 1) ls (vI (x / 2 ^ y.toNat) :: st) M
  | _ => False
def f_ushr : tF := fun _ _ _ Y pc ls st M => match st with
  | .inl y :: .inl x :: st => (0 ≤ x ∧ x < 2147483648) ∧ (0 ≤ y ∧ y < 32) ∧ Y (pc + 1) ls (vI (x / 2 ^ y.toNat) :: st) M
  | _ => False
def f_div : tF := fun _ _ _ Y pc ls st M => match st with
  | .inl y :: .inl x :: st => (0 ≤ x ∧ x < 2147483648) ∧ (0 < y ∧ y < 2147483648) ∧ Y (pc + 1) ls (vI (x / y) :: st) M
  | _ => False
def f_ladd : tF := fun _ _ _ Y pc ls st M => match st with
  | .inr (.inr y) :: .inr (.inr x) :: st => Y (pc + 1) ls (vL (x + y) :: st) M
  | _ => False
def f_lsub : tF := fun _ _ _ Y pc ls st M => match st with
  | .inr (.inr y) :: .inr (.inr x) :: st => Y (pc + 1) ls (vL (x - y) :: st) M
  | _ => False
def f_lmul : tF := fun _ _ _ Y pc ls st M => match st with
  | .inr (.inr y) :: .inr (.inr x) :: st => Y (pc + 1) ls (vL (x * y) :: st) M
  | _ => False
def f_ldiv : tF := fun _ _ _ Y pc ls st M => match st with
  | .inr (.inr y) :: .inr (.inr x) :: st => (0 ≤ x ∧ x < 9223372036854775808) ∧ (0 < y ∧ y < 9223372036854775808) ∧ Y (pc + 1) ls (vL (x / y) :: st) M
  | _ => False
def f_lcmp : tF := fun _ _ _ Y pc ls st M => match st with
  | .inr (.inr y) :: .inr (.inr x) :: st => lR x ∧ lR y ∧ Y (pc + 1) ls (vI (cmpL x y) :: st) M
  | _ => False
def f_i2l : tF := fun _ _ _ Y pc ls st M => match st with
  | .inl x :: st => iR x ∧ Y (pc + 1) ls (vL x :: st) M
  | _ => False
def f_dup : tF := fun _ _ _ Y pc ls st M => match st with
  | .inr (.inl r) :: st => Y (pc + 1) ls (vR r :: vR r :: st) M
  | _ => False
def f_dup2 : tF := fun _ _ _ Y pc ls st M => match st with
  | .inl x :: .inr (.inl r) :: st => Y (pc + 1) ls (vI x :: vR r :: vI x :: vR r :: st) M
  | _ => False
def f_pop : tF := fun _ _ _ Y pc ls st M => match st with
  | .inl _ :: st => Y (pc + 1) ls st M
  | _ => False
def f_if0 (ct cf : Int → Int → Prop) (tgt : Nat) : tF := fun _ _ _ Y pc ls st M => match st with
  | .inl x :: st => iR x ∧ (ct x 0 → Y tgt ls st M) ∧ (cf x 0 → Y (pc + 3) ls st M)
  | _ => False
def f_icmp (ct cf : Int → Int → Prop) (tgt : Nat) : tF := fun _ _ _ Y pc ls st M => match st with
  | .inl y :: .inl x :: st => iR x ∧ iR y ∧ (ct x y → Y tgt ls st M) ∧ (cf x y → Y (pc + 3) ls st M)
  | _ => False
abbrev cEq (x y : Int) : Prop := x = y
abbrev cNe (x y : Int) : Prop := x ≠ y
abbrev cLt (x y : Int) : Prop := x < y
abbrev cGe (x y : Int) : Prop := y ≤ x
abbrev cGt (x y : Int) : Prop := y < x
abbrev cLe (x y : Int) : Prop := x ≤ y
def f_goto (tgt : Nat) : tF := fun _ _ _ Y _ ls st M => Y tgt ls st M
def f_getI (ci k : Nat) : tF := fun _ _ _ Y pc ls st M => match st with
  | .inr (.inl i) :: st => clsOf i = ci ∧ Y (pc + 3) ls (vI (M i k) :: st) M
  | _ => False
def f_getR (ci k : Nat) (tg : Nat → Nat) : tF := fun _ _ _ Y pc ls st M => match st with
  | .inr (.inl i) :: st => clsOf i = ci ∧ Y (pc + 3) ls (vR (tg i) :: st) M
  | _ => False
def f_putI (ci k : Nat) : tF := fun _ _ _ Y pc ls st M => match st with
  | .inl x :: .inr (.inl i) :: st => clsOf i = ci ∧ Y (pc + 3) ls st (upM M i k x)
  | _ => False
def f_putZ (ci k : Nat) : tF := fun _ _ _ Y pc ls st M => match st with
  | .inl x :: .inr (.inl i) :: st => clsOf i = ci ∧ (x = 0 ∨ x = 1) ∧ Y (pc + 3) ls st (upM M i k x)
  | _ => False
def f_iald : tF := fun _ _ _ Y pc ls st M => match st with
  | .inl x :: .inr (.inl i) :: st => (0 ≤ x ∧ x < alen i) ∧ Y (pc + 1) ls (vI (M i x.toNat) :: st) M
  | _ => False
def f_zald : tF := fun _ _ _ Y pc ls st M => match st with
  | .inl x :: .inr (.inl i) :: st => i = 89 ∧ (0 ≤ x ∧ x < 24) ∧ Y (pc + 1) ls (vI (M 89 x.toNat) :: st) M
  | _ => False
def f_iast : tF := fun _ _ _ Y pc ls st M => match st with
  | .inl v :: .inl x :: .inr (.inl i) :: st => (0 ≤ x ∧ x < alen i) ∧ Y (pc + 1) ls st (upM M i x.toNat v)
  | _ => False
def f_zast : tF := fun _ _ _ Y pc ls st M => match st with
  | .inl v :: .inl x :: .inr (.inl i) :: st => i = 89 ∧ (0 ≤ x ∧ x < 24) ∧ (v = 0 ∨ v = 1) ∧ Y (pc + 1) ls st (upM M 89 x.toNat v)
  | _ => False
def f_aald : tF := fun _ _ _ Y pc ls st M => match st with
  | .inl x :: .inr (.inl i) :: st => i = 12 ∧ (0 ≤ x ∧ x < 24) ∧ Y (pc + 1) ls (vR (14 + x.toNat) :: st) M
  | _ => False
def noL : List tV → Bool
  | [] => true
  | .inr (.inr _) :: _ => false
  | _ :: l => noL l
def lenLe : List tV → Nat → Bool
  | [], _ => true
  | _ :: _, 0 => false
  | _ :: l, n + 1 => lenLe l n
def lenGe : List tV → Nat → Bool
  | _, 0 => true
  | [], _ + 1 => false
  | _ :: l, n + 1 => lenGe l n
/-- a static call: method k, n parameters -/
def f_callS (k n : Nat) : tF := fun C d _ Y pc ls st M => match d with
  | 0 => False
  | d + 1 => (lenGe st n && lenLe (st.drop n) 4 && noL (st.take n)) = true ∧ C d k (st.take n).reverse M (fun r M2 => Y (pc + 3) ls (r.toList ++ st.drop n) M2)
/-- a call with a receiver of class ci: n parameters beside it -/
def f_callV (ci k n : Nat) : tF := fun C d _ Y pc ls st M => match d with
  | 0 => False
  | d + 1 => (lenLe (st.drop (n + 1)) 4 && noL (st.take n)) = true ∧ (match (st.drop n) with
    | .inr (.inl i) :: _ => clsOf i = ci ∧ C d k (vR i :: (st.take n).reverse) M (fun r M2 => Y (pc + 3) ls (r.toList ++ st.drop (n + 1)) M2)
    | _ => False)
def f_iret : tF := fun _ _ Q _ _ _ st M => match st with
  | [.inl x] => Q (some (vI x)) M
  | _ => False
def f_zret : tF := fun _ _ Q _ _ _ st M => match st with
  | [.inl x] => (x = 0 ∨ x = 1) ∧ Q (some (vI x)) M
  | _ => False
def f_lret : tF := fun _ _ Q _ _ _ st M => match st with
  | [.inr (.inr x)] => Q (some (vL x)) M
  | _ => False
def f_vret : tF := fun _ _ Q _ _ _ st M => match st with
  | [] => Q none M
  | _ => False
def swL (x : Int) (Y : Nat → Prop) : Int → List Nat → Prop
  | _, [] => True
  | v, t :: ts => (x = v → Y t) ∧ swL x Y (v + 1) ts
def f_tsw (lo hi : Int) (ts : List Nat) (dflt : Nat) : tF := fun _ _ _ Y _ ls st M => match st with
  | .inl x :: st => iR x ∧ (x < lo ∨ hi < x → Y dflt ls st M) ∧ swL x (fun t => Y t ls st M) lo ts
  | _ => False
/-- two cases, and others -/
def f_lsw2 (a b : Int) (ta tb dflt : Nat) : tF := fun _ _ _ Y _ ls st M => match st with
  | .inl x :: st => iR x ∧ (x = a → Y ta ls st M) ∧ (x = b → Y tb ls st M) ∧ (x ≠ a ∧ x ≠ b → Y dflt ls st M)
  | _ => False
/-! tables -/
def tabF : List (Nat × tF) → Nat → tF
  | [], _ => f_no
  | e :: l, pc => if e.1 = pc then e.2 else tabF l pc
def AllS (P : Nat × tF → Prop) : List (Nat × tF) → Prop
  | [] => True
  | e :: l => P e ∧ AllS P l
theorem tabF_all {P : Nat × tF → Prop} (h0 : ∀ pc, P (pc, f_no)) : ∀ (l : List (Nat × tF)), AllS P l → ∀ pc, P (pc, tabF l pc)
  | [], _, pc => h0 pc
  | e :: l, h, pc => by
    unfold tabF
    by_cases q : e.1 = pc
    · rw [if_pos q, ← q]
      exact h.1
    · rw [if_neg q]
      exact tabF_all h0 l h.2 pc
def ent (as : List tV) (n : Nat) : tLs := as.map some ++ List.replicate (n - as.length) none
def CMono (C : tC) : Prop := ∀ d k as M (Q Q' : tQ), (∀ r M2, Q r M2 → Q' r M2) → C d k as M Q → C d k as M Q'
def FMono (f : tF) : Prop := ∀ (C : tC), CMono C → ∀ d Q (Y Y' : tY), (∀ pc ls st M, Y pc ls st M → Y' pc ls st M) → ∀ pc ls st M, f C d Q Y pc ls st M → f C d Q Y' pc ls st M
/-- a method's body runs: whatever is closed under its instructions holds at its entry -/
def Runs (C : tC) (F : Nat → tF) (d : Nat) (Q : tQ) (pc : Nat) (ls : tLs) (st : List tV) (M : tM) : Prop := ∀ Y : tY, (∀ pc ls st M, F pc C d Q Y pc ls st M → Y pc ls st M) → Y pc ls st M
def stN (C : tC) (F : Nat → tF) (d : Nat) (Q : tQ) (Y : tY) (cut : List Nat) : Nat → tY
  | 0 => Y
  | n + 1 => fun pc ls st M => match cut.elem pc with
    | true => Y pc ls st M
    | false => F pc C d Q (stN C F d Q Y cut n) pc ls st M
theorem Runs.step {C : tC} (hC : CMono C) {F : Nat → tF} (hF : ∀ pc, FMono (F pc)) {d : Nat} {Q : tQ} {pc : Nat} {ls : tLs} {st : List tV} {M : tM} (h : F pc C d Q (Runs C F d Q) pc ls st M) : Runs C F d Q pc ls st M := by
  intro Y hY
  exact hY _ _ _ _ (hF pc C hC d Q _ _ (fun _ _ _ _ z => z Y hY) _ _ _ _ h)
theorem stN.ok {C : tC} (hC : CMono C) {F : Nat → tF} (hF : ∀ pc, FMono (F pc)) {d : Nat} {Q : tQ} (cut : List Nat) : ∀ (n pc : Nat) (ls : tLs) (st : List tV) (M : tM), stN C F d Q (Runs C F d Q) cut n pc ls st M → Runs C F d Q pc ls st M
  | 0, _, _, _, _, h => h
  | n + 1, pc, ls, st, M, h => by
    unfold stN at h
    cases hc : cut.elem pc with
    | true => rw [hc] at h; exact h
    | false =>
      rw [hc] at h
      exact Runs.step hC hF (hF pc C hC d Q _ _ (fun _ _ _ _ z => stN.ok hC hF cut n _ _ _ _ z) _ _ _ _ h)
/-- run from here: one step at least, then on to the cuts -/
theorem Runs.go {C : tC} (hC : CMono C) {F : Nat → tF} (hF : ∀ pc, FMono (F pc)) {d : Nat} {Q : tQ} (cut : List Nat) (n : Nat) {pc : Nat} {ls : tLs} {st : List tV} {M : tM} (h : F pc C d Q (stN C F d Q (Runs C F d Q) cut n) pc ls st M) : Runs C F d Q pc ls st M :=
  Runs.step hC hF (hF pc C hC d Q _ _ (fun _ _ _ _ z => stN.ok hC hF cut n _ _ _ _ z) _ _ _ _ h)
theorem m_no  : FMono (f_no) := by
  intro C hC d Q Y Y' hY pc ls st M h
  unfold f_no at h ⊢
  first
    | exact h
    | exact hY _ _ _ _ h
    | (split at h <;> first | exact h.elim | exact hY _ _ _ _ h | exact ⟨h.1, hY _ _ _ _ h.2⟩ | exact ⟨h.1, h.2.1, hY _ _ _ _ h.2.2⟩ | exact ⟨h.1, h.2.1, h.2.2.1, hY _ _ _ _ h.2.2.2⟩ | exact ⟨h.1, fun z => hY _ _ _ _ (h.2.1 z), fun z => hY _ _ _ _ (h.2.2 z)⟩ | exact ⟨h.1, h.2.1, fun z => hY _ _ _ _ (h.2.2.1 z), fun z => hY _ _ _ _ (h.2.2.2 z)⟩ | exact ⟨h.1, fun z => hY _ _ _ _ (h.2.1 z), fun z => hY _ _ _ _ (h.2.2.1 z), fun z => hY _ _ _ _ (h.2.2.2 z)⟩)
theorem m_push (n : Int) (len : Nat) : FMono (f_push n len) := by
  intro C hC d Q Y Y' hY pc ls st M h
  unfold f_push at h ⊢
  first
    | exact h
    | exact hY _ _ _ _ h
    | (split at h <;> first | exact h.elim | exact hY _ _ _ _ h | exact ⟨h.1, hY _ _ _ _ h.2⟩ | exact ⟨h.1, h.2.1, hY _ _ _ _ h.2.2⟩ | exact ⟨h.1, h.2.1, h.2.2.1, hY _ _ _ _ h.2.2.2⟩ | exact ⟨h.1, fun z => hY _ _ _ _ (h.2.1 z), fun z => hY _ _ _ _ (h.2.2 z)⟩ | exact ⟨h.1, h.2.1, fun z => hY _ _ _ _ (h.2.2.1 z), fun z => hY _ _ _ _ (h.2.2.2 z)⟩ | exact ⟨h.1, fun z => hY _ _ _ _ (h.2.1 z), fun z => hY _ _ _ _ (h.2.2.1 z), fun z => hY _ _ _ _ (h.2.2.2 z)⟩)
theorem m_pushL (n : Int) (len : Nat) : FMono (f_pushL n len) := by
  intro C hC d Q Y Y' hY pc ls st M h
  unfold f_pushL at h ⊢
  first
    | exact h
    | exact hY _ _ _ _ h
    | (split at h <;> first | exact h.elim | exact hY _ _ _ _ h | exact ⟨h.1, hY _ _ _ _ h.2⟩ | exact ⟨h.1, h.2.1, hY _ _ _ _ h.2.2⟩ | exact ⟨h.1, h.2.1, h.2.2.1, hY _ _ _ _ h.2.2.2⟩ | exact ⟨h.1, fun z => hY _ _ _ _ (h.2.1 z), fun z => hY _ _ _ _ (h.2.2 z)⟩ | exact ⟨h.1, h.2.1, fun z => hY _ _ _ _ (h.2.2.1 z), fun z => hY _ _ _ _ (h.2.2.2 z)⟩ | exact ⟨h.1, fun z => hY _ _ _ _ (h.2.1 z), fun z => hY _ _ _ _ (h.2.2.1 z), fun z => hY _ _ _ _ (h.2.2.2 z)⟩)
theorem m_loadI (i len : Nat) : FMono (f_loadI i len) := by
  intro C hC d Q Y Y' hY pc ls st M h
  unfold f_loadI at h ⊢
  first
    | exact h
    | exact hY _ _ _ _ h
    | (split at h <;> first | exact h.elim | exact hY _ _ _ _ h | exact ⟨h.1, hY _ _ _ _ h.2⟩ | exact ⟨h.1, h.2.1, hY _ _ _ _ h.2.2⟩ | exact ⟨h.1, h.2.1, h.2.2.1, hY _ _ _ _ h.2.2.2⟩ | exact ⟨h.1, fun z => hY _ _ _ _ (h.2.1 z), fun z => hY _ _ _ _ (h.2.2 z)⟩ | exact ⟨h.1, h.2.1, fun z => hY _ _ _ _ (h.2.2.1 z), fun z => hY _ _ _ _ (h.2.2.2 z)⟩ | exact ⟨h.1, fun z => hY _ _ _ _ (h.2.1 z), fun z => hY _ _ _ _ (h.2.2.1 z), fun z => hY _ _ _ _ (h.2.2.2 z)⟩)
theorem m_loadR (i len : Nat) : FMono (f_loadR i len) := by
  intro C hC d Q Y Y' hY pc ls st M h
  unfold f_loadR at h ⊢
  first
    | exact h
    | exact hY _ _ _ _ h
    | (split at h <;> first | exact h.elim | exact hY _ _ _ _ h | exact ⟨h.1, hY _ _ _ _ h.2⟩ | exact ⟨h.1, h.2.1, hY _ _ _ _ h.2.2⟩ | exact ⟨h.1, h.2.1, h.2.2.1, hY _ _ _ _ h.2.2.2⟩ | exact ⟨h.1, fun z => hY _ _ _ _ (h.2.1 z), fun z => hY _ _ _ _ (h.2.2 z)⟩ | exact ⟨h.1, h.2.1, fun z => hY _ _ _ _ (h.2.2.1 z), fun z => hY _ _ _ _ (h.2.2.2 z)⟩ | exact ⟨h.1, fun z => hY _ _ _ _ (h.2.1 z), fun z => hY _ _ _ _ (h.2.2.1 z), fun z => hY _ _ _ _ (h.2.2.2 z)⟩)
theorem m_loadL (i len : Nat) : FMono (f_loadL i len) := by
  intro C hC d Q Y Y' hY pc ls st M h
  unfold f_loadL at h ⊢
  first
    | exact h
    | exact hY _ _ _ _ h
    | (split at h <;> first | exact h.elim | exact hY _ _ _ _ h | exact ⟨h.1, hY _ _ _ _ h.2⟩ | exact ⟨h.1, h.2.1, hY _ _ _ _ h.2.2⟩ | exact ⟨h.1, h.2.1, h.2.2.1, hY _ _ _ _ h.2.2.2⟩ | exact ⟨h.1, fun z => hY _ _ _ _ (h.2.1 z), fun z => hY _ _ _ _ (h.2.2 z)⟩ | exact ⟨h.1, h.2.1, fun z => hY _ _ _ _ (h.2.2.1 z), fun z => hY _ _ _ _ (h.2.2.2 z)⟩ | exact ⟨h.1, fun z => hY _ _ _ _ (h.2.1 z), fun z => hY _ _ _ _ (h.2.2.1 z), fun z => hY _ _ _ _ (h.2.2.2 z)⟩)
theorem m_storeI (i len : Nat) : FMono (f_storeI i len) := by
  intro C hC d Q Y Y' hY pc ls st M h
  unfold f_storeI at h ⊢
  first
    | exact h
    | exact hY _ _ _ _ h
    | (split at h <;> first | exact h.elim | exact hY _ _ _ _ h | exact ⟨h.1, hY _ _ _ _ h.2⟩ | exact ⟨h.1, h.2.1, hY _ _ _ _ h.2.2⟩ | exact ⟨h.1, h.2.1, h.2.2.1, hY _ _ _ _ h.2.2.2⟩ | exact ⟨h.1, fun z => hY _ _ _ _ (h.2.1 z), fun z => hY _ _ _ _ (h.2.2 z)⟩ | exact ⟨h.1, h.2.1, fun z => hY _ _ _ _ (h.2.2.1 z), fun z => hY _ _ _ _ (h.2.2.2 z)⟩ | exact ⟨h.1, fun z => hY _ _ _ _ (h.2.1 z), fun z => hY _ _ _ _ (h.2.2.1 z), fun z => hY _ _ _ _ (h.2.2.2 z)⟩)
theorem m_storeR (i len : Nat) : FMono (f_storeR i len) := by
  intro C hC d Q Y Y' hY pc ls st M h
  unfold f_storeR at h ⊢
  first
    | exact h
    | exact hY _ _ _ _ h
    | (split at h <;> first | exact h.elim | exact hY _ _ _ _ h | exact ⟨h.1, hY _ _ _ _ h.2⟩ | exact ⟨h.1, h.2.1, hY _ _ _ _ h.2.2⟩ | exact ⟨h.1, h.2.1, h.2.2.1, hY _ _ _ _ h.2.2.2⟩ | exact ⟨h.1, fun z => hY _ _ _ _ (h.2.1 z), fun z => hY _ _ _ _ (h.2.2 z)⟩ | exact ⟨h.1, h.2.1, fun z => hY _ _ _ _ (h.2.2.1 z), fun z => hY _ _ _ _ (h.2.2.2 z)⟩ | exact ⟨h.1, fun z => hY _ _ _ _ (h.2.1 z), fun z => hY _ _ _ _ (h.2.2.1 z), fun z => hY _ _ _ _ (h.2.2.2 z)⟩)
theorem m_storeL (i len : Nat) : FMono (f_storeL i len) := by
  intro C hC d Q Y Y' hY pc ls st M h
  unfold f_storeL at h ⊢
  first
    | exact h
    | exact hY _ _ _ _ h
    | (split at h <;> first | exact h.elim | exact hY _ _ _ _ h | exact ⟨h.1, hY _ _ _ _ h.2⟩ | exact ⟨h.1, h.2.1, hY _ _ _ _ h.2.2⟩ | exact ⟨h.1, h.2.1, h.2.2.1, hY _ _ _ _ h.2.2.2⟩ | exact ⟨h.1, fun z => hY _ _ _ _ (h.2.1 z), fun z => hY _ _ _ _ (h.2.2 z)⟩ | exact ⟨h.1, h.2.1, fun z => hY _ _ _ _ (h.2.2.1 z), fun z => hY _ _ _ _ (h.2.2.2 z)⟩ | exact ⟨h.1, fun z => hY _ _ _ _ (h.2.1 z), fun z => hY _ _ _ _ (h.2.2.1 z), fun z => hY _ _ _ _ (h.2.2.2 z)⟩)
theorem m_iinc (i : Nat) (n : Int) : FMono (f_iinc i n) := by
  intro C hC d Q Y Y' hY pc ls st M h
  unfold f_iinc at h ⊢
  first
    | exact h
    | exact hY _ _ _ _ h
    | (split at h <;> first | exact h.elim | exact hY _ _ _ _ h | exact ⟨h.1, hY _ _ _ _ h.2⟩ | exact ⟨h.1, h.2.1, hY _ _ _ _ h.2.2⟩ | exact ⟨h.1, h.2.1, h.2.2.1, hY _ _ _ _ h.2.2.2⟩ | exact ⟨h.1, fun z => hY _ _ _ _ (h.2.1 z), fun z => hY _ _ _ _ (h.2.2 z)⟩ | exact ⟨h.1, h.2.1, fun z => hY _ _ _ _ (h.2.2.1 z), fun z => hY _ _ _ _ (h.2.2.2 z)⟩ | exact ⟨h.1, fun z => hY _ _ _ _ (h.2.1 z), fun z => hY _ _ _ _ (h.2.2.1 z), fun z => hY _ _ _ _ (h.2.2.2 z)⟩)
theorem m_add  : FMono (f_add) := by
  intro C hC d Q Y Y' hY pc ls st M h
  unfold f_add at h ⊢
  first
    | exact h
    | exact hY _ _ _ _ h
    | (split at h <;> first | exact h.elim | exact hY _ _ _ _ h | exact ⟨h.1, hY _ _ _ _ h.2⟩ | exact ⟨h.1, h.2.1, hY _ _ _ _ h.2.2⟩ | exact ⟨h.1, h.2.1, h.2.2.1, hY _ _ _ _ h.2.2.2⟩ | exact ⟨h.1, fun z => hY _ _ _ _ (h.2.1 z), fun z => hY _ _ _ _ (h.2.2 z)⟩ | exact ⟨h.1, h.2.1, fun z => hY _ _ _ _ (h.2.2.1 z), fun z => hY _ _ _ _ (h.2.2.2 z)⟩ | exact ⟨h.1, fun z => hY _ _ _ _ (h.2.1 z), fun z => hY _ _ _ _ (h.2.2.1 z), fun z => hY _ _ _ _ (h.2.2.2 z)⟩)
theorem m_sub  : FMono (f_sub) := by
  intro C hC d Q Y Y' hY pc ls st M h
  unfold f_sub at h ⊢
  first
    | exact h
    | exact hY _ _ _ _ h
    | (split at h <;> first | exact h.elim | exact hY _ _ _ _ h | exact ⟨h.1, hY _ _ _ _ h.2⟩ | exact ⟨h.1, h.2.1, hY _ _ _ _ h.2.2⟩ | exact ⟨h.1, h.2.1, h.2.2.1, hY _ _ _ _ h.2.2.2⟩ | exact ⟨h.1, fun z => hY _ _ _ _ (h.2.1 z), fun z => hY _ _ _ _ (h.2.2 z)⟩ | exact ⟨h.1, h.2.1, fun z => hY _ _ _ _ (h.2.2.1 z), fun z => hY _ _ _ _ (h.2.2.2 z)⟩ | exact ⟨h.1, fun z => hY _ _ _ _ (h.2.1 z), fun z => hY _ _ _ _ (h.2.2.1 z), fun z => hY _ _ _ _ (h.2.2.2 z)⟩)
theorem m_mul  : FMono (f_mul) := by
  intro C hC d Q Y Y' hY pc ls st M h
  unfold f_mul at h ⊢
  first
    | exact h
    | exact hY _ _ _ _ h
    | (split at h <;> first | exact h.elim | exact hY _ _ _ _ h | exact ⟨h.1, hY _ _ _ _ h.2⟩ | exact ⟨h.1, h.2.1, hY _ _ _ _ h.2.2⟩ | exact ⟨h.1, h.2.1, h.2.2.1, hY _ _ _ _ h.2.2.2⟩ | exact ⟨h.1, fun z => hY _ _ _ _ (h.2.1 z), fun z => hY _ _ _ _ (h.2.2 z)⟩ | exact ⟨h.1, h.2.1, fun z => hY _ _ _ _ (h.2.2.1 z), fun z => hY _ _ _ _ (h.2.2.2 z)⟩ | exact ⟨h.1, fun z => hY _ _ _ _ (h.2.1 z), fun z => hY _ _ _ _ (h.2.2.1 z), fun z => hY _ _ _ _ (h.2.2.2 z)⟩)
theorem m_neg  : FMono (f_neg) := by
  intro C hC d Q Y Y' hY pc ls st M h
  unfold f_neg at h ⊢
  first
    | exact h
    | exact hY _ _ _ _ h
    | (split at h <;> first | exact h.elim | exact hY _ _ _ _ h | exact ⟨h.1, hY _ _ _ _ h.2⟩ | exact ⟨h.1, h.2.1, hY _ _ _ _ h.2.2⟩ | exact ⟨h.1, h.2.1, h.2.2.1, hY _ _ _ _ h.2.2.2⟩ | exact ⟨h.1, fun z => hY _ _ _ _ (h.2.1 z), fun z => hY _ _ _ _ (h.2.2 z)⟩ | exact ⟨h.1, h.2.1, fun z => hY _ _ _ _ (h.2.2.1 z), fun z => hY _ _ _ _ (h.2.2.2 z)⟩ | exact ⟨h.1, fun z => hY _ _ _ _ (h.2.1 z), fun z => hY _ _ _ _ (h.2.2.1 z), fun z => hY _ _ _ _ (h.2.2.2 z)⟩)
theorem m_and  : FMono (f_and) := by
  intro C hC d Q Y Y' hY pc ls st M h
  unfold f_and at h ⊢
  first
    | exact h
    | exact hY _ _ _ _ h
    | (split at h <;> first | exact h.elim | exact hY _ _ _ _ h | exact ⟨h.1, hY _ _ _ _ h.2⟩ | exact ⟨h.1, h.2.1, hY _ _ _ _ h.2.2⟩ | exact ⟨h.1, h.2.1, h.2.2.1, hY _ _ _ _ h.2.2.2⟩ | exact ⟨h.1, fun z => hY _ _ _ _ (h.2.1 z), fun z => hY _ _ _ _ (h.2.2 z)⟩ | exact ⟨h.1, h.2.1, fun z => hY _ _ _ _ (h.2.2.1 z), fun z => hY _ _ _ _ (h.2.2.2 z)⟩ | exact ⟨h.1, fun z => hY _ _ _ _ (h.2.1 z), fun z => hY _ _ _ _ (h.2.2.1 z), fun z => hY _ _ _ _ (h.2.2.2 z)⟩)
theorem m_or  : FMono (f_or) := by
  intro C hC d Q Y Y' hY pc ls st M h
  unfold f_or at h ⊢
  first
    | exact h
    | exact hY _ _ _ _ h
    | (split at h <;> first | exact h.elim | exact hY _ _ _ _ h | exact ⟨h.1, hY _ _ _ _ h.2⟩ | exact ⟨h.1, h.2.1, hY _ _ _ _ h.2.2⟩ | exact ⟨h.1, h.2.1, h.2.2.1, hY _ _ _ _ h.2.2.2⟩ | exact ⟨h.1, fun z => hY _ _ _ _ (h.2.1 z), fun z => hY _ _ _ _ (h.2.2 z)⟩ | exact ⟨h.1, h.2.1, fun z => hY _ _ _ _ (h.2.2.1 z), fun z => hY _ _ _ _ (h.2.2.2 z)⟩ | exact ⟨h.1, fun z => hY _ _ _ _ (h.2.1 z), fun z => hY _ _ _ _ (h.2.2.1 z), fun z => hY _ _ _ _ (h.2.2.2 z)⟩)
theorem m_xor  : FMono (f_xor) := by
  intro C hC d Q Y Y' hY pc ls st M h
  unfold f_xor at h ⊢
  first
    | exact h
    | exact hY _ _ _ _ h
    | (split at h <;> first | exact h.elim | exact hY _ _ _ _ h | exact ⟨h.1, hY _ _ _ _ h.2⟩ | exact ⟨h.1, h.2.1, hY _ _ _ _ h.2.2⟩ | exact ⟨h.1, h.2.1, h.2.2.1, hY _ _ _ _ h.2.2.2⟩ | exact ⟨h.1, fun z => hY _ _ _ _ (h.2.1 z), fun z => hY _ _ _ _ (h.2.2 z)⟩ | exact ⟨h.1, h.2.1, fun z => hY _ _ _ _ (h.2.2.1 z), fun z => hY _ _ _ _ (h.2.2.2 z)⟩ | exact ⟨h.1, fun z => hY _ _ _ _ (h.2.1 z), fun z => hY _ _ _ _ (h.2.2.1 z), fun z => hY _ _ _ _ (h.2.2.2 z)⟩)
theorem m_shl  : FMono (f_shl) := by
  intro C hC d Q Y Y' hY pc ls st M h
  unfold f_shl at h ⊢
  first
    | exact h
    | exact hY _ _ _ _ h
    | (split at h <;> first | exact h.elim | exact hY _ _ _ _ h | exact ⟨h.1, hY _ _ _ _ h.2⟩ | exact ⟨h.1, h.2.1, hY _ _ _ _ h.2.2⟩ | exact ⟨h.1, h.2.1, h.2.2.1, hY _ _ _ _ h.2.2.2⟩ | exact ⟨h.1, fun z => hY _ _ _ _ (h.2.1 z), fun z => hY _ _ _ _ (h.2.2 z)⟩ | exact ⟨h.1, h.2.1, fun z => hY _ _ _ _ (h.2.2.1 z), fun z => hY _ _ _ _ (h.2.2.2 z)⟩ | exact ⟨h.1, fun z => hY _ _ _ _ (h.2.1 z), fun z => hY _ _ _ _ (h.2.2.1 z), fun z => hY _ _ _ _ (h.2.2.2 z)⟩)
theorem m_shr  : FMono (f_shr) := by
  intro C hC d Q Y Y' hY pc ls st M h
  unfold f_shr at h ⊢
  first
    | exact h
    | exact hY _ _ _ _ h
    | (split at h <;> first | exact h.elim | exact hY _ _ _ _ h | exact ⟨h.1, hY _ _ _ _ h.2⟩ | exact ⟨h.1, h.2.1, hY _ _ _ _ h.2.2⟩ | exact ⟨h.1, h.2.1, h.2.2.1, hY _ _ _ _ h.2.2.2⟩ | exact ⟨h.1, fun z => hY _ _ _ _ (h.2.1 z), fun z => hY _ _ _ _ (h.2.2 z)⟩ | exact ⟨h.1, h.2.1, fun z => hY _ _ _ _ (h.2.2.1 z), fun z => hY _ _ _ _ (h.2.2.2 z)⟩ | exact ⟨h.1, fun z => hY _ _ _ _ (h.2.1 z), fun z => hY _ _ _ _ (h.2.2.1 z), fun z => hY _ _ _ _ (h.2.2.2 z)⟩)
theorem m_ushr  : FMono (f_ushr) := by
  intro C hC d Q Y Y' hY pc ls st M h
  unfold f_ushr at h ⊢
  first
    | exact h
    | exact hY _ _ _ _ h
    | (split at h <;> first | exact h.elim | exact hY _ _ _ _ h | exact ⟨h.1, hY _ _ _ _ h.2⟩ | exact ⟨h.1, h.2.1, hY _ _ _ _ h.2.2⟩ | exact ⟨h.1, h.2.1, h.2.2.1, hY _ _ _ _ h.2.2.2⟩ | exact ⟨h.1, fun z => hY _ _ _ _ (h.2.1 z), fun z => hY _ _ _ _ (h.2.2 z)⟩ | exact ⟨h.1, h.2.1, fun z => hY _ _ _ _ (h.2.2.1 z), fun z => hY _ _ _ _ (h.2.2.2 z)⟩ | exact ⟨h.1, fun z => hY _ _ _ _ (h.2.1 z), fun z => hY _ _ _ _ (h.2.2.1 z), fun z => hY _ _ _ _ (h.2.2.2 z)⟩)
theorem m_div  : FMono (f_div) := by
  intro C hC d Q Y Y' hY pc ls st M h
  unfold f_div at h ⊢
  first
    | exact h
    | exact hY _ _ _ _ h
    | (split at h <;> first | exact h.elim | exact hY _ _ _ _ h | exact ⟨h.1, hY _ _ _ _ h.2⟩ | exact ⟨h.1, h.2.1, hY _ _ _ _ h.2.2⟩ | exact ⟨h.1, h.2.1, h.2.2.1, hY _ _ _ _ h.2.2.2⟩ | exact ⟨h.1, fun z => hY _ _ _ _ (h.2.1 z), fun z => hY _ _ _ _ (h.2.2 z)⟩ | exact ⟨h.1, h.2.1, fun z => hY _ _ _ _ (h.2.2.1 z), fun z => hY _ _ _ _ (h.2.2.2 z)⟩ | exact ⟨h.1, fun z => hY _ _ _ _ (h.2.1 z), fun z => hY _ _ _ _ (h.2.2.1 z), fun z => hY _ _ _ _ (h.2.2.2 z)⟩)
theorem m_ladd  : FMono (f_ladd) := by
  intro C hC d Q Y Y' hY pc ls st M h
  unfold f_ladd at h ⊢
  first
    | exact h
    | exact hY _ _ _ _ h
    | (split at h <;> first | exact h.elim | exact hY _ _ _ _ h | exact ⟨h.1, hY _ _ _ _ h.2⟩ | exact ⟨h.1, h.2.1, hY _ _ _ _ h.2.2⟩ | exact ⟨h.1, h.2.1, h.2.2.1, hY _ _ _ _ h.2.2.2⟩ | exact ⟨h.1, fun z => hY _ _ _ _ (h.2.1 z), fun z => hY _ _ _ _ (h.2.2 z)⟩ | exact ⟨h.1, h.2.1, fun z => hY _ _ _ _ (h.2.2.1 z), fun z => hY _ _ _ _ (h.2.2.2 z)⟩ | exact ⟨h.1, fun z => hY _ _ _ _ (h.2.1 z), fun z => hY _ _ _ _ (h.2.2.1 z), fun z => hY _ _ _ _ (h.2.2.2 z)⟩)
theorem m_lsub  : FMono (f_lsub) := by
  intro C hC d Q Y Y' hY pc ls st M h
  unfold f_lsub at h ⊢
  first
    | exact h
    | exact hY _ _ _ _ h
    | (split at h <;> first | exact h.elim | exact hY _ _ _ _ h | exact ⟨h.1, hY _ _ _ _ h.2⟩ | exact ⟨h.1, h.2.1, hY _ _ _ _ h.2.2⟩ | exact ⟨h.1, h.2.1, h.2.2.1, hY _ _ _ _ h.2.2.2⟩ | exact ⟨h.1, fun z => hY _ _ _ _ (h.2.1 z), fun z => hY _ _ _ _ (h.2.2 z)⟩ | exact ⟨h.1, h.2.1, fun z => hY _ _ _ _ (h.2.2.1 z), fun z => hY _ _ _ _ (h.2.2.2 z)⟩ | exact ⟨h.1, fun z => hY _ _ _ _ (h.2.1 z), fun z => hY _ _ _ _ (h.2.2.1 z), fun z => hY _ _ _ _ (h.2.2.2 z)⟩)
theorem m_lmul  : FMono (f_lmul) := by
  intro C hC d Q Y Y' hY pc ls st M h
  unfold f_lmul at h ⊢
  first
    | exact h
    | exact hY _ _ _ _ h
    | (split at h <;> first | exact h.elim | exact hY _ _ _ _ h | exact ⟨h.1, hY _ _ _ _ h.2⟩ | exact ⟨h.1, h.2.1, hY _ _ _ _ h.2.2⟩ | exact ⟨h.1, h.2.1, h.2.2.1, hY _ _ _ _ h.2.2.2⟩ | exact ⟨h.1, fun z => hY _ _ _ _ (h.2.1 z), fun z => hY _ _ _ _ (h.2.2 z)⟩ | exact ⟨h.1, h.2.1, fun z => hY _ _ _ _ (h.2.2.1 z), fun z => hY _ _ _ _ (h.2.2.2 z)⟩ | exact ⟨h.1, fun z => hY _ _ _ _ (h.2.1 z), fun z => hY _ _ _ _ (h.2.2.1 z), fun z => hY _ _ _ _ (h.2.2.2 z)⟩)
theorem m_ldiv  : FMono (f_ldiv) := by
  intro C hC d Q Y Y' hY pc ls st M h
  unfold f_ldiv at h ⊢
  first
    | exact h
    | exact hY _ _ _ _ h
    | (split at h <;> first | exact h.elim | exact hY _ _ _ _ h | exact ⟨h.1, hY _ _ _ _ h.2⟩ | exact ⟨h.1, h.2.1, hY _ _ _ _ h.2.2⟩ | exact ⟨h.1, h.2.1, h.2.2.1, hY _ _ _ _ h.2.2.2⟩ | exact ⟨h.1, fun z => hY _ _ _ _ (h.2.1 z), fun z => hY _ _ _ _ (h.2.2 z)⟩ | exact ⟨h.1, h.2.1, fun z => hY _ _ _ _ (h.2.2.1 z), fun z => hY _ _ _ _ (h.2.2.2 z)⟩ | exact ⟨h.1, fun z => hY _ _ _ _ (h.2.1 z), fun z => hY _ _ _ _ (h.2.2.1 z), fun z => hY _ _ _ _ (h.2.2.2 z)⟩)
theorem m_lcmp  : FMono (f_lcmp) := by
  intro C hC d Q Y Y' hY pc ls st M h
  unfold f_lcmp at h ⊢
  first
    | exact h
    | exact hY _ _ _ _ h
    | (split at h <;> first | exact h.elim | exact hY _ _ _ _ h | exact ⟨h.1, hY _ _ _ _ h.2⟩ | exact ⟨h.1, h.2.1, hY _ _ _ _ h.2.2⟩ | exact ⟨h.1, h.2.1, h.2.2.1, hY _ _ _ _ h.2.2.2⟩ | exact ⟨h.1, fun z => hY _ _ _ _ (h.2.1 z), fun z => hY _ _ _ _ (h.2.2 z)⟩ | exact ⟨h.1, h.2.1, fun z => hY _ _ _ _ (h.2.2.1 z), fun z => hY _ _ _ _ (h.2.2.2 z)⟩ | exact ⟨h.1, fun z => hY _ _ _ _ (h.2.1 z), fun z => hY _ _ _ _ (h.2.2.1 z), fun z => hY _ _ _ _ (h.2.2.2 z)⟩)
theorem m_i2l  : FMono (f_i2l) := by
  intro C hC d Q Y Y' hY pc ls st M h
  unfold f_i2l at h ⊢
  first
    | exact h
    | exact hY _ _ _ _ h
    | (split at h <;> first | exact h.elim | exact hY _ _ _ _ h | exact ⟨h.1, hY _ _ _ _ h.2⟩ | exact ⟨h.1, h.2.1, hY _ _ _ _ h.2.2⟩ | exact ⟨h.1, h.2.1, h.2.2.1, hY _ _ _ _ h.2.2.2⟩ | exact ⟨h.1, fun z => hY _ _ _ _ (h.2.1 z), fun z => hY _ _ _ _ (h.2.2 z)⟩ | exact ⟨h.1, h.2.1, fun z => hY _ _ _ _ (h.2.2.1 z), fun z => hY _ _ _ _ (h.2.2.2 z)⟩ | exact ⟨h.1, fun z => hY _ _ _ _ (h.2.1 z), fun z => hY _ _ _ _ (h.2.2.1 z), fun z => hY _ _ _ _ (h.2.2.2 z)⟩)
theorem m_dup  : FMono (f_dup) := by
  intro C hC d Q Y Y' hY pc ls st M h
  unfold f_dup at h ⊢
  first
    | exact h
    | exact hY _ _ _ _ h
    | (split at h <;> first | exact h.elim | exact hY _ _ _ _ h | exact ⟨h.1, hY _ _ _ _ h.2⟩ | exact ⟨h.1, h.2.1, hY _ _ _ _ h.2.2⟩ | exact ⟨h.1, h.2.1, h.2.2.1, hY _ _ _ _ h.2.2.2⟩ | exact ⟨h.1, fun z => hY _ _ _ _ (h.2.1 z), fun z => hY _ _ _ _ (h.2.2 z)⟩ | exact ⟨h.1, h.2.1, fun z => hY _ _ _ _ (h.2.2.1 z), fun z => hY _ _ _ _ (h.2.2.2 z)⟩ | exact ⟨h.1, fun z => hY _ _ _ _ (h.2.1 z), fun z => hY _ _ _ _ (h.2.2.1 z), fun z => hY _ _ _ _ (h.2.2.2 z)⟩)
theorem m_dup2  : FMono (f_dup2) := by
  intro C hC d Q Y Y' hY pc ls st M h
  unfold f_dup2 at h ⊢
  first
    | exact h
    | exact hY _ _ _ _ h
    | (split at h <;> first | exact h.elim | exact hY _ _ _ _ h | exact ⟨h.1, hY _ _ _ _ h.2⟩ | exact ⟨h.1, h.2.1, hY _ _ _ _ h.2.2⟩ | exact ⟨h.1, h.2.1, h.2.2.1, hY _ _ _ _ h.2.2.2⟩ | exact ⟨h.1, fun z => hY _ _ _ _ (h.2.1 z), fun z => hY _ _ _ _ (h.2.2 z)⟩ | exact ⟨h.1, h.2.1, fun z => hY _ _ _ _ (h.2.2.1 z), fun z => hY _ _ _ _ (h.2.2.2 z)⟩ | exact ⟨h.1, fun z => hY _ _ _ _ (h.2.1 z), fun z => hY _ _ _ _ (h.2.2.1 z), fun z => hY _ _ _ _ (h.2.2.2 z)⟩)
theorem m_pop  : FMono (f_pop) := by
  intro C hC d Q Y Y' hY pc ls st M h
  unfold f_pop at h ⊢
  first
    | exact h
    | exact hY _ _ _ _ h
    | (split at h <;> first | exact h.elim | exact hY _ _ _ _ h | exact ⟨h.1, hY _ _ _ _ h.2⟩ | exact ⟨h.1, h.2.1, hY _ _ _ _ h.2.2⟩ | exact ⟨h.1, h.2.1, h.2.2.1, hY _ _ _ _ h.2.2.2⟩ | exact ⟨h.1, fun z => hY _ _ _ _ (h.2.1 z), fun z => hY _ _ _ _ (h.2.2 z)⟩ | exact ⟨h.1, h.2.1, fun z => hY _ _ _ _ (h.2.2.1 z), fun z => hY _ _ _ _ (h.2.2.2 z)⟩ | exact ⟨h.1, fun z => hY _ _ _ _ (h.2.1 z), fun z => hY _ _ _ _ (h.2.2.1 z), fun z => hY _ _ _ _ (h.2.2.2 z)⟩)
theorem m_if0 (ct cf : Int → Int → Prop) (tgt : Nat) : FMono (f_if0 ct cf tgt) := by
  intro C hC d Q Y Y' hY pc ls st M h
  unfold f_if0 at h ⊢
  first
    | exact h
    | exact hY _ _ _ _ h
    | (split at h <;> first | exact h.elim | exact hY _ _ _ _ h | exact ⟨h.1, hY _ _ _ _ h.2⟩ | exact ⟨h.1, h.2.1, hY _ _ _ _ h.2.2⟩ | exact ⟨h.1, h.2.1, h.2.2.1, hY _ _ _ _ h.2.2.2⟩ | exact ⟨h.1, fun z => hY _ _ _ _ (h.2.1 z), fun z => hY _ _ _ _ (h.2.2 z)⟩ | exact ⟨h.1, h.2.1, fun z => hY _ _ _ _ (h.2.2.1 z), fun z => hY _ _ _ _ (h.2.2.2 z)⟩ | exact ⟨h.1, fun z => hY _ _ _ _ (h.2.1 z), fun z => hY _ _ _ _ (h.2.2.1 z), fun z => hY _ _ _ _ (h.2.2.2 z)⟩)
theorem m_icmp (ct cf : Int → Int → Prop) (tgt : Nat) : FMono (f_icmp ct cf tgt) := by
  intro C hC d Q Y Y' hY pc ls st M h
  unfold f_icmp at h ⊢
  first
    | exact h
    | exact hY _ _ _ _ h
    | (split at h <;> first | exact h.elim | exact hY _ _ _ _ h | exact ⟨h.1, hY _ _ _ _ h.2⟩ | exact ⟨h.1, h.2.1, hY _ _ _ _ h.2.2⟩ | exact ⟨h.1, h.2.1, h.2.2.1, hY _ _ _ _ h.2.2.2⟩ | exact ⟨h.1, fun z => hY _ _ _ _ (h.2.1 z), fun z => hY _ _ _ _ (h.2.2 z)⟩ | exact ⟨h.1, h.2.1, fun z => hY _ _ _ _ (h.2.2.1 z), fun z => hY _ _ _ _ (h.2.2.2 z)⟩ | exact ⟨h.1, fun z => hY _ _ _ _ (h.2.1 z), fun z => hY _ _ _ _ (h.2.2.1 z), fun z => hY _ _ _ _ (h.2.2.2 z)⟩)
theorem m_goto (tgt : Nat) : FMono (f_goto tgt) := by
  intro C hC d Q Y Y' hY pc ls st M h
  unfold f_goto at h ⊢
  first
    | exact h
    | exact hY _ _ _ _ h
    | (split at h <;> first | exact h.elim | exact hY _ _ _ _ h | exact ⟨h.1, hY _ _ _ _ h.2⟩ | exact ⟨h.1, h.2.1, hY _ _ _ _ h.2.2⟩ | exact ⟨h.1, h.2.1, h.2.2.1, hY _ _ _ _ h.2.2.2⟩ | exact ⟨h.1, fun z => hY _ _ _ _ (h.2.1 z), fun z => hY _ _ _ _ (h.2.2 z)⟩ | exact ⟨h.1, h.2.1, fun z => hY _ _ _ _ (h.2.2.1 z), fun z => hY _ _ _ _ (h.2.2.2 z)⟩ | exact ⟨h.1, fun z => hY _ _ _ _ (h.2.1 z), fun z => hY _ _ _ _ (h.2.2.1 z), fun z => hY _ _ _ _ (h.2.2.2 z)⟩)
theorem m_getI (ci k : Nat) : FMono (f_getI ci k) := by
  intro C hC d Q Y Y' hY pc ls st M h
  unfold f_getI at h ⊢
  first
    | exact h
    | exact hY _ _ _ _ h
    | (split at h <;> first | exact h.elim | exact hY _ _ _ _ h | exact ⟨h.1, hY _ _ _ _ h.2⟩ | exact ⟨h.1, h.2.1, hY _ _ _ _ h.2.2⟩ | exact ⟨h.1, h.2.1, h.2.2.1, hY _ _ _ _ h.2.2.2⟩ | exact ⟨h.1, fun z => hY _ _ _ _ (h.2.1 z), fun z => hY _ _ _ _ (h.2.2 z)⟩ | exact ⟨h.1, h.2.1, fun z => hY _ _ _ _ (h.2.2.1 z), fun z => hY _ _ _ _ (h.2.2.2 z)⟩ | exact ⟨h.1, fun z => hY _ _ _ _ (h.2.1 z), fun z => hY _ _ _ _ (h.2.2.1 z), fun z => hY _ _ _ _ (h.2.2.2 z)⟩)
theorem m_getR (ci k : Nat) (tg : Nat → Nat) : FMono (f_getR ci k tg) := by
  intro C hC d Q Y Y' hY pc ls st M h
  unfold f_getR at h ⊢
  first
    | exact h
    | exact hY _ _ _ _ h
    | (split at h <;> first | exact h.elim | exact hY _ _ _ _ h | exact ⟨h.1, hY _ _ _ _ h.2⟩ | exact ⟨h.1, h.2.1, hY _ _ _ _ h.2.2⟩ | exact ⟨h.1, h.2.1, h.2.2.1, hY _ _ _ _ h.2.2.2⟩ | exact ⟨h.1, fun z => hY _ _ _ _ (h.2.1 z), fun z => hY _ _ _ _ (h.2.2 z)⟩ | exact ⟨h.1, h.2.1, fun z => hY _ _ _ _ (h.2.2.1 z), fun z => hY _ _ _ _ (h.2.2.2 z)⟩ | exact ⟨h.1, fun z => hY _ _ _ _ (h.2.1 z), fun z => hY _ _ _ _ (h.2.2.1 z), fun z => hY _ _ _ _ (h.2.2.2 z)⟩)
theorem m_putI (ci k : Nat) : FMono (f_putI ci k) := by
  intro C hC d Q Y Y' hY pc ls st M h
  unfold f_putI at h ⊢
  first
    | exact h
    | exact hY _ _ _ _ h
    | (split at h <;> first | exact h.elim | exact hY _ _ _ _ h | exact ⟨h.1, hY _ _ _ _ h.2⟩ | exact ⟨h.1, h.2.1, hY _ _ _ _ h.2.2⟩ | exact ⟨h.1, h.2.1, h.2.2.1, hY _ _ _ _ h.2.2.2⟩ | exact ⟨h.1, fun z => hY _ _ _ _ (h.2.1 z), fun z => hY _ _ _ _ (h.2.2 z)⟩ | exact ⟨h.1, h.2.1, fun z => hY _ _ _ _ (h.2.2.1 z), fun z => hY _ _ _ _ (h.2.2.2 z)⟩ | exact ⟨h.1, fun z => hY _ _ _ _ (h.2.1 z), fun z => hY _ _ _ _ (h.2.2.1 z), fun z => hY _ _ _ _ (h.2.2.2 z)⟩)
theorem m_putZ (ci k : Nat) : FMono (f_putZ ci k) := by
  intro C hC d Q Y Y' hY pc ls st M h
  unfold f_putZ at h ⊢
  first
    | exact h
    | exact hY _ _ _ _ h
    | (split at h <;> first | exact h.elim | exact hY _ _ _ _ h | exact ⟨h.1, hY _ _ _ _ h.2⟩ | exact ⟨h.1, h.2.1, hY _ _ _ _ h.2.2⟩ | exact ⟨h.1, h.2.1, h.2.2.1, hY _ _ _ _ h.2.2.2⟩ | exact ⟨h.1, fun z => hY _ _ _ _ (h.2.1 z), fun z => hY _ _ _ _ (h.2.2 z)⟩ | exact ⟨h.1, h.2.1, fun z => hY _ _ _ _ (h.2.2.1 z), fun z => hY _ _ _ _ (h.2.2.2 z)⟩ | exact ⟨h.1, fun z => hY _ _ _ _ (h.2.1 z), fun z => hY _ _ _ _ (h.2.2.1 z), fun z => hY _ _ _ _ (h.2.2.2 z)⟩)
theorem m_iald  : FMono (f_iald) := by
  intro C hC d Q Y Y' hY pc ls st M h
  unfold f_iald at h ⊢
  first
    | exact h
    | exact hY _ _ _ _ h
    | (split at h <;> first | exact h.elim | exact hY _ _ _ _ h | exact ⟨h.1, hY _ _ _ _ h.2⟩ | exact ⟨h.1, h.2.1, hY _ _ _ _ h.2.2⟩ | exact ⟨h.1, h.2.1, h.2.2.1, hY _ _ _ _ h.2.2.2⟩ | exact ⟨h.1, fun z => hY _ _ _ _ (h.2.1 z), fun z => hY _ _ _ _ (h.2.2 z)⟩ | exact ⟨h.1, h.2.1, fun z => hY _ _ _ _ (h.2.2.1 z), fun z => hY _ _ _ _ (h.2.2.2 z)⟩ | exact ⟨h.1, fun z => hY _ _ _ _ (h.2.1 z), fun z => hY _ _ _ _ (h.2.2.1 z), fun z => hY _ _ _ _ (h.2.2.2 z)⟩)
theorem m_zald  : FMono (f_zald) := by
  intro C hC d Q Y Y' hY pc ls st M h
  unfold f_zald at h ⊢
  first
    | exact h
    | exact hY _ _ _ _ h
    | (split at h <;> first | exact h.elim | exact hY _ _ _ _ h | exact ⟨h.1, hY _ _ _ _ h.2⟩ | exact ⟨h.1, h.2.1, hY _ _ _ _ h.2.2⟩ | exact ⟨h.1, h.2.1, h.2.2.1, hY _ _ _ _ h.2.2.2⟩ | exact ⟨h.1, fun z => hY _ _ _ _ (h.2.1 z), fun z => hY _ _ _ _ (h.2.2 z)⟩ | exact ⟨h.1, h.2.1, fun z => hY _ _ _ _ (h.2.2.1 z), fun z => hY _ _ _ _ (h.2.2.2 z)⟩ | exact ⟨h.1, fun z => hY _ _ _ _ (h.2.1 z), fun z => hY _ _ _ _ (h.2.2.1 z), fun z => hY _ _ _ _ (h.2.2.2 z)⟩)
theorem m_iast  : FMono (f_iast) := by
  intro C hC d Q Y Y' hY pc ls st M h
  unfold f_iast at h ⊢
  first
    | exact h
    | exact hY _ _ _ _ h
    | (split at h <;> first | exact h.elim | exact hY _ _ _ _ h | exact ⟨h.1, hY _ _ _ _ h.2⟩ | exact ⟨h.1, h.2.1, hY _ _ _ _ h.2.2⟩ | exact ⟨h.1, h.2.1, h.2.2.1, hY _ _ _ _ h.2.2.2⟩ | exact ⟨h.1, fun z => hY _ _ _ _ (h.2.1 z), fun z => hY _ _ _ _ (h.2.2 z)⟩ | exact ⟨h.1, h.2.1, fun z => hY _ _ _ _ (h.2.2.1 z), fun z => hY _ _ _ _ (h.2.2.2 z)⟩ | exact ⟨h.1, fun z => hY _ _ _ _ (h.2.1 z), fun z => hY _ _ _ _ (h.2.2.1 z), fun z => hY _ _ _ _ (h.2.2.2 z)⟩)
theorem m_zast  : FMono (f_zast) := by
  intro C hC d Q Y Y' hY pc ls st M h
  unfold f_zast at h ⊢
  first
    | exact h
    | exact hY _ _ _ _ h
    | (split at h <;> first | exact h.elim | exact hY _ _ _ _ h | exact ⟨h.1, hY _ _ _ _ h.2⟩ | exact ⟨h.1, h.2.1, hY _ _ _ _ h.2.2⟩ | exact ⟨h.1, h.2.1, h.2.2.1, hY _ _ _ _ h.2.2.2⟩ | exact ⟨h.1, fun z => hY _ _ _ _ (h.2.1 z), fun z => hY _ _ _ _ (h.2.2 z)⟩ | exact ⟨h.1, h.2.1, fun z => hY _ _ _ _ (h.2.2.1 z), fun z => hY _ _ _ _ (h.2.2.2 z)⟩ | exact ⟨h.1, fun z => hY _ _ _ _ (h.2.1 z), fun z => hY _ _ _ _ (h.2.2.1 z), fun z => hY _ _ _ _ (h.2.2.2 z)⟩)
theorem m_aald  : FMono (f_aald) := by
  intro C hC d Q Y Y' hY pc ls st M h
  unfold f_aald at h ⊢
  first
    | exact h
    | exact hY _ _ _ _ h
    | (split at h <;> first | exact h.elim | exact hY _ _ _ _ h | exact ⟨h.1, hY _ _ _ _ h.2⟩ | exact ⟨h.1, h.2.1, hY _ _ _ _ h.2.2⟩ | exact ⟨h.1, h.2.1, h.2.2.1, hY _ _ _ _ h.2.2.2⟩ | exact ⟨h.1, fun z => hY _ _ _ _ (h.2.1 z), fun z => hY _ _ _ _ (h.2.2 z)⟩ | exact ⟨h.1, h.2.1, fun z => hY _ _ _ _ (h.2.2.1 z), fun z => hY _ _ _ _ (h.2.2.2 z)⟩ | exact ⟨h.1, fun z => hY _ _ _ _ (h.2.1 z), fun z => hY _ _ _ _ (h.2.2.1 z), fun z => hY _ _ _ _ (h.2.2.2 z)⟩)
theorem m_iret  : FMono (f_iret) := by
  intro C hC d Q Y Y' hY pc ls st M h
  unfold f_iret at h ⊢
  first
    | exact h
    | exact hY _ _ _ _ h
    | (split at h <;> first | exact h.elim | exact hY _ _ _ _ h | exact ⟨h.1, hY _ _ _ _ h.2⟩ | exact ⟨h.1, h.2.1, hY _ _ _ _ h.2.2⟩ | exact ⟨h.1, h.2.1, h.2.2.1, hY _ _ _ _ h.2.2.2⟩ | exact ⟨h.1, fun z => hY _ _ _ _ (h.2.1 z), fun z => hY _ _ _ _ (h.2.2 z)⟩ | exact ⟨h.1, h.2.1, fun z => hY _ _ _ _ (h.2.2.1 z), fun z => hY _ _ _ _ (h.2.2.2 z)⟩ | exact ⟨h.1, fun z => hY _ _ _ _ (h.2.1 z), fun z => hY _ _ _ _ (h.2.2.1 z), fun z => hY _ _ _ _ (h.2.2.2 z)⟩)
theorem m_zret  : FMono (f_zret) := by
  intro C hC d Q Y Y' hY pc ls st M h
  unfold f_zret at h ⊢
  first
    | exact h
    | exact hY _ _ _ _ h
    | (split at h <;> first | exact h.elim | exact hY _ _ _ _ h | exact ⟨h.1, hY _ _ _ _ h.2⟩ | exact ⟨h.1, h.2.1, hY _ _ _ _ h.2.2⟩ | exact ⟨h.1, h.2.1, h.2.2.1, hY _ _ _ _ h.2.2.2⟩ | exact ⟨h.1, fun z => hY _ _ _ _ (h.2.1 z), fun z => hY _ _ _ _ (h.2.2 z)⟩ | exact ⟨h.1, h.2.1, fun z => hY _ _ _ _ (h.2.2.1 z), fun z => hY _ _ _ _ (h.2.2.2 z)⟩ | exact ⟨h.1, fun z => hY _ _ _ _ (h.2.1 z), fun z => hY _ _ _ _ (h.2.2.1 z), fun z => hY _ _ _ _ (h.2.2.2 z)⟩)
theorem m_lret  : FMono (f_lret) := by
  intro C hC d Q Y Y' hY pc ls st M h
  unfold f_lret at h ⊢
  first
    | exact h
    | exact hY _ _ _ _ h
    | (split at h <;> first | exact h.elim | exact hY _ _ _ _ h | exact ⟨h.1, hY _ _ _ _ h.2⟩ | exact ⟨h.1, h.2.1, hY _ _ _ _ h.2.2⟩ | exact ⟨h.1, h.2.1, h.2.2.1, hY _ _ _ _ h.2.2.2⟩ | exact ⟨h.1, fun z => hY _ _ _ _ (h.2.1 z), fun z => hY _ _ _ _ (h.2.2 z)⟩ | exact ⟨h.1, h.2.1, fun z => hY _ _ _ _ (h.2.2.1 z), fun z => hY _ _ _ _ (h.2.2.2 z)⟩ | exact ⟨h.1, fun z => hY _ _ _ _ (h.2.1 z), fun z => hY _ _ _ _ (h.2.2.1 z), fun z => hY _ _ _ _ (h.2.2.2 z)⟩)
theorem m_vret  : FMono (f_vret) := by
  intro C hC d Q Y Y' hY pc ls st M h
  unfold f_vret at h ⊢
  first
    | exact h
    | exact hY _ _ _ _ h
    | (split at h <;> first | exact h.elim | exact hY _ _ _ _ h | exact ⟨h.1, hY _ _ _ _ h.2⟩ | exact ⟨h.1, h.2.1, hY _ _ _ _ h.2.2⟩ | exact ⟨h.1, h.2.1, h.2.2.1, hY _ _ _ _ h.2.2.2⟩ | exact ⟨h.1, fun z => hY _ _ _ _ (h.2.1 z), fun z => hY _ _ _ _ (h.2.2 z)⟩ | exact ⟨h.1, h.2.1, fun z => hY _ _ _ _ (h.2.2.1 z), fun z => hY _ _ _ _ (h.2.2.2 z)⟩ | exact ⟨h.1, fun z => hY _ _ _ _ (h.2.1 z), fun z => hY _ _ _ _ (h.2.2.1 z), fun z => hY _ _ _ _ (h.2.2.2 z)⟩)
theorem m_lsw2 (a b : Int) (ta tb dflt : Nat) : FMono (f_lsw2 a b ta tb dflt) := by
  intro C hC d Q Y Y' hY pc ls st M h
  unfold f_lsw2 at h ⊢
  first
    | exact h
    | exact hY _ _ _ _ h
    | (split at h <;> first | exact h.elim | exact hY _ _ _ _ h | exact ⟨h.1, hY _ _ _ _ h.2⟩ | exact ⟨h.1, h.2.1, hY _ _ _ _ h.2.2⟩ | exact ⟨h.1, h.2.1, h.2.2.1, hY _ _ _ _ h.2.2.2⟩ | exact ⟨h.1, fun z => hY _ _ _ _ (h.2.1 z), fun z => hY _ _ _ _ (h.2.2 z)⟩ | exact ⟨h.1, h.2.1, fun z => hY _ _ _ _ (h.2.2.1 z), fun z => hY _ _ _ _ (h.2.2.2 z)⟩ | exact ⟨h.1, fun z => hY _ _ _ _ (h.2.1 z), fun z => hY _ _ _ _ (h.2.2.1 z), fun z => hY _ _ _ _ (h.2.2.2 z)⟩)
theorem swL.mono {x : Int} {Y Y' : Nat → Prop} (hY : ∀ t, Y t → Y' t) : ∀ (v : Int) (ts : List Nat), swL x Y v ts → swL x Y' v ts
  | _, [], h => h
  | v, _ :: ts, h => ⟨fun e => hY _ (h.1 e), swL.mono hY (v + 1) ts h.2⟩
theorem m_tsw (lo hi : Int) (ts : List Nat) (dflt : Nat) : FMono (f_tsw lo hi ts dflt) := by
  intro C hC d Q Y Y' hY pc ls st M h
  unfold f_tsw at h ⊢
  split at h <;> first | exact h.elim | exact ⟨h.1, fun z => hY _ _ _ _ (h.2.1 z), swL.mono (fun t => hY _ _ _ _) _ _ h.2.2⟩
theorem m_callS (k n : Nat) : FMono (f_callS k n) := by
  intro C hC d Q Y Y' hY pc ls st M h
  unfold f_callS at h ⊢
  cases d with
  | zero => exact h
  | succ d => exact ⟨h.1, hC _ _ _ _ _ _ (fun r M2 z => hY _ _ _ _ z) h.2⟩
theorem m_callV (ci k n : Nat) : FMono (f_callV ci k n) := by
  intro C hC d Q Y Y' hY pc ls st M h
  unfold f_callV at h ⊢
  cases d with
  | zero => exact h
  | succ d =>
    refine ⟨h.1, ?_⟩
    have h2 := h.2
    try dsimp only at h2 ⊢
    split at h2
    · exact ⟨h2.1, hC _ _ _ _ _ _ (fun r M2 z => hY _ _ _ _ z) h2.2⟩
    · exact h2.elim
def f_min : tF := fun _ d _ Y pc ls st M => match d with
  | 0 => False
  | _ + 1 => match st with
    | .inl y :: .inl x :: st => iR x ∧ iR y ∧ lenLe st 4 = true ∧ Y (pc + 3) ls (vI (if y < x then y else x) :: st) M
    | _ => False
def f_abs : tF := fun _ d _ Y pc ls st M => match d with
  | 0 => False
  | _ + 1 => match st with
    | .inl x :: st => iR x ∧ lenLe st 4 = true ∧ Y (pc + 3) ls (vI (if 0 ≤ x then x else 0 - x) :: st) M
    | _ => False
theorem m_min : FMono f_min := by
  intro C hC d Q Y Y' hY pc ls st M h
  unfold f_min at h ⊢
  cases d with
  | zero => exact h
  | succ d =>
    dsimp only at h ⊢
    split at h
    · exact ⟨h.1, h.2.1, h.2.2.1, hY _ _ _ _ h.2.2.2⟩
    · exact h.elim
theorem m_abs : FMono f_abs := by
  intro C hC d Q Y Y' hY pc ls st M h
  unfold f_abs at h ⊢
  cases d with
  | zero => exact h
  | succ d =>
    dsimp only at h ⊢
    split at h
    · exact ⟨h.1, h.2.1, hY _ _ _ _ h.2.2⟩
    · exact h.elim

/-! MATCHES in a row: n happenings at ticks t; K p j: place p is of kind j; g the gap, s the span; pt the items -/
def ch (n : Nat) (t : Nat → Int) (K : Nat → Nat → Bool) (g s : Int) (pt : Nat → Nat) : Nat → Nat → Nat → Prop
  | 0, b, e => b = e ∧ e < n ∧ K e (pt 0) = true
  | m + 1, b, e => e < n ∧ K e (pt (m + 1)) = true ∧ t e - t b ≤ s ∧ ∃ q, q < e ∧ ch n t K g s pt m b q ∧ t e - t q ≤ g
def fol (n : Nat) (t : Nat → Int) (K : Nat → Nat → Bool) (g s : Int) (pt : Nat → Nat) (k p : Nat) : Prop := ∃ b q, q < p ∧ ch n t K g s pt k b q ∧ t p - t q ≤ g ∧ t p - t b ≤ s
def LI (n : Nat) (t : Nat → Int) (K : Nat → Nat → Bool) (g s : Int) (pt : Nat → Nat) (k p : Nat) (ce cb : Int) : Prop :=
  (ce = -1 ∧ cb = -1 ∧ ∀ b e, e < p → ¬ ch n t K g s pt k b e) ∨ (∃ b e, e < p ∧ ch n t K g s pt k b e ∧ ce = t e ∧ cb = t b ∧ (∀ b' e', e < e' → e' < p → ¬ ch n t K g s pt k b' e') ∧ ∀ b', ch n t K g s pt k b' e → t b' ≤ t b)
section
variable {n : Nat} {t : Nat → Int} {K : Nat → Nat → Bool} {g s : Int} {pt : Nat → Nat}
theorem ch.lt : ∀ {k b e : Nat}, ch n t K g s pt k b e → e < n ∧ b ≤ e
  | 0, b, e, h => ⟨h.2.1, by have := h.1; omega⟩
  | k + 1, b, e, h => by
    obtain ⟨h1, -, -, q, h2, h3, -⟩ := h
    have := (ch.lt h3).2
    exact ⟨h1, by omega⟩
theorem ch.kd : ∀ {k b e : Nat}, ch n t K g s pt k b e → K e (pt k) = true
  | 0, _, _, h => h.2.2
  | _ + 1, _, _, h => h.2.1
theorem ch_fol {k p : Nat} : (∃ b, ch n t K g s pt (k + 1) b p) ↔ p < n ∧ K p (pt (k + 1)) = true ∧ fol n t K g s pt k p := by
  constructor
  · rintro ⟨b, h1, h2, h3, q, h4, h5, h6⟩
    exact ⟨h1, h2, b, q, h4, h5, h6, h3⟩
  · rintro ⟨h1, h2, b, q, h4, h5, h6, h3⟩
    exact ⟨b, h1, h2, h3, q, h4, h5, h6⟩
theorem ch.mono (hs : ∀ p q, p ≤ q → q < n → t p ≤ t q) : ∀ (k e1 e2 b1 : Nat), e1 < e2 → ch n t K g s pt k b1 e1 → (∃ b, ch n t K g s pt k b e2) → ∃ b2, ch n t K g s pt k b2 e2 ∧ t b1 ≤ t b2
  | 0, e1, e2, b1, h, h1, ⟨b, h2⟩ => by
    refine ⟨b, h2, ?_⟩
    rw [h1.1, h2.1]
    exact hs _ _ (by omega) h2.2.1
  | k + 1, e1, e2, b1, h, h1, ⟨b, h2⟩ => by
    obtain ⟨a1, a2, a3, q1, a4, a5, a6⟩ := h1
    obtain ⟨c1, c2, c3, q2, c4, c5, c6⟩ := h2
    -- the better of two begins, with a place before e2
    have pick : ∀ (q x y : Nat), q < e2 → ch n t K g s pt k x q → ch n t K g s pt k y q → t e2 - t q ≤ g → t b1 ≤ t x → t b ≤ t y → ∃ b2, ch n t K g s pt (k + 1) b2 e2 ∧ t b1 ≤ t b2 := by
      intro q x y hq hx hy hg h3 h4
      by_cases z : t x ≤ t y
      · exact ⟨y, ⟨c1, c2, by omega, q, hq, hy, hg⟩, by omega⟩
      · exact ⟨x, ⟨c1, c2, by omega, q, hq, hx, hg⟩, by omega⟩
    rcases Nat.lt_trichotomy q1 q2 with z | z | z
    · obtain ⟨b2, d1, d2⟩ := ch.mono hs k q1 q2 b1 z a5 ⟨b, c5⟩
      exact pick q2 b2 b c4 d1 c5 c6 d2 (Int.le_refl _)
    · subst z
      exact pick q1 b1 b c4 a5 c5 c6 (Int.le_refl _) (Int.le_refl _)
    · obtain ⟨b2, d1, d2⟩ := ch.mono hs k q2 q1 b z c5 ⟨b1, a5⟩
      have := hs q2 q1 (by omega) (by omega)
      exact pick q1 b1 b2 (by omega) a5 d1 (by omega) (Int.le_refl _) d2
theorem LI_fol (hs : ∀ p q, p ≤ q → q < n → t p ≤ t q) (h0 : ∀ p, p < n → 0 ≤ t p) {k p : Nat} {ce cb : Int} (h : LI n t K g s pt k p ce cb) (hp : p < n) : (ce ≠ -1 ∧ t p - ce ≤ g ∧ t p - cb ≤ s) ↔ fol n t K g s pt k p := by
  rcases h with ⟨h1, h2, h3⟩ | ⟨b, e, h1, h2, h3, h4, h5, h6⟩
  · constructor
    · intro z; exact absurd h1 z.1
    · rintro ⟨b, q, z1, z2, -⟩; exact absurd z2 (h3 b q z1)
  · have he := ch.lt h2
    constructor
    · rintro ⟨z1, z2, z3⟩
      exact ⟨b, e, h1, h2, by omega, by omega⟩
    · rintro ⟨b', q, z1, z2, z3, z4⟩
      have hne : 0 ≤ t e := h0 e he.1
      have hq : q ≤ e := Nat.le_of_not_lt fun z => h5 b' q z z1 z2
      have hte := hs q e hq he.1
      refine ⟨by omega, by omega, ?_⟩
      rcases Nat.lt_or_ge q e with y | y
      · obtain ⟨b2, y1, y2⟩ := ch.mono hs k q e b' y z2 ⟨b, h2⟩
        have := h6 b2 y1
        omega
      · have : q = e := by omega
        subst this
        have := h6 b' z2
        omega
theorem LI.keep {k p : Nat} {ce cb : Int} (h : LI n t K g s pt k p ce cb) (hn : ∀ b, ¬ ch n t K g s pt k b p) : LI n t K g s pt k (p + 1) ce cb := by
  rcases h with ⟨h1, h2, h3⟩ | ⟨b, e, h1, h2, h3, h4, h5, h6⟩
  · refine Or.inl ⟨h1, h2, fun b e he => ?_⟩
    rcases Nat.lt_or_ge e p with z | z
    · exact h3 b e z
    · rw [show e = p by omega]; exact hn b
  · refine Or.inr ⟨b, e, by omega, h2, h3, h4, fun b' e' y1 y2 => ?_, h6⟩
    rcases Nat.lt_or_ge e' p with z | z
    · exact h5 b' e' y1 z
    · rw [show e' = p by omega]; exact hn b'
theorem LI.zero {p : Nat} (hp : p < n) (hK : K p (pt 0) = true) : LI n t K g s pt 0 (p + 1) (t p) (t p) :=
  Or.inr ⟨p, p, by omega, ⟨rfl, hp, hK⟩, rfl, rfl, fun _ _ _ _ => by omega, fun b' h => by rw [h.1]; exact Int.le_refl _⟩
theorem LI.succ (hs : ∀ p q, p ≤ q → q < n → t p ≤ t q) {k p : Nat} {ce cb : Int} (h : LI n t K g s pt k p ce cb) (hp : p < n) (hK : K p (pt (k + 1)) = true) (hf : fol n t K g s pt k p) : LI n t K g s pt (k + 1) (p + 1) (t p) cb := by
  obtain ⟨b0, q0, f1, f2, f3, f4⟩ := hf
  rcases h with ⟨h1, h2, h3⟩ | ⟨b, e, h1, h2, h3, h4, h5, h6⟩
  · exact absurd f2 (h3 b0 q0 f1)
  · have he := ch.lt h2
    have best : ∀ b' q', q' < p → ch n t K g s pt k b' q' → t b' ≤ t b := by
      intro b' q' y1 y2
      have hq : q' ≤ e := Nat.le_of_not_lt fun z => h5 b' q' z y1 y2
      rcases Nat.lt_or_ge q' e with y | y
      · obtain ⟨b2, y3, y4⟩ := ch.mono hs k q' e b' y y2 ⟨b, h2⟩
        have := h6 b2 y3
        omega
      · have : q' = e := by omega
        subst this
        exact h6 b' y2
    have hq0 : q0 ≤ e := Nat.le_of_not_lt fun z => h5 b0 q0 z f1 f2
    have ht := hs q0 e hq0 he.1
    have hb := best b0 q0 f1 f2
    refine Or.inr ⟨b, p, by omega, ⟨hp, hK, by omega, e, h1, h2, by omega⟩, rfl, h4, fun _ _ _ _ => by omega, fun b' h => ?_⟩
    obtain ⟨-, -, -, q', y1, y2, -⟩ := h
    exact best b' q' y1 y2
theorem LI.init {k : Nat} : LI n t K g s pt k 0 (-1) (-1) := Or.inl ⟨rfl, rfl, fun _ _ h => by omega⟩
theorem ch.congr {pt' : Nat → Nat} : ∀ {k b e : Nat}, (∀ j, j ≤ k → pt' j = pt j) → ch n t K g s pt k b e → ch n t K g s pt' k b e
  | 0, b, e, h, hc => ⟨hc.1, hc.2.1, by rw [h 0 (by omega)]; exact hc.2.2⟩
  | k + 1, b, e, h, hc => by
    obtain ⟨h1, h2, h3, q, h4, h5, h6⟩ := hc
    exact ⟨h1, by rw [h (k + 1) (by omega)]; exact h2, h3, q, h4, ch.congr (fun j hj => h j (by omega)) h5, h6⟩
end
noncomputable def tf (p : Prop) : Int := @ite Int p (Classical.propDecidable p) 1 0
theorem tf_t {p : Prop} (h : p) : tf p = 1 := by unfold tf; rw [if_pos h]
theorem tf_f {p : Prop} (h : ¬ p) : tf p = 0 := by unfold tf; rw [if_neg h]
theorem tf_congr {p q : Prop} (h : p ↔ q) : tf p = tf q := by rw [propext h]
theorem tf_r (p : Prop) : tf p = 0 ∨ tf p = 1 := by
  rcases Classical.em p with h | h
  · exact Or.inr (tf_t h)
  · exact Or.inl (tf_f h)
/-! in the memory's words: row cell i of N -/
abbrev nR (N : tM) (i : Nat) : Nat := (N i 4).toNat
abbrev tR (N : tM) (i : Nat) : Nat → Int := N (i + 24)
def KR (N : tM) (i : Nat) : Nat → Nat → Bool := fun p j => (clm (N 3) 16 (N (i + 48) p)).testBit j
abbrev chR (N : tM) (i : Nat) (l : List Nat) : Nat → Nat → Nat → Prop := ch (nR N i) (tR N i) (KR N i) (N 4 0) (N 4 1) (fun k => l.getD k 0)
abbrev folR (N : tM) (i : Nat) (l : List Nat) : Nat → Nat → Prop := fol (nR N i) (tR N i) (KR N i) (N 4 0) (N 4 1) (fun k => l.getD k 0)
abbrev LIR (N : tM) (i : Nat) (l : List Nat) : Nat → Nat → Int → Int → Prop := LI (nR N i) (tR N i) (KR N i) (N 4 0) (N 4 1) (fun k => l.getD k 0)
/-- row i has the pattern l -/
def hasR (N : tM) (i : Nat) (l : List Nat) : Prop := ∃ b e, chR N i l (l.length - 1) b e
/-! what is taken up -/
def fitF (w : Nat) (l : List Nat) : Nat := (if 0 < l.length ∧ w.testBit (l.getD 0 0) = true then 1 else 0) + (if 1 < l.length ∧ w.testBit (l.getD 1 0) = true then 2 else 0) + (if 2 < l.length ∧ w.testBit (l.getD 2 0) = true then 4 else 0) + (if 3 < l.length ∧ w.testBit (l.getD 3 0) = true then 8 else 0)
theorem fitF_lt (w : Nat) (l : List Nat) : fitF w l < 16 := by
  unfold fitF
  repeat' split
  all_goals omega
theorem fitF_bit {w : Nat} {l : List Nat} (h : l.length ≤ 4) (k : Nat) : (fitF w l).testBit k = true ↔ k < l.length ∧ w.testBit (l.getD k 0) = true := by
  have big : 4 ≤ k → ((fitF w l).testBit k = true ↔ k < l.length ∧ w.testBit (l.getD k 0) = true) := by
    intro hk
    have : (fitF w l).testBit k = false := Nat.testBit_lt_two_pow (Nat.lt_of_lt_of_le (fitF_lt w l) (show 2 ^ 4 ≤ 2 ^ k from Nat.pow_le_pow_right (by omega) hk))
    rw [this]
    constructor
    · intro z; cases z
    · intro z; omega
  have key : ∀ (p0 p1 p2 p3 : Bool), ((if p0 = true then 1 else 0) + (if p1 = true then 2 else 0) + (if p2 = true then 4 else 0) + (if p3 = true then 8 else 0) : Nat).testBit 0 = p0 ∧ ((if p0 = true then 1 else 0) + (if p1 = true then 2 else 0) + (if p2 = true then 4 else 0) + (if p3 = true then 8 else 0) : Nat).testBit 1 = p1 ∧ ((if p0 = true then 1 else 0) + (if p1 = true then 2 else 0) + (if p2 = true then 4 else 0) + (if p3 = true then 8 else 0) : Nat).testBit 2 = p2 ∧ ((if p0 = true then 1 else 0) + (if p1 = true then 2 else 0) + (if p2 = true then 4 else 0) + (if p3 = true then 8 else 0) : Nat).testBit 3 = p3 := by decide
  have h2 := key (decide (0 < l.length ∧ w.testBit (l.getD 0 0) = true)) (decide (1 < l.length ∧ w.testBit (l.getD 1 0) = true)) (decide (2 < l.length ∧ w.testBit (l.getD 2 0) = true)) (decide (3 < l.length ∧ w.testBit (l.getD 3 0) = true))
  simp only [decide_eq_true_eq] at h2
  obtain ⟨a0, a1, a2, a3⟩ := h2
  match k with
  | 0 => unfold fitF; rw [a0, decide_eq_true_eq]
  | 1 => unfold fitF; rw [a1, decide_eq_true_eq]
  | 2 => unfold fitF; rw [a2, decide_eq_true_eq]
  | 3 => unfold fitF; rw [a3, decide_eq_true_eq]
  | k + 4 => exact big (by omega)
def TU (M : tM) (l : List Nat) : Prop := M 4 3 = l.length ∧ ∀ o : Nat, o < 16 → M 5 o = ((fitF (clm (M 3) 16 (o : Int)) l : Nat) : Int)

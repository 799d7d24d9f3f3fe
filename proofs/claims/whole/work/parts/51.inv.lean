/-! THE LAW: what holds between two calls, and that calls which change nothing but scratch keep it -/
def J1 (M : tM) : Prop := WFk M ∧ RMk M M
def J2 (M : tM) : Prop := WFr M ∧ RMr M M ∧ RMh M M
def J3 (M : tM) : Prop := WFg M ∧ RMg M M
def J4 (M : tM) : Prop := WFf M ∧ RMf M M
def J (M : tM) : Prop := J1 M ∧ J2 M ∧ J3 M ∧ J4 M
theorem J1.of {M M2 : tM} (h : J1 M) (e2 : M2 2 = M 2) (e3 : M2 3 = M 3) (e87 : M2 87 = M 87) : J1 M2 := by
  obtain ⟨h1, h2⟩ := h
  refine ⟨?_, ?_⟩
  · unfold WFk at h1 ⊢
    rw [e2, e3]
    exact h1
  · intro k hk
    rw [e87, e3]
    exact h2 k hk
theorem J2.of {M M2 : tM} (h : J2 M) (e0 : M2 0 = M 0) (er : ∀ a, 14 ≤ a → a < 86 → M2 a = M a) (m0 : M2 86 0 = M 86 0) (m1 : M2 86 1 = M 86 1) (em : ∀ a, 88 ≤ a → a < 93 → M2 a = M a) : J2 M2 := by
  obtain ⟨h1, h2, h3⟩ := h
  have hw := h1.1
  refine ⟨⟨by rw [e0]; exact h1.1, fun r hr => ?_⟩, ⟨by rw [m0, e0]; exact h2.1, fun r hr => ?_, fun r a b => ?_⟩, ?_⟩
  · rw [e0] at hr
    obtain ⟨a, b, c⟩ := h1.2 r hr
    refine ⟨a.congr (er _ (by omega) (by omega)) (er _ (by omega) (by omega)) (er _ (by omega) (by omega)), ?_, ?_⟩
    · rw [er (14 + r) (by omega) (by omega)]; exact b
    · rw [er (14 + r) (by omega) (by omega)]; exact c
  · rw [e0] at hr
    rw [er (14 + r) (by omega) (by omega), er (14 + r + 24) (by omega) (by omega), er (14 + r + 48) (by omega) (by omega), em 88 (by decide) (by decide), em 89 (by decide) (by decide), em 90 (by decide) (by decide), em 91 (by decide) (by decide), em 92 (by decide) (by decide)]
    exact h2.2.1 r hr
  · rw [em 89 (by decide) (by decide), em 90 (by decide) (by decide)]
    rw [e0] at b
    exact h2.2.2 r a b
  · unfold RMh at h3 ⊢
    rw [m1, e0, h3]
    exact sumI_congr _ (fun r hr => by rw [er (14 + r) (by omega) (by omega)])
theorem J3.of {M M2 : tM} (h : J3 M) (g0 : M2 4 0 = M 4 0) (g1 : M2 4 1 = M 4 1) (m2 : M2 86 2 = M 86 2) (m3 : M2 86 3 = M 86 3) : J3 M2 := by
  obtain ⟨h1, h2, h3⟩ := h
  exact ⟨⟨by rw [g0]; exact h1.1, by rw [g1]; exact h1.2⟩, by rw [m2, g0]; exact h2, by rw [m3, g1]; exact h3⟩
theorem J4.of {M M2 : tM} (h : J4 M) (e9 : M2 9 2 = M 9 2) (e10 : M2 10 = M 10) (e11 : M2 11 = M 11) (m10 : M2 86 10 = M 86 10) (em : ∀ a, 93 ≤ a → a < 96 → M2 a = M a) : J4 M2 := by
  obtain ⟨h1, h2⟩ := h
  refine ⟨?_, ?_⟩
  · unfold WFf at h1 ⊢
    rw [e9, e10, e11]
    exact h1
  · unfold RMf at h2 ⊢
    rw [e9, e10, e11, m10, em 93 (by decide) (by decide), em 94 (by decide) (by decide), em 95 (by decide) (by decide)]
    exact h2
theorem J.esc {M M2 : tM} (h : J M) (hE : Esc M M2) : J M2 :=
  ⟨h.1.of hE.c2 hE.c3 (hE.row (by decide)), h.2.1.of hE.c0 (fun a h1 _ => hE.row h1) (by rw [hE.row (a := 86) (by decide)]) (by rw [hE.row (a := 86) (by decide)]) (fun a h1 _ => hE.row (by omega)), h.2.2.1.of hE.g0 hE.g1 (by rw [hE.row (a := 86) (by decide)]) (by rw [hE.row (a := 86) (by decide)]), h.2.2.2.of (by rw [hE.c9]) hE.c10 hE.c11 (by rw [hE.row (a := 86) (by decide)]) (fun a h1 _ => hE.row (by omega))⟩
theorem J.em {M M2 : tM} (h : J M) (hE : Em M M2) : J M2 :=
  ⟨h.1.of (hE.lo (by decide)) (hE.lo (by decide)) (hE.hi (by decide) (by decide)), h.2.1.of (hE.lo (by decide)) (fun a _ h2 => hE.lo h2) (hE.m (by decide)) (hE.m (by decide)) (fun a h1 h2 => hE.hi (by omega) (by omega)), h.2.2.1.of (by rw [hE.lo (a := 4) (by decide)]) (by rw [hE.lo (a := 4) (by decide)]) (hE.m (by decide)) (hE.m (by decide)), h.2.2.2.of (by rw [hE.lo (a := 9) (by decide)]) (hE.lo (by decide)) (hE.lo (by decide)) (hE.m (by decide)) (fun a h1 h2 => hE.hi (by omega) (by omega))⟩
theorem RMk.cm {M M2 N : tM} (e : ∀ a, 86 ≤ a → M2 a = M a) (h : RMk M N) : RMk M2 N := by
  unfold RMk at h ⊢
  rw [e 87 (by decide)]
  exact h
theorem RMr.cm {M M2 N : tM} (e : ∀ a, 86 ≤ a → M2 a = M a) (h : RMr M N) : RMr M2 N := by
  unfold RMr at h ⊢
  rw [e 86 (by decide), e 88 (by decide), e 89 (by decide), e 90 (by decide), e 91 (by decide), e 92 (by decide)]
  exact h
theorem RMg.cm {M M2 N : tM} (e : ∀ a, 86 ≤ a → M2 a = M a) (h : RMg M N) : RMg M2 N := by
  unfold RMg at h ⊢
  rw [e 86 (by decide)]
  exact h
theorem RMh.cm {M M2 N : tM} (e : ∀ a, 86 ≤ a → M2 a = M a) (h : RMh M N) : RMh M2 N := by
  unfold RMh at h ⊢
  rw [e 86 (by decide)]
  exact h
theorem RMf.cm {M M2 N : tM} (e : ∀ a, 86 ≤ a → M2 a = M a) (h : RMf M N) : RMf M2 N := by
  unfold RMf at h ⊢
  rw [e 86 (by decide), e 93 (by decide), e 94 (by decide), e 95 (by decide)]
  exact h
theorem Esc.up {M M2 : tM} (hE : Esc M M2) : ∀ a, 86 ≤ a → M2 a = M a := fun _ h => hE.row (by omega)
theorem Ef.up {M M2 : tM} (hE : Ef M M2) : ∀ a, 86 ≤ a → M2 a = M a := fun _ h => hE.row (by omega)
theorem lay_o {M : tM} {x : Nat} {y : Int} {a : Nat} (h2 : a ≠ 2) (h3 : a ≠ 3) : layM M x y a = M a := by
  unfold layM
  rw [wAll_o h2, upM_o h3]
theorem J.lay {M : tM} (h : J M) {x y : Int} (q1 : 0 ≤ x ∧ x < 16) (q2 : -1 ≤ y ∧ y < 16) (q3 : y = -1 ∨ (clm (M 3) 16 y).testBit x.toNat = false) : J (upM (layM M x.toNat y) 87 x.toNat y) := by
  have hl := h.1.1.lay (x := x.toNat) (by omega) (y := y) (by omega) q3
  have o : ∀ a, a ≠ 2 → a ≠ 3 → a ≠ 87 → upM (layM M x.toNat y) 87 x.toNat y a = M a := fun a h2 h3 h87 => by rw [upM_o h87, lay_o h2 h3]
  refine ⟨⟨?_, ?_⟩, h.2.1.of (o _ (by decide) (by decide) (by decide)) (fun a h1 h2 => o _ (by omega) (by omega) (by omega)) (by rw [o 86 (by decide) (by decide) (by decide)]) (by rw [o 86 (by decide) (by decide) (by decide)]) (fun a h1 h2 => o _ (by omega) (by omega) (by omega)), h.2.2.1.of (by rw [o 4 (by decide) (by decide) (by decide)]) (by rw [o 4 (by decide) (by decide) (by decide)]) (by rw [o 86 (by decide) (by decide) (by decide)]) (by rw [o 86 (by decide) (by decide) (by decide)]), h.2.2.2.of (by rw [o 9 (by decide) (by decide) (by decide)]) (o _ (by decide) (by decide) (by decide)) (o _ (by decide) (by decide) (by decide)) (by rw [o 86 (by decide) (by decide) (by decide)]) (fun a h1 h2 => o _ (by omega) (by omega) (by omega))⟩
  · unfold WFk at hl ⊢
    rw [upM_o (by decide), upM_o (by decide)]
    exact hl
  · intro k hk
    have e3 : upM (layM M x.toNat y) 87 x.toNat y 3 = upM M 3 x.toNat y 3 := by
      rw [upM_o (by decide)]
      exact wAll_o (by decide)
    rw [e3]
    by_cases q : k = x.toNat
    · rw [q, upM_eq, upM_eq]
    · rw [upM_nj q, upM_nj q, lay_o (by decide) (by decide)]
      exact h.1.2 k hk
theorem J.gap {M : tM} (h : J M) {x : Int} (q1 : 0 ≤ x) (q2 : x ≤ 9999) : J (upM (upM M 4 0 x) 86 2 x) := by
  have o : ∀ a, a ≠ 4 → a ≠ 86 → upM (upM M 4 0 x) 86 2 x a = M a := fun a h1 h2 => by rw [upM_o h2, upM_o h1]
  have m : ∀ b, b ≠ 2 → upM (upM M 4 0 x) 86 2 x 86 b = M 86 b := fun b hb => by rw [upM_nj hb, upM_ni (by decide)]
  refine ⟨h.1.of (o _ (by decide) (by decide)) (o _ (by decide) (by decide)) (o _ (by decide) (by decide)), h.2.1.of (o _ (by decide) (by decide)) (fun a h1 h2 => o _ (by omega) (by omega)) (m _ (by decide)) (m _ (by decide)) (fun a h1 h2 => o _ (by omega) (by omega)), ⟨⟨?_, ?_⟩, ?_, ?_⟩, h.2.2.2.of (by rw [o 9 (by decide) (by decide)]) (o _ (by decide) (by decide)) (o _ (by decide) (by decide)) (m _ (by decide)) (fun a h1 h2 => o _ (by omega) (by omega))⟩
  · rw [upM_ni (by decide), upM_eq]; exact ⟨q1, q2⟩
  · rw [upM_ni (by decide), upM_nj (by decide)]; exact h.2.2.1.1.2
  · rw [upM_eq, upM_ni (by decide), upM_eq]
  · rw [m _ (by decide), upM_ni (by decide), upM_nj (by decide)]; exact h.2.2.1.2.2
theorem J.span {M : tM} (h : J M) {x : Int} (q1 : 0 ≤ x) (q2 : x ≤ 9999) : J (upM (upM M 4 1 x) 86 3 x) := by
  have o : ∀ a, a ≠ 4 → a ≠ 86 → upM (upM M 4 1 x) 86 3 x a = M a := fun a h1 h2 => by rw [upM_o h2, upM_o h1]
  have m : ∀ b, b ≠ 3 → upM (upM M 4 1 x) 86 3 x 86 b = M 86 b := fun b hb => by rw [upM_nj hb, upM_ni (by decide)]
  refine ⟨h.1.of (o _ (by decide) (by decide)) (o _ (by decide) (by decide)) (o _ (by decide) (by decide)), h.2.1.of (o _ (by decide) (by decide)) (fun a h1 h2 => o _ (by omega) (by omega)) (m _ (by decide)) (m _ (by decide)) (fun a h1 h2 => o _ (by omega) (by omega)), ⟨⟨?_, ?_⟩, ?_, ?_⟩, h.2.2.2.of (by rw [o 9 (by decide) (by decide)]) (o _ (by decide) (by decide)) (o _ (by decide) (by decide)) (m _ (by decide)) (fun a h1 h2 => o _ (by omega) (by omega))⟩
  · rw [upM_ni (by decide), upM_nj (by decide)]; exact h.2.2.1.1.1
  · rw [upM_ni (by decide), upM_eq]; exact ⟨q1, q2⟩
  · rw [m _ (by decide), upM_ni (by decide), upM_nj (by decide)]; exact h.2.2.1.2.1
  · rw [upM_eq, upM_ni (by decide), upM_eq]
/-- an object of the class, or the model, is another at scattered places -/
theorem J.rest {M M2 : tM} (h : J M) (h2 : J2 M2) (o : ∀ a, a ≠ 0 → ¬ (14 ≤ a ∧ a < 86) → a ≠ 86 → ¬ (88 ≤ a ∧ a < 93) → M2 a = M a) (m : ∀ b, b ≠ 0 → b ≠ 1 → M2 86 b = M 86 b) : J M2 :=
  ⟨h.1.of (o _ (by decide) (by decide) (by decide) (by decide)) (o _ (by decide) (by decide) (by decide) (by decide)) (o _ (by decide) (by decide) (by decide) (by decide)), h2, h.2.2.1.of (by rw [o 4 (by decide) (by decide) (by decide) (by decide)]) (by rw [o 4 (by decide) (by decide) (by decide) (by decide)]) (m _ (by decide) (by decide)) (m _ (by decide) (by decide)), h.2.2.2.of (by rw [o 9 (by decide) (by decide) (by decide) (by decide)]) (o _ (by decide) (by decide) (by decide) (by decide)) (o _ (by decide) (by decide) (by decide) (by decide)) (m _ (by decide) (by decide)) (fun a h1 h2 => o _ (by omega) (by omega) (by omega) (by omega))⟩
theorem J.take {M : tM} (h : J M) {r : Nat} {x : Int} (hr : (r : Int) < M 0 5) (hx : x = 0 ∨ x = 1) : J (upM (upM M (14 + r) 1 x) 89 r (1 - x)) := by
  obtain ⟨h1, h2, h3⟩ := h.2.1
  have hw := h1.1
  have o : ∀ a, a ≠ 14 + r → a ≠ 89 → upM (upM M (14 + r) 1 x) 89 r (1 - x) a = M a := fun a g1 g2 => by rw [upM_o g2, upM_o g1]
  have mr : ∀ r2 b, b ≠ 1 → r2 < 24 → upM (upM M (14 + r) 1 x) 89 r (1 - x) (14 + r2) b = M (14 + r2) b := fun r2 b hb h24 => by rw [upM_ni (by omega), upM_nj hb]
  refine h.rest ⟨⟨by rw [o 0 (by omega) (by decide)]; exact hw, fun r2 hr2 => ?_⟩, ⟨by rw [o 86 (by omega) (by decide), o 0 (by omega) (by decide)]; exact h2.1, fun r2 hr2 => ?_, fun r2 a b => ?_⟩, ?_⟩ (fun a g1 g2 g3 g4 => o a (by omega) (by omega)) (fun b _ _ => by rw [o 86 (by omega) (by decide)])
  · rw [o 0 (by omega) (by decide)] at hr2
    obtain ⟨a, b, c⟩ := h1.2 r2 hr2
    have e24 : upM (upM M (14 + r) 1 x) 89 r (1 - x) (14 + r2 + 24) = M (14 + r2 + 24) := o _ (by omega) (by omega)
    have e48 : upM (upM M (14 + r) 1 x) 89 r (1 - x) (14 + r2 + 48) = M (14 + r2 + 48) := o _ (by omega) (by omega)
    refine ⟨?_, ?_, ?_⟩
    · unfold RowOk at a ⊢
      rw [mr r2 4 (by decide) (by omega), e24, e48]
      exact a
    · rw [mr r2 0 (by decide) (by omega)]; exact b
    · by_cases q : r2 = r
      · rw [q, upM_ni (by omega), upM_eq]; exact hx
      · rw [o _ (by omega) (by omega)]; exact c
  · rw [o 0 (by omega) (by decide)] at hr2
    obtain ⟨a, b, c, e⟩ := h2.2.1 r2 hr2
    have e24 : upM (upM M (14 + r) 1 x) 89 r (1 - x) (14 + r2 + 24) = M (14 + r2 + 24) := o _ (by omega) (by omega)
    have e48 : upM (upM M (14 + r) 1 x) 89 r (1 - x) (14 + r2 + 48) = M (14 + r2 + 48) := o _ (by omega) (by omega)
    refine ⟨?_, ?_, ?_, ?_⟩
    · rw [o 88 (by omega) (by decide), mr r2 0 (by decide) (by omega)]; exact a
    · by_cases q : r2 = r
      · rw [q, upM_eq, upM_ni (by omega), upM_eq]
      · rw [upM_nj q, upM_ni (by omega), o (14 + r2) (by omega) (by omega)]; exact b
    · rw [o 90 (by omega) (by decide), mr r2 4 (by decide) (by omega)]; exact c
    · rw [mr r2 4 (by decide) (by omega), o 91 (by omega) (by decide), o 92 (by omega) (by decide), e24, e48]; exact e
  · rw [o 0 (by omega) (by decide)] at b
    rw [o 90 (by omega) (by decide), upM_nj (by omega), upM_ni (by omega)]
    exact h2.2.2 r2 a b
  · unfold RMh at h3 ⊢
    rw [o 86 (by omega) (by decide), o 0 (by omega) (by decide), h3]
    exact sumI_congr _ (fun r2 hr2 => by rw [mr r2 4 (by decide) (by omega)])
theorem J.row {M : tM} (h : J M) {x : Int} (q1 : 0 ≤ x ∧ x ≤ 1) (q2 : M 0 5 < 24) : J (upM (upM (upM (upM (upM (upM M (14 + (M 0 5).toNat) 0 x) (14 + (M 0 5).toNat) 1 1) (14 + (M 0 5).toNat) 4 0) 0 5 (M 0 5 + 1)) 88 (M 0 5).toNat x) 86 0 (M 0 5 + 1)) := by
  obtain ⟨h1, h2, h3⟩ := h.2.1
  have hw := h1.1
  obtain ⟨z, hz⟩ : ∃ z : Nat, M 0 5 = z := ⟨(M 0 5).toNat, by omega⟩
  have hzt : (M 0 5).toNat = z := by omega
  rw [hzt]
  generalize hM2 : upM (upM (upM (upM (upM (upM M (14 + z) 0 x) (14 + z) 1 1) (14 + z) 4 0) 0 5 (M 0 5 + 1)) 88 z x) 86 0 (M 0 5 + 1) = M2
  have o : ∀ a, a ≠ 14 + z → a ≠ 0 → a ≠ 86 → a ≠ 88 → M2 a = M a := fun a g1 g2 g3 g4 => by rw [← hM2, upM_o g3, upM_o g4, upM_o g2, upM_o g1, upM_o g1, upM_o g1]
  have m86 : ∀ b, b ≠ 0 → M2 86 b = M 86 b := fun b hb => by rw [← hM2, upM_nj hb, upM_ni (by decide), upM_ni (by decide), upM_ni (by omega), upM_ni (by omega), upM_ni (by omega)]
  have m860 : M2 86 0 = M 0 5 + 1 := by rw [← hM2, upM_eq]
  have m05 : M2 0 5 = M 0 5 + 1 := by rw [← hM2, upM_ni (by decide), upM_ni (by decide), upM_eq]
  have m88 : ∀ b, b ≠ z → M2 88 b = M 88 b := fun b hb => by rw [← hM2, upM_ni (by decide), upM_nj hb, upM_ni (by decide), upM_ni (by omega), upM_ni (by omega), upM_ni (by omega)]
  have m88z : M2 88 z = x := by rw [← hM2, upM_ni (by decide), upM_eq]
  have z0 : M2 (14 + z) 0 = x := by rw [← hM2, upM_ni (by omega), upM_ni (by omega), upM_ni (by omega), upM_nj (by decide), upM_nj (by decide), upM_eq]
  have z1 : M2 (14 + z) 1 = 1 := by rw [← hM2, upM_ni (by omega), upM_ni (by omega), upM_ni (by omega), upM_nj (by decide), upM_eq]
  have z4 : M2 (14 + z) 4 = 0 := by rw [← hM2, upM_ni (by omega), upM_ni (by omega), upM_ni (by omega), upM_eq]
  clear hM2
  refine h.rest ⟨⟨by rw [m05]; omega, fun r hr => ?_⟩, ⟨by rw [m860, m05], fun r hr => ?_, fun r a b => ?_⟩, ?_⟩ (fun a g1 g2 g3 g4 => o a (by omega) (by omega) (by omega) (by omega)) (fun b g1 g2 => m86 b g1)
  · rw [m05] at hr
    by_cases q : r = z
    · rw [q]
      refine ⟨⟨by rw [z4]; omega, fun p hp => by rw [z4] at hp; omega, fun p q _ hq => by rw [z4] at hq; omega⟩, by rw [z0]; omega, by rw [z1]; omega⟩
    · obtain ⟨a, b, c⟩ := h1.2 r (by omega)
      refine ⟨a.congr (o _ (by omega) (by omega) (by omega) (by omega)) (o _ (by omega) (by omega) (by omega) (by omega)) (o _ (by omega) (by omega) (by omega) (by omega)), ?_, ?_⟩
      · rw [o (14 + r) (by omega) (by omega) (by omega) (by omega)]; exact b
      · rw [o (14 + r) (by omega) (by omega) (by omega) (by omega)]; exact c
  · rw [m05] at hr
    rw [o 89 (by omega) (by decide) (by decide) (by decide), o 90 (by omega) (by decide) (by decide) (by decide), o 91 (by omega) (by decide) (by decide) (by decide), o 92 (by omega) (by decide) (by decide) (by decide)]
    by_cases q : r = z
    · have := h2.2.2 z (by omega) (by omega)
      rw [q, m88z, z0, z1, z4]
      exact ⟨rfl, by rw [this.1]; omega, this.2, fun p hp => by omega⟩
    · rw [m88 r q, o (14 + r) (by omega) (by omega) (by omega) (by omega), o (14 + r + 24) (by omega) (by omega) (by omega) (by omega), o (14 + r + 48) (by omega) (by omega) (by omega) (by omega)]
      exact h2.2.1 r (by omega)
  · rw [m05] at b
    rw [o 89 (by omega) (by decide) (by decide) (by decide), o 90 (by omega) (by decide) (by decide) (by decide)]
    exact h2.2.2 r a (by omega)
  · unfold RMh at h3 ⊢
    rw [m86 1 (by decide), m05, h3, show (M 0 5 + 1).toNat = z + 1 by omega, hzt]
    show _ = sumI _ z + M2 (14 + z) 4
    rw [z4, Int.add_zero]
    exact sumI_congr _ (fun r hr => by rw [o (14 + r) (by omega) (by omega) (by omega) (by omega)])
theorem sumI_one {f g : Nat → Int} {r : Nat} (hr : g r = f r + 1) : ∀ n : Nat, (∀ j, j < n → j ≠ r → g j = f j) → sumI g n = sumI f n + (if r < n then 1 else 0)
  | 0, _ => by rw [if_neg (by omega)]; rfl
  | n + 1, ho => by
    have ih := sumI_one hr n (fun j hj => ho j (by omega))
    show sumI g n + g n = sumI f n + f n + _
    rw [ih]
    by_cases q : n = r
    · rw [q, hr, if_neg (by omega), if_pos (by omega)]; omega
    · rw [ho n (by omega) q]
      by_cases q2 : r < n
      · rw [if_pos q2, if_pos (by omega)]; omega
      · rw [if_neg q2, if_neg (by omega)]; omega
theorem J.put {M : tM} (h : J M) {r k : Nat} {x y : Int} (hr : (r : Int) < M 0 5) (hk : M (14 + r) 4 = k) (qx : 0 ≤ x ∧ x ≤ 9999) (qy : 0 ≤ y ∧ y < 16) (q30 : M (14 + r) 4 < 30) (ql : tkA M (14 + r) (M (14 + r) 4 - 1) ≤ x) : J (upM (upM (upM (upM (upM (upM (upM M (14 + r + 24) k x) (14 + r + 48) k y) (14 + r) 4 (M (14 + r) 4 + 1)) 91 (30 * r + k) x) 92 (30 * r + k) y) 90 r (M (14 + r) 4 + 1)) 86 1 (M 86 1 + 1)) := by
  obtain ⟨h1, h2, h3⟩ := h.2.1
  have hw := h1.1
  generalize hM2 : upM (upM (upM (upM (upM (upM (upM M (14 + r + 24) k x) (14 + r + 48) k y) (14 + r) 4 (M (14 + r) 4 + 1)) 91 (30 * r + k) x) 92 (30 * r + k) y) 90 r (M (14 + r) 4 + 1)) 86 1 (M 86 1 + 1) = M2
  have o : ∀ a, a ≠ 14 + r + 24 → a ≠ 14 + r + 48 → a ≠ 14 + r → a ≠ 91 → a ≠ 92 → a ≠ 90 → a ≠ 86 → M2 a = M a := fun a g1 g2 g3 g4 g5 g6 g7 => by rw [← hM2, upM_o g7, upM_o g6, upM_o g5, upM_o g4, upM_o g3, upM_o g2, upM_o g1]
  have m86 : ∀ b, b ≠ 1 → M2 86 b = M 86 b := fun b hb => by rw [← hM2, upM_nj hb, upM_ni (by decide), upM_ni (by decide), upM_ni (by decide), upM_ni (by omega), upM_ni (by omega), upM_ni (by omega)]
  have m861 : M2 86 1 = M 86 1 + 1 := by rw [← hM2, upM_eq]
  have mr : ∀ b, b ≠ 4 → M2 (14 + r) b = M (14 + r) b := fun b hb => by rw [← hM2, upM_ni (by omega), upM_ni (by omega), upM_ni (by omega), upM_ni (by omega), upM_nj hb, upM_ni (by omega), upM_ni (by omega)]
  have mr4 : M2 (14 + r) 4 = M (14 + r) 4 + 1 := by rw [← hM2, upM_ni (by omega), upM_ni (by omega), upM_ni (by omega), upM_ni (by omega), upM_eq]
  have mt : ∀ b, b ≠ k → M2 (14 + r + 24) b = M (14 + r + 24) b := fun b hb => by rw [← hM2, upM_ni (by omega), upM_ni (by omega), upM_ni (by omega), upM_ni (by omega), upM_ni (by omega), upM_ni (by omega), upM_nj hb]
  have mtk : M2 (14 + r + 24) k = x := by rw [← hM2, upM_ni (by omega), upM_ni (by omega), upM_ni (by omega), upM_ni (by omega), upM_ni (by omega), upM_ni (by omega), upM_eq]
  have mk : ∀ b, b ≠ k → M2 (14 + r + 48) b = M (14 + r + 48) b := fun b hb => by rw [← hM2, upM_ni (by omega), upM_ni (by omega), upM_ni (by omega), upM_ni (by omega), upM_ni (by omega), upM_nj hb, upM_ni (by omega)]
  have mkk : M2 (14 + r + 48) k = y := by rw [← hM2, upM_ni (by omega), upM_ni (by omega), upM_ni (by omega), upM_ni (by omega), upM_ni (by omega), upM_eq]
  have m90 : ∀ b, b ≠ r → M2 90 b = M 90 b := fun b hb => by rw [← hM2, upM_ni (by decide), upM_nj hb, upM_ni (by decide), upM_ni (by decide), upM_ni (by omega), upM_ni (by omega), upM_ni (by omega)]
  have m90r : M2 90 r = M (14 + r) 4 + 1 := by rw [← hM2, upM_ni (by decide), upM_eq]
  have m91 : ∀ b, b ≠ 30 * r + k → M2 91 b = M 91 b := fun b hb => by rw [← hM2, upM_ni (by decide), upM_ni (by decide), upM_ni (by decide), upM_nj hb, upM_ni (by omega), upM_ni (by omega), upM_ni (by omega)]
  have m91r : M2 91 (30 * r + k) = x := by rw [← hM2, upM_ni (by decide), upM_ni (by decide), upM_ni (by decide), upM_eq]
  have m92 : ∀ b, b ≠ 30 * r + k → M2 92 b = M 92 b := fun b hb => by rw [← hM2, upM_ni (by decide), upM_ni (by decide), upM_nj hb, upM_ni (by decide), upM_ni (by omega), upM_ni (by omega), upM_ni (by omega)]
  have m92r : M2 92 (30 * r + k) = y := by rw [← hM2, upM_ni (by decide), upM_ni (by decide), upM_eq]
  clear hM2
  have e0 : M2 0 = M 0 := o 0 (by omega) (by omega) (by omega) (by decide) (by decide) (by decide) (by decide)
  have e88 : M2 88 = M 88 := o 88 (by omega) (by omega) (by omega) (by decide) (by decide) (by decide) (by decide)
  have e89 : M2 89 = M 89 := o 89 (by omega) (by omega) (by omega) (by decide) (by decide) (by decide) (by decide)
  obtain ⟨hR, hRh, hRi⟩ := h1.2 r hr
  have hR1 := hR.1
  refine h.rest ⟨⟨by rw [e0]; exact hw, fun r2 hr2 => ?_⟩, ⟨by rw [m86 0 (by decide), e0]; exact h2.1, fun r2 hr2 => ?_, fun r2 a b => ?_⟩, ?_⟩ (fun a g1 g2 g3 g4 => o a (by omega) (by omega) (by omega) (by omega) (by omega) (by omega) (by omega)) (fun b g1 g2 => m86 b g2)
  · rw [e0] at hr2
    by_cases q : r2 = r
    · subst q
      refine ⟨⟨by rw [mr4]; omega, fun p hp => ?_, fun p q hpq hq => ?_⟩, by rw [mr 0 (by decide)]; exact hRh, by rw [mr 1 (by decide)]; exact hRi⟩
      · rw [mr4] at hp
        by_cases e : p = k
        · rw [e, mtk, mkk]; omega
        · rw [mt p e, mk p e]; exact hR.2.1 p (by omega)
      · rw [mr4] at hq
        by_cases e : q = k
        · by_cases e2 : p = k
          · rw [e, e2]; exact Int.le_refl _
          · rw [e, mtk, mt p e2]
            have t1 := hR.2.2 p (k - 1) (by omega) (by omega)
            rw [tkA_in (by omega) (by omega), show (M (14 + r2) 4 - 1).toNat = k - 1 by omega] at ql
            omega
        · rw [mt q e, mt p (by omega)]; exact hR.2.2 p q hpq (by omega)
    · have er : M2 (14 + r2) = M (14 + r2) := o _ (by omega) (by omega) (by omega) (by omega) (by omega) (by omega) (by omega)
      obtain ⟨a, b, c⟩ := h1.2 r2 hr2
      exact ⟨a.congr er (o _ (by omega) (by omega) (by omega) (by omega) (by omega) (by omega) (by omega)) (o _ (by omega) (by omega) (by omega) (by omega) (by omega) (by omega) (by omega)), by rw [er]; exact b, by rw [er]; exact c⟩
  · rw [e0] at hr2
    obtain ⟨a, b, c, e⟩ := h2.2.1 r2 hr2
    rw [e88, e89]
    by_cases q : r2 = r
    · subst q
      refine ⟨by rw [mr 0 (by decide)]; exact a, by rw [mr 1 (by decide)]; exact b, by rw [m90r, mr4], fun p hp => ?_⟩
      rw [mr4] at hp
      by_cases e2 : p = k
      · rw [e2, m91r, m92r, mtk, mkk]; exact ⟨rfl, rfl⟩
      · rw [m91 _ (by omega), m92 _ (by omega), mt p e2, mk p e2]; exact e p (by omega)
    · have hR2 := (h1.2 r2 hr2).1.1
      have er : M2 (14 + r2) = M (14 + r2) := o _ (by omega) (by omega) (by omega) (by omega) (by omega) (by omega) (by omega)
      have et : M2 (14 + r2 + 24) = M (14 + r2 + 24) := o _ (by omega) (by omega) (by omega) (by omega) (by omega) (by omega) (by omega)
      have ek : M2 (14 + r2 + 48) = M (14 + r2 + 48) := o _ (by omega) (by omega) (by omega) (by omega) (by omega) (by omega) (by omega)
      rw [er, et, ek, m90 r2 q]
      refine ⟨a, b, c, fun p hp => ?_⟩
      rw [m91 _ (by omega), m92 _ (by omega)]
      exact e p hp
  · rw [e0] at b
    rw [e89, m90 r2 (by omega)]
    exact h2.2.2 r2 a b
  · unfold RMh at h3 ⊢
    have hs := sumI_one (f := fun r => M (14 + r) 4) (g := fun r => M2 (14 + r) 4) (r := r) mr4 (M 0 5).toNat (fun j hj hjr => by
      show M2 (14 + j) 4 = M (14 + j) 4
      rw [o (14 + j) (by omega) (by omega) (by omega) (by omega) (by omega) (by omega) (by omega)])
    rw [if_pos (by omega)] at hs
    rw [m861, e0, h3]
    exact hs.symm
theorem J.find {M M2 M3 : tM} (h : J M) {fs : List (List Nat)} (hE : Ef M M2) (hS : FS M M2 fs) (hE2 : Eg M2 M3) (hF : FM M M3 fs) : J M3 := by
  have lo : ∀ a, a < 86 → M3 a = M2 a := fun a ha => hE2.lo ha
  refine ⟨h.1.of ((lo 2 (by decide)).trans hE.c2) ((lo 3 (by decide)).trans hE.c3) ((hE2.hi (by decide) (by decide)).trans (hE.row (by decide))), h.2.1.of ((lo 0 (by decide)).trans hE.c0) (fun a h1 h2 => (lo a h2).trans (hE.row h1)) ((hE2.m (by decide) (by decide)).trans (by rw [hE.row (a := 86) (by decide)])) ((hE2.m (by decide) (by decide)).trans (by rw [hE.row (a := 86) (by decide)])) (fun a h1 h2 => (hE2.hi (by omega) h2).trans (hE.row (by omega))), h.2.2.1.of (by rw [lo 4 (by decide)]; exact hE.g0) (by rw [lo 4 (by decide)]; exact hE.g1) ((hE2.m (by decide) (by decide)).trans (by rw [hE.row (a := 86) (by decide)])) ((hE2.m (by decide) (by decide)).trans (by rw [hE.row (a := 86) (by decide)])), ?_, ?_⟩
  · unfold WFf
    rw [lo 9 (by decide), lo 10 (by decide), lo 11 (by decide), hS.1]
    refine ⟨by have := hS.2.1; omega, fun i hi => ?_⟩
    obtain ⟨a, b, c, w, e, f, -⟩ := hS.2.2 i (by omega)
    exact ⟨_, w, a, b, c, e, f⟩
  · unfold RMf
    rw [lo 9 (by decide), lo 10 (by decide), lo 11 (by decide), hS.1]
    refine ⟨hF.1, fun i hi => ?_⟩
    obtain ⟨a, b, c, w, e, f, g⟩ := hS.2.2 i (by omega)
    obtain ⟨-, -, f1, f2, f3⟩ := hF.2.2 i (by omega)
    refine ⟨_, w, a, b, c, e, f, f1, ?_, f3⟩
    rw [f2, popc_tf g]
    rfl

/-! THE BEGINNING: the first memory, its world, and the law from its entry (printed by wip/gen/start.py) -/
def M0 : tM := fun a j => if a = 2 then (if j < 16 then 2 ^ j else 0) else if a = 3 then (if j < 16 then -1 else 0) else if a = 4 then (if j = 0 then 100 else if j = 1 then 1000 else 0) else if a = 86 then (if j = 2 then 100 else if j = 3 then 1000 else 0) else if a = 87 then (if j < 16 then -1 else 0) else 0
theorem M0_z {a j : Nat} (h2 : a ≠ 2) (h3 : a ≠ 3) (h4 : a ≠ 4) (h5 : a ≠ 86) (h6 : a ≠ 87) : M0 a j = 0 := by
  unfold M0
  rw [if_neg h2, if_neg h3, if_neg h4, if_neg h5, if_neg h6]
theorem M0_3 {j : Nat} (h : j < 16) : M0 3 j = -1 := by
  show (if j < 16 then (-1 : Int) else 0) = -1
  rw [if_pos h]
theorem M0_87 {j : Nat} (h : j < 16) : M0 87 j = -1 := by
  show (if j < 16 then (-1 : Int) else 0) = -1
  rw [if_pos h]
theorem M0_2 {j : Nat} (h : j < 16) : M0 2 j = 2 ^ j := by
  show (if j < 16 then (2 : Int) ^ j else 0) = 2 ^ j
  rw [if_pos h]
theorem J_0 : J M0 := by
  have z05 : M0 0 5 = 0 := rfl
  have z92 : M0 9 2 = 0 := rfl
  refine ⟨⟨fun k hk => ?_, fun k hk => by rw [M0_87 hk, M0_3 hk]⟩, ⟨⟨by rw [z05]; omega, fun r hr => by rw [z05] at hr; omega⟩, ⟨rfl, fun r hr => by rw [z05] at hr; omega, fun r _ _ => ⟨rfl, rfl⟩⟩, rfl⟩, ⟨⟨⟨by decide, by decide⟩, ⟨by decide, by decide⟩⟩, rfl, rfl⟩, ⟨⟨by rw [z92]; omega, fun i hi => by rw [z92] at hi; omega⟩, rfl, fun i hi => by rw [z92] at hi; omega⟩⟩
  refine ⟨Or.inr ⟨by omega, ?_⟩, ?_⟩
  · rw [Int.toNat_natCast, M0_3 hk]
    exact Or.inl rfl
  · have e1 : clm (M0 3) 16 (k : Int) = if (k : Int) = -1 then 0 else 2 ^ (k : Int).toNat ||| clm (M0 3) 15 (M0 3 (k : Int).toNat) := rfl
    have e2 : clm (M0 3) 15 (-1) = if (-1 : Int) = -1 then 0 else 2 ^ (-1 : Int).toNat ||| clm (M0 3) 14 (M0 3 (-1 : Int).toNat) := rfl
    rw [M0_2 hk, e1, if_neg (by omega), Int.toNat_natCast, M0_3 hk, e2, if_pos rfl, Nat.or_zero, Int.natCast_pow]
    rfl
def L0 (aF aM : List Nat) (ts : List (Nat × Nat × Nat)) (b : Nat) : Nat → Nat := fun i => if i < 14 then aF.getD i 0 else if i < 38 then (ts.getD (i - 14) (0, 0, 0)).1 else if i < 62 then (ts.getD (i - 38) (0, 0, 0)).2.1 else if i < 86 then (ts.getD (i - 62) (0, 0, 0)).2.2 else if i = 200 then b else aM.getD (i - 86) 0
def ps0 (i : Nat) : Nat := if i < 14 then [15, 90, 92, 91, 93, 94, 95, 96, 97, 98, 99, 100, 16, 17].getD i 0 else if i < 38 then 18 + 3 * (i - 14) else if i < 62 then 19 + 3 * (i - 38) else if i < 86 then 20 + 3 * (i - 62) else i - 86
theorem ps0_inj : ∀ i, i < 101 → ∀ j, j < 101 → ps0 i = ps0 j → i = j := by decide +kernel
theorem rw_len {cI : ClassId} : ∀ ts : List (Nat × Nat × Nat), (rw_ cI ts).length = 3 * ts.length
  | [] => rfl
  | t :: ts => by
    have := rw_len (cI := cI) ts
    show (rw1 cI t ++ rw_ cI ts).length = _
    rw [List.length_append, this, List.length_cons]
    show 3 + 3 * ts.length = _
    omega
theorem rw_get {cI : ClassId} : ∀ (ts : List (Nat × Nat × Nat)) (r c : Nat) (t : Nat × Nat × Nat), c < 3 → ts[r]? = some t → (rw_ cI ts)[3 * r + c]? = (rw1 cI t)[c]?
  | [], r, c, t, _, h => by simp at h
  | t0 :: ts, 0, c, t, hc, h => by
    cases h
    show (rw1 cI t0 ++ rw_ cI ts)[3 * 0 + c]? = _
    rw [Nat.mul_zero, Nat.zero_add, List.getElem?_append_left (show c < (rw1 cI t0).length from hc)]
  | t0 :: ts, r + 1, c, t, hc, h => by
    have := rw_get (cI := cI) ts r c t hc h
    show (rw1 cI t0 ++ rw_ cI ts)[3 * (r + 1) + c]? = _
    rw [List.getElem?_append_right (show (rw1 cI t0).length ≤ _ from (show 3 ≤ 3 * (r + 1) + c by omega)), ← this]
    congr 1
    show 3 * (r + 1) + c - 3 = _
    omega
theorem arrV_congr {cA : ClassId} {n : Nat} {f g : Nat → Value} (h : ∀ j, j < n → f j = g j) : arrV cA n f = arrV cA n g := by
  unfold arrV
  have e : (fun j : Fin n => f j.val) = fun j : Fin n => g j.val := by
    funext j
    exact h j.val j.isLt
  rw [e]
section ST
variable {cI cZ cR : ClassId} {ts : List (Nat × Nat × Nat)} {b hM v1 v2 v3 v4 v5 v6 v7 v8 v9 v10 v11 v12 v13 v14 h0 q1 k2 k1 q2 m1 m2 m3 m4 q3 f1 f2 q4 q21 : Nat}
theorem wf_r (h : ts.length = 24) {j : Nat} (hj : j < 72) : ([(hM, .inr (5, [.int 0, .int 0, .int 100, .int 1000, .ref v1, .ref v2, .ref v3, .ref v4, .ref v5, .ref v6, .int 0, .ref v7, .ref v8, .ref v9, .int 0, .ref v10, .ref v11, .ref v12, .ref v13, .ref v14])), (v1, .inl (cI, 16, .inl (fJ 16))), (v2, .inl (cI, 24, .inl (fun _ => 0))), (v3, .inl (cZ, 24, .inl (fun _ => 0))), (v4, .inl (cI, 24, .inl (fun _ => 0))), (v5, .inl (cI, 720, .inl (fun _ => 0))), (v6, .inl (cI, 720, .inl (fun _ => 0))), (v7, .inl (cI, 8000, .inl (fun _ => 0))), (v8, .inl (cI, 2000, .inl (fun _ => 0))), (v9, .inl (cI, 2000, .inl (fun _ => 0))), (v10, .inl (cI, 4, .inl (fun _ => 0))), (v11, .inl (cI, 384, .inl (fun _ => 0))), (v12, .inl (cI, 720, .inl (fun _ => 0))), (v13, .inl (cI, 720, .inl (fun _ => 0))), (v14, .inl (cI, 4, .inl (fun _ => 0)))] ++ ([(h0, .inr (4, [.ref q1, .ref q2, .ref q3, .ref q4, .ref q21, .int 0])), (q4, .inl (cR, 24, .inr (.inr (.inr (.inr (fR ts)))))), (q21, .inl (cI, 16, .inl (fun _ => 0)))] ++ (rw_ cI ts ++ ([(q1, .inr (1, [.ref k2, .ref k1])), (k1, .inl (cI, 16, .inl (fJ 16))), (k2, .inl (cI, 16, .inl (fW 16))), (q2, .inr (2, [.int 100, .int 1000, .ref q1, .int 0, .ref m1, .ref m2, .ref m3, .ref m4])), (m1, .inl (cI, 16, .inl (fun _ => 0))), (m2, .inl (cI, 4, .inl (fun _ => 0))), (m3, .inl (cI, 4, .inl (fun _ => 0))), (m4, .inl (cI, 4, .inl (fun _ => 0))), (q3, .inr (0, [.ref f1, .ref f2, .int 0])), (f1, .inl (cI, 2000, .inl (fun _ => 0))), (f2, .inl (cI, 2000, .inl (fun _ => 0)))] ++ []))))[18 + j]? = (rw_ cI ts)[j]? := by
  rw [List.getElem?_append_right (show 15 ≤ 18 + j by omega), List.getElem?_append_right (show 3 ≤ 18 + j - 15 by omega), List.getElem?_append_left (by rw [rw_len, h]; show 18 + j - 15 - 3 < 72; omega)]
  congr 1
  show 18 + j - 15 - 3 = j
  omega
theorem wf_b (h : ts.length = 24) (j : Nat) : ([(hM, .inr (5, [.int 0, .int 0, .int 100, .int 1000, .ref v1, .ref v2, .ref v3, .ref v4, .ref v5, .ref v6, .int 0, .ref v7, .ref v8, .ref v9, .int 0, .ref v10, .ref v11, .ref v12, .ref v13, .ref v14])), (v1, .inl (cI, 16, .inl (fJ 16))), (v2, .inl (cI, 24, .inl (fun _ => 0))), (v3, .inl (cZ, 24, .inl (fun _ => 0))), (v4, .inl (cI, 24, .inl (fun _ => 0))), (v5, .inl (cI, 720, .inl (fun _ => 0))), (v6, .inl (cI, 720, .inl (fun _ => 0))), (v7, .inl (cI, 8000, .inl (fun _ => 0))), (v8, .inl (cI, 2000, .inl (fun _ => 0))), (v9, .inl (cI, 2000, .inl (fun _ => 0))), (v10, .inl (cI, 4, .inl (fun _ => 0))), (v11, .inl (cI, 384, .inl (fun _ => 0))), (v12, .inl (cI, 720, .inl (fun _ => 0))), (v13, .inl (cI, 720, .inl (fun _ => 0))), (v14, .inl (cI, 4, .inl (fun _ => 0)))] ++ ([(h0, .inr (4, [.ref q1, .ref q2, .ref q3, .ref q4, .ref q21, .int 0])), (q4, .inl (cR, 24, .inr (.inr (.inr (.inr (fR ts)))))), (q21, .inl (cI, 16, .inl (fun _ => 0)))] ++ (rw_ cI ts ++ ([(q1, .inr (1, [.ref k2, .ref k1])), (k1, .inl (cI, 16, .inl (fJ 16))), (k2, .inl (cI, 16, .inl (fW 16))), (q2, .inr (2, [.int 100, .int 1000, .ref q1, .int 0, .ref m1, .ref m2, .ref m3, .ref m4])), (m1, .inl (cI, 16, .inl (fun _ => 0))), (m2, .inl (cI, 4, .inl (fun _ => 0))), (m3, .inl (cI, 4, .inl (fun _ => 0))), (m4, .inl (cI, 4, .inl (fun _ => 0))), (q3, .inr (0, [.ref f1, .ref f2, .int 0])), (f1, .inl (cI, 2000, .inl (fun _ => 0))), (f2, .inl (cI, 2000, .inl (fun _ => 0)))] ++ []))))[90 + j]? = [(q1, .inr (1, [.ref k2, .ref k1])), (k1, .inl (cI, 16, .inl (fJ 16))), (k2, .inl (cI, 16, .inl (fW 16))), (q2, .inr (2, [.int 100, .int 1000, .ref q1, .int 0, .ref m1, .ref m2, .ref m3, .ref m4])), (m1, .inl (cI, 16, .inl (fun _ => 0))), (m2, .inl (cI, 4, .inl (fun _ => 0))), (m3, .inl (cI, 4, .inl (fun _ => 0))), (m4, .inl (cI, 4, .inl (fun _ => 0))), (q3, .inr (0, [.ref f1, .ref f2, .int 0])), (f1, .inl (cI, 2000, .inl (fun _ => 0))), (f2, .inl (cI, 2000, .inl (fun _ => 0)))][j]? := by
  rw [List.getElem?_append_right (show 15 ≤ 90 + j by omega), List.getElem?_append_right (show 3 ≤ 90 + j - 15 by omega), List.getElem?_append_right (by rw [rw_len, h]; show 72 ≤ 90 + j - 15 - 3; omega), List.append_nil, rw_len, h]
  congr 1
  show 90 + j - 15 - 3 - 72 = j
  omega
set_option maxRecDepth 20000 in
set_option maxHeartbeats 4000000 in
theorem wf_at (h : ts.length = 24) : ∀ i, i < 101 → i ≠ 12 → ([(hM, .inr (5, [.int 0, .int 0, .int 100, .int 1000, .ref v1, .ref v2, .ref v3, .ref v4, .ref v5, .ref v6, .int 0, .ref v7, .ref v8, .ref v9, .int 0, .ref v10, .ref v11, .ref v12, .ref v13, .ref v14])), (v1, .inl (cI, 16, .inl (fJ 16))), (v2, .inl (cI, 24, .inl (fun _ => 0))), (v3, .inl (cZ, 24, .inl (fun _ => 0))), (v4, .inl (cI, 24, .inl (fun _ => 0))), (v5, .inl (cI, 720, .inl (fun _ => 0))), (v6, .inl (cI, 720, .inl (fun _ => 0))), (v7, .inl (cI, 8000, .inl (fun _ => 0))), (v8, .inl (cI, 2000, .inl (fun _ => 0))), (v9, .inl (cI, 2000, .inl (fun _ => 0))), (v10, .inl (cI, 4, .inl (fun _ => 0))), (v11, .inl (cI, 384, .inl (fun _ => 0))), (v12, .inl (cI, 720, .inl (fun _ => 0))), (v13, .inl (cI, 720, .inl (fun _ => 0))), (v14, .inl (cI, 4, .inl (fun _ => 0)))] ++ ([(h0, .inr (4, [.ref q1, .ref q2, .ref q3, .ref q4, .ref q21, .int 0])), (q4, .inl (cR, 24, .inr (.inr (.inr (.inr (fR ts)))))), (q21, .inl (cI, 16, .inl (fun _ => 0)))] ++ (rw_ cI ts ++ ([(q1, .inr (1, [.ref k2, .ref k1])), (k1, .inl (cI, 16, .inl (fJ 16))), (k2, .inl (cI, 16, .inl (fW 16))), (q2, .inr (2, [.int 100, .int 1000, .ref q1, .int 0, .ref m1, .ref m2, .ref m3, .ref m4])), (m1, .inl (cI, 16, .inl (fun _ => 0))), (m2, .inl (cI, 4, .inl (fun _ => 0))), (m3, .inl (cI, 4, .inl (fun _ => 0))), (m4, .inl (cI, 4, .inl (fun _ => 0))), (q3, .inr (0, [.ref f1, .ref f2, .int 0])), (f1, .inl (cI, 2000, .inl (fun _ => 0))), (f2, .inl (cI, 2000, .inl (fun _ => 0)))] ++ []))))[ps0 i]? = some ((L0 [h0, q1, k2, k1, q2, m1, m2, m3, m4, q3, f1, f2, q4, q21] [hM, v1, v2, v3, v4, v5, v6, v7, v8, v9, v10, v11, v12, v13, v14] ts b) i, cE (L0 [h0, q1, k2, k1, q2, m1, m2, m3, m4, q3, f1, f2, q4, q21] [hM, v1, v2, v3, v4, v5, v6, v7, v8, v9, v10, v11, v12, v13, v14] ts b) cI cZ cR i (M0 i)) := by
  intro i hi h12
  by_cases c1 : 14 ≤ i ∧ i < 86
  · obtain ⟨r, hr, hri⟩ : ∃ r, r < 24 ∧ (i = 14 + r ∨ i = 38 + r ∨ i = 62 + r) := by
      by_cases q1 : i < 38
      · exact ⟨i - 14, by omega, by omega⟩
      · by_cases q2 : i < 62
        · exact ⟨i - 38, by omega, by omega⟩
        · exact ⟨i - 62, by omega, by omega⟩
    have ht : ts[r]? = some (ts.getD r (0, 0, 0)) := by
      rw [List.getD_eq_getElem?_getD, List.getElem?_eq_getElem (show r < ts.length by omega)]
      rfl
    have g1 : (L0 [h0, q1, k2, k1, q2, m1, m2, m3, m4, q3, f1, f2, q4, q21] [hM, v1, v2, v3, v4, v5, v6, v7, v8, v9, v10, v11, v12, v13, v14] ts b) (14 + r) = (ts.getD r (0, 0, 0)).1 := by
      unfold L0
      rw [if_neg (by omega), if_pos (by omega), show 14 + r - 14 = r by omega]
    have g2 : (L0 [h0, q1, k2, k1, q2, m1, m2, m3, m4, q3, f1, f2, q4, q21] [hM, v1, v2, v3, v4, v5, v6, v7, v8, v9, v10, v11, v12, v13, v14] ts b) (38 + r) = (ts.getD r (0, 0, 0)).2.1 := by
      unfold L0
      rw [if_neg (by omega), if_neg (by omega), if_pos (by omega), show 38 + r - 38 = r by omega]
    have g3 : (L0 [h0, q1, k2, k1, q2, m1, m2, m3, m4, q3, f1, f2, q4, q21] [hM, v1, v2, v3, v4, v5, v6, v7, v8, v9, v10, v11, v12, v13, v14] ts b) (62 + r) = (ts.getD r (0, 0, 0)).2.2 := by
      unfold L0
      rw [if_neg (by omega), if_neg (by omega), if_neg (by omega), if_pos (by omega), show 62 + r - 62 = r by omega]
    rcases hri with rfl | rfl | rfl
    · have hp : ps0 (14 + r) = 18 + (3 * r + 0) := by
        unfold ps0
        rw [if_neg (by omega), if_pos (by omega)]
        omega
      rw [hp, wf_r h (by omega), rw_get ts r 0 _ (by omega) ht, g1]
      have hc : clsOf (14 + r) = 3 := cl_row ⟨by omega, by omega⟩
      rw [clsOf_cE hc (by decide)]
      show some _ = some (_, Sum.inr (3, [Value.int (iN (M0 (14 + r) 0)), Value.int (iN (M0 (14 + r) 1)), Value.ref ((L0 [h0, q1, k2, k1, q2, m1, m2, m3, m4, q3, f1, f2, q4, q21] [hM, v1, v2, v3, v4, v5, v6, v7, v8, v9, v10, v11, v12, v13, v14] ts b) (14 + r + 24)), Value.ref ((L0 [h0, q1, k2, k1, q2, m1, m2, m3, m4, q3, f1, f2, q4, q21] [hM, v1, v2, v3, v4, v5, v6, v7, v8, v9, v10, v11, v12, v13, v14] ts b) (14 + r + 48)), Value.int (iN (M0 (14 + r) 4))]))
      rw [M0_z (by omega) (by omega) (by omega) (by omega) (by omega), M0_z (by omega) (by omega) (by omega) (by omega) (by omega), M0_z (by omega) (by omega) (by omega) (by omega) (by omega), show 14 + r + 24 = 38 + r by omega, show 14 + r + 48 = 62 + r by omega, g2, g3]
      rfl
    · have hp : ps0 (38 + r) = 18 + (3 * r + 1) := by
        unfold ps0
        rw [if_neg (by omega), if_neg (by omega), if_pos (by omega)]
        omega
      rw [hp, wf_r h (by omega), rw_get ts r 1 _ (by omega) ht, g2]
      have ha : alen (38 + r) = 30 := by unfold alen; rw [if_pos (by omega)]
      rw [alen_cE (by rw [ha]; decide), ha]
      have e0 : (fun j => iN (M0 (38 + r) j)) = fun _ => 0 := by
        funext j
        rw [M0_z (by omega) (by omega) (by omega) (by omega) (by omega)]
        rfl
      rw [e0]
      rfl
    · have hp : ps0 (62 + r) = 18 + (3 * r + 2) := by
        unfold ps0
        rw [if_neg (by omega), if_neg (by omega), if_neg (by omega), if_pos (by omega)]
        omega
      rw [hp, wf_r h (by omega), rw_get ts r 2 _ (by omega) ht, g3]
      have ha : alen (62 + r) = 30 := by unfold alen; rw [if_pos (by omega)]
      rw [alen_cE (by rw [ha]; decide), ha]
      have e0 : (fun j => iN (M0 (62 + r) j)) = fun _ => 0 := by
        funext j
        rw [M0_z (by omega) (by omega) (by omega) (by omega) (by omega)]
        rfl
      rw [e0]
      rfl
  · rcases (show i = 0 ∨ i = 1 ∨ i = 2 ∨ i = 3 ∨ i = 4 ∨ i = 5 ∨ i = 6 ∨ i = 7 ∨ i = 8 ∨ i = 9 ∨ i = 10 ∨ i = 11 ∨ i = 13 ∨ i = 86 ∨ i = 87 ∨ i = 88 ∨ i = 89 ∨ i = 90 ∨ i = 91 ∨ i = 92 ∨ i = 93 ∨ i = 94 ∨ i = 95 ∨ i = 96 ∨ i = 97 ∨ i = 98 ∨ i = 99 ∨ i = 100 by omega) with rfl | rfl | rfl | rfl | rfl | rfl | rfl | rfl | rfl | rfl | rfl | rfl | rfl | rfl | rfl | rfl | rfl | rfl | rfl | rfl | rfl | rfl | rfl | rfl | rfl | rfl | rfl | rfl
    · rfl
    · exact (wf_b h 0).trans rfl
    · exact (wf_b h 2).trans rfl
    · exact (wf_b h 1).trans rfl
    · exact (wf_b h 3).trans rfl
    · exact (wf_b h 4).trans rfl
    · exact (wf_b h 5).trans rfl
    · exact (wf_b h 6).trans rfl
    · exact (wf_b h 7).trans rfl
    · exact (wf_b h 8).trans rfl
    · exact (wf_b h 9).trans rfl
    · exact (wf_b h 10).trans rfl
    · rfl
    · rfl
    · rfl
    · rfl
    · rfl
    · rfl
    · rfl
    · rfl
    · rfl
    · rfl
    · rfl
    · rfl
    · rfl
    · rfl
    · rfl
    · rfl
theorem world_0 {D : va_G} {A : Nat → Prop} {H : Heap} (h : ts.length = 24) (hPD : PD D A ([(hM, .inr (5, [.int 0, .int 0, .int 100, .int 1000, .ref v1, .ref v2, .ref v3, .ref v4, .ref v5, .ref v6, .int 0, .ref v7, .ref v8, .ref v9, .int 0, .ref v10, .ref v11, .ref v12, .ref v13, .ref v14])), (v1, .inl (cI, 16, .inl (fJ 16))), (v2, .inl (cI, 24, .inl (fun _ => 0))), (v3, .inl (cZ, 24, .inl (fun _ => 0))), (v4, .inl (cI, 24, .inl (fun _ => 0))), (v5, .inl (cI, 720, .inl (fun _ => 0))), (v6, .inl (cI, 720, .inl (fun _ => 0))), (v7, .inl (cI, 8000, .inl (fun _ => 0))), (v8, .inl (cI, 2000, .inl (fun _ => 0))), (v9, .inl (cI, 2000, .inl (fun _ => 0))), (v10, .inl (cI, 4, .inl (fun _ => 0))), (v11, .inl (cI, 384, .inl (fun _ => 0))), (v12, .inl (cI, 720, .inl (fun _ => 0))), (v13, .inl (cI, 720, .inl (fun _ => 0))), (v14, .inl (cI, 4, .inl (fun _ => 0)))] ++ ([(h0, .inr (4, [.ref q1, .ref q2, .ref q3, .ref q4, .ref q21, .int 0])), (q4, .inl (cR, 24, .inr (.inr (.inr (.inr (fR ts)))))), (q21, .inl (cI, 16, .inl (fun _ => 0)))] ++ (rw_ cI ts ++ ([(q1, .inr (1, [.ref k2, .ref k1])), (k1, .inl (cI, 16, .inl (fJ 16))), (k2, .inl (cI, 16, .inl (fW 16))), (q2, .inr (2, [.int 100, .int 1000, .ref q1, .int 0, .ref m1, .ref m2, .ref m3, .ref m4])), (m1, .inl (cI, 16, .inl (fun _ => 0))), (m2, .inl (cI, 4, .inl (fun _ => 0))), (m3, .inl (cI, 4, .inl (fun _ => 0))), (m4, .inl (cI, 4, .inl (fun _ => 0))), (q3, .inr (0, [.ref f1, .ref f2, .int 0])), (f1, .inl (cI, 2000, .inl (fun _ => 0))), (f2, .inl (cI, 2000, .inl (fun _ => 0)))] ++ [])))) H) : va_P D vwCl (wW (L0 [h0, q1, k2, k1, q2, m1, m2, m3, m4, q3, f1, f2, q4, q21] [hM, v1, v2, v3, v4, v5, v6, v7, v8, v9, v10, v11, v12, v13, v14] ts b) cI cZ cR M0) H ∧ iL (L0 [h0, q1, k2, k1, q2, m1, m2, m3, m4, q3, f1, f2, q4, q21] [hM, v1, v2, v3, v4, v5, v6, v7, v8, v9, v10, v11, v12, v13, v14] ts b) ∧ ∀ i, i < 101 → A ((L0 [h0, q1, k2, k1, q2, m1, m2, m3, m4, q3, f1, f2, q4, q21] [hM, v1, v2, v3, v4, v5, v6, v7, v8, v9, v10, v11, v12, v13, v14] ts b) i) := by
  have at12 : ([(hM, .inr (5, [.int 0, .int 0, .int 100, .int 1000, .ref v1, .ref v2, .ref v3, .ref v4, .ref v5, .ref v6, .int 0, .ref v7, .ref v8, .ref v9, .int 0, .ref v10, .ref v11, .ref v12, .ref v13, .ref v14])), (v1, .inl (cI, 16, .inl (fJ 16))), (v2, .inl (cI, 24, .inl (fun _ => 0))), (v3, .inl (cZ, 24, .inl (fun _ => 0))), (v4, .inl (cI, 24, .inl (fun _ => 0))), (v5, .inl (cI, 720, .inl (fun _ => 0))), (v6, .inl (cI, 720, .inl (fun _ => 0))), (v7, .inl (cI, 8000, .inl (fun _ => 0))), (v8, .inl (cI, 2000, .inl (fun _ => 0))), (v9, .inl (cI, 2000, .inl (fun _ => 0))), (v10, .inl (cI, 4, .inl (fun _ => 0))), (v11, .inl (cI, 384, .inl (fun _ => 0))), (v12, .inl (cI, 720, .inl (fun _ => 0))), (v13, .inl (cI, 720, .inl (fun _ => 0))), (v14, .inl (cI, 4, .inl (fun _ => 0)))] ++ ([(h0, .inr (4, [.ref q1, .ref q2, .ref q3, .ref q4, .ref q21, .int 0])), (q4, .inl (cR, 24, .inr (.inr (.inr (.inr (fR ts)))))), (q21, .inl (cI, 16, .inl (fun _ => 0)))] ++ (rw_ cI ts ++ ([(q1, .inr (1, [.ref k2, .ref k1])), (k1, .inl (cI, 16, .inl (fJ 16))), (k2, .inl (cI, 16, .inl (fW 16))), (q2, .inr (2, [.int 100, .int 1000, .ref q1, .int 0, .ref m1, .ref m2, .ref m3, .ref m4])), (m1, .inl (cI, 16, .inl (fun _ => 0))), (m2, .inl (cI, 4, .inl (fun _ => 0))), (m3, .inl (cI, 4, .inl (fun _ => 0))), (m4, .inl (cI, 4, .inl (fun _ => 0))), (q3, .inr (0, [.ref f1, .ref f2, .int 0])), (f1, .inl (cI, 2000, .inl (fun _ => 0))), (f2, .inl (cI, 2000, .inl (fun _ => 0)))] ++ []))))[ps0 12]? = some ((L0 [h0, q1, k2, k1, q2, m1, m2, m3, m4, q3, f1, f2, q4, q21] [hM, v1, v2, v3, v4, v5, v6, v7, v8, v9, v10, v11, v12, v13, v14] ts b) 12, .inl (cR, 24, .inr (.inr (.inr (.inr (fR ts)))))) := rfl
  have ad : ∀ i, i < 101 → ∃ x, ([(hM, .inr (5, [.int 0, .int 0, .int 100, .int 1000, .ref v1, .ref v2, .ref v3, .ref v4, .ref v5, .ref v6, .int 0, .ref v7, .ref v8, .ref v9, .int 0, .ref v10, .ref v11, .ref v12, .ref v13, .ref v14])), (v1, .inl (cI, 16, .inl (fJ 16))), (v2, .inl (cI, 24, .inl (fun _ => 0))), (v3, .inl (cZ, 24, .inl (fun _ => 0))), (v4, .inl (cI, 24, .inl (fun _ => 0))), (v5, .inl (cI, 720, .inl (fun _ => 0))), (v6, .inl (cI, 720, .inl (fun _ => 0))), (v7, .inl (cI, 8000, .inl (fun _ => 0))), (v8, .inl (cI, 2000, .inl (fun _ => 0))), (v9, .inl (cI, 2000, .inl (fun _ => 0))), (v10, .inl (cI, 4, .inl (fun _ => 0))), (v11, .inl (cI, 384, .inl (fun _ => 0))), (v12, .inl (cI, 720, .inl (fun _ => 0))), (v13, .inl (cI, 720, .inl (fun _ => 0))), (v14, .inl (cI, 4, .inl (fun _ => 0)))] ++ ([(h0, .inr (4, [.ref q1, .ref q2, .ref q3, .ref q4, .ref q21, .int 0])), (q4, .inl (cR, 24, .inr (.inr (.inr (.inr (fR ts)))))), (q21, .inl (cI, 16, .inl (fun _ => 0)))] ++ (rw_ cI ts ++ ([(q1, .inr (1, [.ref k2, .ref k1])), (k1, .inl (cI, 16, .inl (fJ 16))), (k2, .inl (cI, 16, .inl (fW 16))), (q2, .inr (2, [.int 100, .int 1000, .ref q1, .int 0, .ref m1, .ref m2, .ref m3, .ref m4])), (m1, .inl (cI, 16, .inl (fun _ => 0))), (m2, .inl (cI, 4, .inl (fun _ => 0))), (m3, .inl (cI, 4, .inl (fun _ => 0))), (m4, .inl (cI, 4, .inl (fun _ => 0))), (q3, .inr (0, [.ref f1, .ref f2, .int 0])), (f1, .inl (cI, 2000, .inl (fun _ => 0))), (f2, .inl (cI, 2000, .inl (fun _ => 0)))] ++ []))))[ps0 i]? = some ((L0 [h0, q1, k2, k1, q2, m1, m2, m3, m4, q3, f1, f2, q4, q21] [hM, v1, v2, v3, v4, v5, v6, v7, v8, v9, v10, v11, v12, v13, v14] ts b) i, x) := by
    intro i hi
    by_cases q : i = 12
    · subst q
      exact ⟨_, at12⟩
    · exact ⟨_, wf_at h i hi q⟩
  refine ⟨fun k q hk => ?_, fun i j hi hj e => ?_, fun i hi => ?_⟩
  · obtain ⟨h1, rfl⟩ := wW.of hk
    by_cases q : k = 12
    · subst q
      have hh := hPD.1 _ _ at12
      have e2 : vp_cell cR (24, .inr (.inr (.inr (.inr (fR ts))))) = vp_cell cR (24, .inr (.inr (.inr (.inr (fun j => some ((L0 [h0, q1, k2, k1, q2, m1, m2, m3, m4, q3, f1, f2, q4, q21] [hM, v1, v2, v3, v4, v5, v6, v7, v8, v9, v10, v11, v12, v13, v14] ts b) (14 + j))))))) := by
        rw [vp_cell_q, vp_cell_q]
        refine arrV_congr (fun j hj => ?_)
        unfold fR L0
        rw [if_neg (by omega), if_pos (by omega), show 14 + j - 14 = j by omega, List.getD_eq_getElem?_getD, List.getElem?_eq_getElem (show j < ts.length by omega)]
        rfl
      show H[(L0 [h0, q1, k2, k1, q2, m1, m2, m3, m4, q3, f1, f2, q4, q21] [hM, v1, v2, v3, v4, v5, v6, v7, v8, v9, v10, v11, v12, v13, v14] ts b) 12]? = some (vp_cell cR (24, .inr (.inr (.inr (.inr (fun j => some ((L0 [h0, q1, k2, k1, q2, m1, m2, m3, m4, q3, f1, f2, q4, q21] [hM, v1, v2, v3, v4, v5, v6, v7, v8, v9, v10, v11, v12, v13, v14] ts b) (14 + j))))))))
      rw [← e2]
      exact hh
    · exact hPD.1 _ _ (wf_at h k h1 q)
  · obtain ⟨x, hx⟩ := ad i hi
    obtain ⟨y, hy⟩ := ad j hj
    exact ps0_inj i hi j hj (hPD.2.1 _ _ _ _ hx hy e)
  · obtain ⟨x, hx⟩ := ad i hi
    exact hPD.2.2 _ _ hx
end ST

/-! THE LAW FROM ITS ENTRY (printed by wip/gen/start.py) -/
theorem m_over : Cond.arrayOver (.object RX4) ∈ lw_tbl := List.mem_of_getElem? (i := 121) (by decide +kernel)
theorem m_nest : Cond.methodLinkNest RX3 9 yX5_isKind RX5 ∈ lw_tbl := List.mem_of_getElem? (i := 229) (by decide +kernel)
set_option maxHeartbeats 4000000 in
set_option maxRecDepth 100000 in
theorem whole_start {p : Program} {e : Env} {s : State} {m : MethodId} {below : List Frame} {meth : Method} {c : Code} (l : Launch) {b L : Nat} {xs : Nat → Int32} (hL : L ≤ 3584) (C0 : lw_At p s m meth c b L xs) : W p l e room_1 s m #[Value.ref b] below meth c s.heap [] 0 0 (lw_Z below #[Value.ref b] s) (entryFrame m ([Value.ref b] : List Value).toArray 4) := by
  obtain ⟨hx, hb, hr, hml, hown, hts0, hX, hbl, hlk, hgv⟩ := id C0
  have hts : ∀ w ∈ TB, w.before #[Value.ref b] s = true := fun w hw => hts0 w (List.mem_filter.mp hw).1
  have hAO : va_AO RX4 s := va_AO.of (hts0 _ m_over)
  have hNw : vNw s := va_Nw.of rfl (hts0 _ m_nest)
  obtain ⟨c0, iS0, hKn0⟩ := u_known (C := RX0) (T := TX0) (N := 3) (n := 3) hts i_X0 (hts _ w_105)
  obtain ⟨c1, iS1, hKn1⟩ := u_known (C := RX1) (T := TX1) (N := 2) (n := 2) hts i_X1 (hts _ w_56)
  obtain ⟨c2, iS2, hKn2⟩ := u_known (C := RX2) (T := TX2) (N := 8) (n := 8) hts i_X2 (hts _ w_72)
  obtain ⟨c3, iS3, hKn3⟩ := u_known (C := RX4) (T := TX4) (N := 5) (n := 5) hts i_X4 (hts _ w_122)
  obtain ⟨c4, iS4, hKn4⟩ := u_known (C := RX5) (T := TX5) (N := 6) (n := 6) hts i_X5 (hts _ w_48)
  obtain ⟨c5, iS5, hKn5⟩ := u_known (C := RX6) (T := TX6) (N := 20) (n := 20) hts i_X6 (hts _ w_489)
  obtain ⟨D, hKc⟩ : ∃ D : va_G, ∀ (k : Nat) (q : vw_C), vwCl[k]? = some q → u_Kn s q.1 q.2.1 q.2.2 (D.1 k) (D.2 k) := by
    refine ⟨(fun k => if k = 0 then c0 else if k = 1 then c1 else if k = 2 then c2 else if k = 3 then c3 else if k = 4 then c4 else c5, fun k => if k = 0 then iS0 else if k = 1 then iS1 else if k = 2 then iS2 else if k = 3 then iS3 else if k = 4 then iS4 else iS5), ?_⟩
    intro k q hq
    match k, hq with
    | 0, hq => cases hq; exact hKn0
    | 1, hq => cases hq; exact hKn1
    | 2, hq => cases hq; exact hKn2
    | 3, hq => cases hq; exact hKn3
    | 4, hq => cases hq; exact hKn4
    | 5, hq => cases hq; exact hKn5
    | k + 6, hq => simp [vwCl] at hq
  obtain ⟨cI, kI, compI, i1, i2, i3⟩ := Cond.arrayClass_spec (hts _ w_70)
  obtain ⟨cZ, kZ, compZ, z1, z2, z3⟩ := Cond.arrayClass_spec (hts _ w_555)
  obtain ⟨compR, cR, kR, r1, r2, r3, r4, r5⟩ := Cond.arrayOver_spec (hts0 _ m_over)
  have hK : va_K D vwCl (tyL cI cZ cR) s := by
    refine ⟨hKc, fun k q hk => ?_⟩
    match k, hk with
    | 0, hk => cases hk; exact ⟨fun n z => ⟨fun k h => (by cases h), kI, i2, compI, i3⟩, i1⟩
    | 1, hk => cases hk; exact ⟨fun n z => ⟨fun k h => (by cases h), kZ, z2, compZ, z3⟩, z1⟩
    | 2, hk => cases hk; exact ⟨fun n z => ⟨fun k h => (by cases h), kR, r3, compR, r4⟩, kR, compR, r3, r4, r1, r5⟩
    | k + 3, hk => simp [tyL] at hk
  have G : Gx p s m #[Value.ref b] c code 4 RL (fun q => s.heap.size ≤ q) D cI cZ cR := ⟨hx, hb, hml, hown, hts, hK, fun q h => h, hAO⟩
  have hS : va_S (fun q => s.heap.size ≤ q) s.heap s.heap [] := va_S.rf
  have hPD : PD D (fun q => s.heap.size ≤ q) ([] ++ []) s.heap := ⟨fun k q h => by simp at h, ⟨fun i j p q h => by simp at h, fun k q h => by simp at h⟩⟩
  have hl := lv_entry ([.ref b]) (n := 4) (Nat.le_of_ble_eq_true rfl)
  rw [lg_entry_eq]
  generalize (lg_sl ([.ref b]) ++ List.replicate (4 - (lg_sl ([.ref b])).length) Slot.unset).toArray = ls at hl ⊢
  have hl : lv_has ls 4 [(0, .ref b)] := hl
  refine g_new (X := []) (Z := []) G hPD hS (ci := 4) (N := 6) (CN := RX5) (T := TX5) (ty := tyX5) [.null, .null, .null, .null, .null, .int 0] i_X5 tyX5_ok rfl w_47 w_48 w_38 (fun j hj => by rcases (show j = 0 ∨ j = 1 ∨ j = 2 ∨ j = 3 ∨ j = 4 ∨ j = 5 by omega) with rfl | rfl | rfl | rfl | rfl | rfl <;> rfl) (Nat.le_of_ble_eq_true rfl) (Nat.le_of_ble_eq_true rfl) dL_law_0 (fun h0 H hPD hS => ?_)
  refine lv_dup hx hb dL_law_3 rfl ?_
  refine g_init (n := 0) (mc := 85) (ms := 5673) (W0 := [(h0, .inr (4, [.null, .null, .null, .null, .null, .int 0]))] ++ []) (As := []) (rest := [.ref h0]) G hPD hS hl.1 (i_X5_init l h0 []) rfl rfl rfl w_49 w_50 w_38 w_51 (by decide +kernel) ⟨(Nat.le_of_ble_eq_true rfl), (Nat.le_of_ble_eq_true rfl)⟩ rfl (Nat.le_of_ble_eq_true rfl) dL_law_4 ⟨(Nat.le_of_ble_eq_true rfl), (Nat.le_of_ble_eq_true rfl)⟩ rfl (fun u H locs hu hPD hS => ?_)
  obtain ⟨q4, q21, q1, k1, k2, q2, m1, m2, m3, m4, q3, f1, f2, ts⟩ := u
  have hts24 : ts.length = 24 := hu
  have hPD : PD D (fun q => s.heap.size ≤ q) ([] ++ ([(h0, .inr (4, [.ref q1, .ref q2, .ref q3, .ref q4, .ref q21, .int 0])), (q4, .inl (cR, 24, .inr (.inr (.inr (.inr (fR ts)))))), (q21, .inl (cI, 16, .inl (fun _ => 0)))] ++ (rw_ cI ts ++ ([(q1, .inr (1, [.ref k2, .ref k1])), (k1, .inl (cI, 16, .inl (fJ 16))), (k2, .inl (cI, 16, .inl (fW 16))), (q2, .inr (2, [.int 100, .int 1000, .ref q1, .int 0, .ref m1, .ref m2, .ref m3, .ref m4])), (m1, .inl (cI, 16, .inl (fun _ => 0))), (m2, .inl (cI, 4, .inl (fun _ => 0))), (m3, .inl (cI, 4, .inl (fun _ => 0))), (m4, .inl (cI, 4, .inl (fun _ => 0))), (q3, .inr (0, [.ref f1, .ref f2, .int 0])), (f1, .inl (cI, 2000, .inl (fun _ => 0))), (f2, .inl (cI, 2000, .inl (fun _ => 0)))] ++ [])))) H := hPD
  refine lv_astore_n (lv' := [(1, .ref h0), (0, .ref b)]) hx hb dL_law_7 rfl hl (by decide) rfl (fun ls hl => ?_)
  refine g_new (X := []) (Z := ([(h0, .inr (4, [.ref q1, .ref q2, .ref q3, .ref q4, .ref q21, .int 0])), (q4, .inl (cR, 24, .inr (.inr (.inr (.inr (fR ts)))))), (q21, .inl (cI, 16, .inl (fun _ => 0)))] ++ (rw_ cI ts ++ ([(q1, .inr (1, [.ref k2, .ref k1])), (k1, .inl (cI, 16, .inl (fJ 16))), (k2, .inl (cI, 16, .inl (fW 16))), (q2, .inr (2, [.int 100, .int 1000, .ref q1, .int 0, .ref m1, .ref m2, .ref m3, .ref m4])), (m1, .inl (cI, 16, .inl (fun _ => 0))), (m2, .inl (cI, 4, .inl (fun _ => 0))), (m3, .inl (cI, 4, .inl (fun _ => 0))), (m4, .inl (cI, 4, .inl (fun _ => 0))), (q3, .inr (0, [.ref f1, .ref f2, .int 0])), (f1, .inl (cI, 2000, .inl (fun _ => 0))), (f2, .inl (cI, 2000, .inl (fun _ => 0)))] ++ [])))) G hPD hS (ci := 5) (N := 20) (CN := RX6) (T := TX6) (ty := tyX6) [.int 0, .int 0, .int 0, .int 0, .null, .null, .null, .null, .null, .null, .int 0, .null, .null, .null, .int 0, .null, .null, .null, .null, .null] i_X6 tyX6_ok rfl w_488 w_489 w_43 (fun j hj => by rcases (show j = 0 ∨ j = 1 ∨ j = 2 ∨ j = 3 ∨ j = 4 ∨ j = 5 ∨ j = 6 ∨ j = 7 ∨ j = 8 ∨ j = 9 ∨ j = 10 ∨ j = 11 ∨ j = 12 ∨ j = 13 ∨ j = 14 ∨ j = 15 ∨ j = 16 ∨ j = 17 ∨ j = 18 ∨ j = 19 by omega) with rfl | rfl | rfl | rfl | rfl | rfl | rfl | rfl | rfl | rfl | rfl | rfl | rfl | rfl | rfl | rfl | rfl | rfl | rfl | rfl <;> rfl) (Nat.le_of_ble_eq_true rfl) (Nat.le_of_ble_eq_true rfl) dL_law_8 (fun hM H hPD hS => ?_)
  refine lv_dup hx hb dL_law_11 rfl ?_
  refine g_init (n := 0) (mc := 14) (ms := 15360) (W0 := [(hM, .inr (5, [.int 0, .int 0, .int 0, .int 0, .null, .null, .null, .null, .null, .null, .int 0, .null, .null, .null, .int 0, .null, .null, .null, .null, .null]))] ++ ([(h0, .inr (4, [.ref q1, .ref q2, .ref q3, .ref q4, .ref q21, .int 0])), (q4, .inl (cR, 24, .inr (.inr (.inr (.inr (fR ts)))))), (q21, .inl (cI, 16, .inl (fun _ => 0)))] ++ (rw_ cI ts ++ ([(q1, .inr (1, [.ref k2, .ref k1])), (k1, .inl (cI, 16, .inl (fJ 16))), (k2, .inl (cI, 16, .inl (fW 16))), (q2, .inr (2, [.int 100, .int 1000, .ref q1, .int 0, .ref m1, .ref m2, .ref m3, .ref m4])), (m1, .inl (cI, 16, .inl (fun _ => 0))), (m2, .inl (cI, 4, .inl (fun _ => 0))), (m3, .inl (cI, 4, .inl (fun _ => 0))), (m4, .inl (cI, 4, .inl (fun _ => 0))), (q3, .inr (0, [.ref f1, .ref f2, .int 0])), (f1, .inl (cI, 2000, .inl (fun _ => 0))), (f2, .inl (cI, 2000, .inl (fun _ => 0)))] ++ [])))) (As := []) (rest := [.ref hM]) G hPD hS hl.1 (i_X6_init l hM ([(h0, .inr (4, [.ref q1, .ref q2, .ref q3, .ref q4, .ref q21, .int 0])), (q4, .inl (cR, 24, .inr (.inr (.inr (.inr (fR ts)))))), (q21, .inl (cI, 16, .inl (fun _ => 0)))] ++ (rw_ cI ts ++ ([(q1, .inr (1, [.ref k2, .ref k1])), (k1, .inl (cI, 16, .inl (fJ 16))), (k2, .inl (cI, 16, .inl (fW 16))), (q2, .inr (2, [.int 100, .int 1000, .ref q1, .int 0, .ref m1, .ref m2, .ref m3, .ref m4])), (m1, .inl (cI, 16, .inl (fun _ => 0))), (m2, .inl (cI, 4, .inl (fun _ => 0))), (m3, .inl (cI, 4, .inl (fun _ => 0))), (m4, .inl (cI, 4, .inl (fun _ => 0))), (q3, .inr (0, [.ref f1, .ref f2, .int 0])), (f1, .inl (cI, 2000, .inl (fun _ => 0))), (f2, .inl (cI, 2000, .inl (fun _ => 0)))] ++ [])))) rfl rfl rfl w_490 w_491 w_43 w_492 (by decide +kernel) ⟨(Nat.le_of_ble_eq_true rfl), (Nat.le_of_ble_eq_true rfl)⟩ rfl (Nat.le_of_ble_eq_true rfl) dL_law_12 ⟨(Nat.le_of_ble_eq_true rfl), (Nat.le_of_ble_eq_true rfl)⟩ rfl (fun u H locs hu hPD hS => ?_)
  obtain ⟨v1, v2, v3, v4, v5, v6, v7, v8, v9, v10, v11, v12, v13, v14⟩ := u
  refine lv_astore_n (lv' := [(2, .ref hM), (1, .ref h0), (0, .ref b)]) hx hb dL_law_15 rfl hl (by decide) rfl (fun ls hl => ?_)
  refine lv_iconst (v := iN 0) hx hb dL_law_16 rfl ?_
  refine lv_istore_n (lv' := [(3, .int (iN 0)), (2, .ref hM), (1, .ref h0), (0, .ref b)]) hx hb dL_law_17 rfl hl (by decide) rfl (fun ls hl => ?_)
  obtain ⟨hP, hi, hA⟩ := world_0 (cI := cI) (cZ := cZ) (cR := cR) (ts := ts) (b := b) (hM := hM) (v1 := v1) (v2 := v2) (v3 := v3) (v4 := v4) (v5 := v5) (v6 := v6) (v7 := v7) (v8 := v8) (v9 := v9) (v10 := v10) (v11 := v11) (v12 := v12) (v13 := v13) (v14 := v14) (h0 := h0) (q1 := q1) (k2 := k2) (k1 := k1) (q2 := q2) (m1 := m1) (m2 := m2) (m3 := m3) (m4 := m4) (q3 := q3) (f1 := f1) (f2 := f2) (q4 := q4) (q21 := q21) hts24 hPD
  refine W.widen (k := 101) (n := 21059) (Nat.le_of_ble_eq_true rfl) (Nat.le_of_ble_eq_true rfl) ?_
  have F : Fx p room_1 s m #[Value.ref b] c 101 21059 code 4 RL (fun q => s.heap.size ≤ q) (L0 [h0, q1, k2, k1, q2, m1, m2, m3, m4, q3, f1, f2, q4, q21] [hM, v1, v2, v3, v4, v5, v6, v7, v8, v9, v10, v11, v12, v13, v14] ts b) D cI cZ cR (0 + 7) := ⟨hx, hb, hml, hown, hts, hK, hi, hA, ⟨(Nat.le_of_ble_eq_true rfl), (Nat.le_of_ble_eq_true rfl)⟩, ⟨(Nat.le_of_ble_eq_true rfl), (Nat.le_of_ble_eq_true rfl)⟩, hNw⟩
  have hrun := c_law (C := sC l (L0 [h0, q1, k2, k1, q2, m1, m2, m3, m4, q3, f1, f2, q4, q21] [hM, v1, v2, v3, v4, v5, v6, v7, v8, v9, v10, v11, v12, v13, v14] ts b) D cI cZ cR) (d := 0) (Q := fun _ _ => False) (n := L) (xs := xs) Snd.sC (by omega) L 0 M0 (by omega) (by omega) (by omega) J_0
  exact law_sound F hr hlk (Nat.le_of_ble_eq_true rfl) (Nat.le_of_ble_eq_true rfl) hX hbl (Nat.not_le.mpr hbl) rfl (by omega) hrun H locs ls hP hS (lv_sub hl [3, 2, 1, 0] rfl)

/-! EACH INSTRUCTION'S ROW: the small machine's step is the machine's -/
def rmD (d : Nat) : Room := { frames := d, cells := 0, slots := 0, locals := 31 * d }
def Fx (p : Program) (R : Room) (s : State) (m : MethodId) (args : Array Value) (c : Code) (cells slots : Nat) (cc : ByteArray) (nL : Nat) (own : String) (A : Nat → Prop) (L : Nat → Nat) (D : va_G) (cI cZ cR : ClassId) (d : Nat) : Prop :=
  p.tables.exec = Jvm.exec ∧ c.code = cc ∧ c.maxLocals = nL ∧ s.vm.findClass own = some m.cls ∧ (∀ w ∈ TB, w.before args s = true) ∧ va_K D vwCl (tyL cI cZ cR) s ∧ iL L ∧ (∀ i, i < 101 → A (L i)) ∧ (d ≤ R.frames ∧ 31 * d ≤ R.locals) ∧ (cells ≤ R.cells ∧ slots ≤ R.slots) ∧ va_Nw (.methodLinkNest RX3 9 yX5_isKind RX5) s
def sY (p : Program) (l : Launch) (e : Env) (R : Room) (s : State) (m : MethodId) (args : Array Value) (below : List Frame) (meth : Method) (c : Code) (cells slots : Nat) (QQ : State → Prop) (nL : Nat) (A : Nat → Prop) (L : Nat → Nat) (D : va_G) (cI cZ cR : ClassId) : tY :=
  fun pc ls st M => ∀ (H : Heap) (locs : List Loc) (lsA : Array Slot), va_P D vwCl (wW L cI cZ cR M) H → va_S A s.heap H locs → lv_has lsA nL (tp L 0 ls) → W p l e R s m args below meth c H locs cells slots QQ (F0 m pc lsA (st.map (toV L)))
def qc (L : Nat → Nat) (D : va_G) (cI cZ cR : ClassId) (Q : tQ) : Array Value → State → Outcome → State → Prop := fun _ st oc t => (∃ (r : Option tV) (M2 : tM), oc = .returned (r.map (toV L)) ∧ Q r M2 ∧ va_P D vwCl (wW L cI cZ cR M2) t.heap ∧ va_K D vwCl (tyL cI cZ cR) t) ∧ va_F (AL L) st t
theorem i_X0 : ∀ w ∈ u_ws RX0 TX0 3, w ∈ TB := by decide +kernel
theorem i_X1 : ∀ w ∈ u_ws RX1 TX1 2, w ∈ TB := by decide +kernel
theorem i_X2 : ∀ w ∈ u_ws RX2 TX2 8, w ∈ TB := by decide +kernel
theorem i_X4 : ∀ w ∈ u_ws RX4 TX4 5, w ∈ TB := by decide +kernel
theorem i_X5 : ∀ w ∈ u_ws RX5 TX5 6, w ∈ TB := by decide +kernel
theorem i_X6 : ∀ w ∈ u_ws RX6 TX6 20, w ∈ TB := by decide +kernel
theorem swL.get {x : Int} {Y : Nat → Prop} : ∀ {ts : List Nat} {v : Int}, swL x Y v ts → ∀ (n : Nat), x = v + n → n < ts.length → ∃ t, ts[n]? = some t ∧ Y t
  | [], v, h, n, e, hn => by simp at hn
  | t :: ts, v, h, 0, e, hn => ⟨t, rfl, h.1 (by omega)⟩
  | t :: ts, v, h, n + 1, e, hn => by
    obtain ⟨t2, h1, h2⟩ := swL.get h.2 n (by omega) (by simpa using hn)
    exact ⟨t2, h1, h2⟩
theorem nar_z {x : Int} (h : x = 0 ∨ x = 1) : narrow .boolean (.int (iN x)) = .int (iN x) := by
  rcases h with rfl | rfl <;> rfl
theorem fit_z {x : Int} (h : x = 0 ∨ x = 1) : fits .boolean (.int (iN x)) = true := by
  rcases h with rfl | rfl <;> rfl
theorem nar_zz {x : Int} (h : x = 0 ∨ x = 1) : vp_nar .boolean (iN x) = iN x := by
  rcases h with rfl | rfl <;> rfl
section RR
variable {p : Program} {l : Launch} {e : Env} {R : Room} {s : State} {m : MethodId} {args : Array Value} {below : List Frame} {meth : Method} {c : Code} {cells slots : Nat} {QQ : State → Prop} {cc : ByteArray} {nL : Nat} {own : String} {A : Nat → Prop} {L : Nat → Nat} {D : va_G} {cI cZ cR : ClassId} {d : Nat} {C : tC} {Q : tQ} {pc : Nat}
theorem r_iconst (F : Fx p R s m args c cells slots cc nL own A L D cI cZ cR d) {n : Int} (hd : decode cc pc = .ok (.iconst n, 1)) : ∀ ls st M, (f_push n 1) C d Q (sY p l e R s m args below meth c cells slots QQ nL A L D cI cZ cR) pc ls st M → (sY p l e R s m args below meth c cells slots QQ nL A L D cI cZ cR) pc ls st M := by
  intro ls st M h H locs lsA hP hS hl
  obtain ⟨hx, hb, hml, hown, hts, hK, hi, hA, hR, hcs, hNw⟩ := F
  exact lv_iconst hx hb hd rfl (h H locs lsA hP hS hl)
theorem r_bipush (F : Fx p R s m args c cells slots cc nL own A L D cI cZ cR d) {n : Int} (hd : decode cc pc = .ok (.bipush n, 2)) (hn : (Int8.ofInt n).toInt32 = iN n) : ∀ ls st M, (f_push n 2) C d Q (sY p l e R s m args below meth c cells slots QQ nL A L D cI cZ cR) pc ls st M → (sY p l e R s m args below meth c cells slots QQ nL A L D cI cZ cR) pc ls st M := by
  intro ls st M h H locs lsA hP hS hl
  obtain ⟨hx, hb, hml, hown, hts, hK, hi, hA, hR, hcs, hNw⟩ := F
  exact lv_bipush hx hb hd hn (h H locs lsA hP hS hl)
theorem r_sipush (F : Fx p R s m args c cells slots cc nL own A L D cI cZ cR d) {n : Int} (hd : decode cc pc = .ok (.sipush n, 3)) (hn : (Int16.ofInt n).toInt32 = iN n) : ∀ ls st M, (f_push n 3) C d Q (sY p l e R s m args below meth c cells slots QQ nL A L D cI cZ cR) pc ls st M → (sY p l e R s m args below meth c cells slots QQ nL A L D cI cZ cR) pc ls st M := by
  intro ls st M h H locs lsA hP hS hl
  obtain ⟨hx, hb, hml, hown, hts, hK, hi, hA, hR, hcs, hNw⟩ := F
  exact lv_sipush hx hb hd hn (h H locs lsA hP hS hl)
theorem r_ldc (F : Fx p R s m args c cells slots cc nL own A L D cI cZ cR d) {n : Int} {k : Nat} {v : Int32} (hd : decode cc pc = .ok (.ldc k, 2)) (hw : Cond.constant own k v ∈ TB) (hn : v = iN n) : ∀ ls st M, (f_push n 2) C d Q (sY p l e R s m args below meth c cells slots QQ nL A L D cI cZ cR) pc ls st M → (sY p l e R s m args below meth c cells slots QQ nL A L D cI cZ cR) pc ls st M := by
  intro ls st M h H locs lsA hP hS hl
  obtain ⟨hx, hb, hml, hown, hts, hK, hi, hA, hR, hcs, hNw⟩ := F
  subst hn
  exact lv_ldc hx hb hown (hts _ hw) hd (h H locs lsA hP hS hl)
theorem r_ldcw (F : Fx p R s m args c cells slots cc nL own A L D cI cZ cR d) {n : Int} {k : Nat} {v : Int32} (hd : decode cc pc = .ok (.ldc_w k, 3)) (hw : Cond.constant own k v ∈ TB) (hn : v = iN n) : ∀ ls st M, (f_push n 3) C d Q (sY p l e R s m args below meth c cells slots QQ nL A L D cI cZ cR) pc ls st M → (sY p l e R s m args below meth c cells slots QQ nL A L D cI cZ cR) pc ls st M := by
  intro ls st M h H locs lsA hP hS hl
  obtain ⟨hx, hb, hml, hown, hts, hK, hi, hA, hR, hcs, hNw⟩ := F
  subst hn
  exact lv_ldcw hx hb hown (hts _ hw) hd (h H locs lsA hP hS hl)
theorem r_ldc2 (F : Fx p R s m args c cells slots cc nL own A L D cI cZ cR d) {n : Int} {k : Nat} {v : Int64} (hd : decode cc pc = .ok (.ldc2_w k, 3)) (hw : Cond.constantLong own k v ∈ TB) (hn : v = lI n) : ∀ ls st M, (f_pushL n 3) C d Q (sY p l e R s m args below meth c cells slots QQ nL A L D cI cZ cR) pc ls st M → (sY p l e R s m args below meth c cells slots QQ nL A L D cI cZ cR) pc ls st M := by
  intro ls st M h H locs lsA hP hS hl
  obtain ⟨hx, hb, hml, hown, hts, hK, hi, hA, hR, hcs, hNw⟩ := F
  subst hn
  exact lv_ldc2 hx hb hown (hts _ hw) hd (h H locs lsA hP hS hl)
theorem r_lconst (F : Fx p R s m args c cells slots cc nL own A L D cI cZ cR d) {n : Int} {k : Fin 2} (hd : decode cc pc = .ok (.lconst k, 1)) (hn : Int64.ofNat (k : Nat) = lI n) : ∀ ls st M, (f_pushL n 1) C d Q (sY p l e R s m args below meth c cells slots QQ nL A L D cI cZ cR) pc ls st M → (sY p l e R s m args below meth c cells slots QQ nL A L D cI cZ cR) pc ls st M := by
  intro ls st M h H locs lsA hP hS hl
  obtain ⟨hx, hb, hml, hown, hts, hK, hi, hA, hR, hcs, hNw⟩ := F
  exact lv_lconst hx hb hd hn (h H locs lsA hP hS hl)
theorem r_iload_n (F : Fx p R s m args c cells slots cc nL own A L D cI cZ cR d) {i : Nat} {k : Fin 4} (hd : decode cc pc = .ok (.iload_n k, 1)) (hk : (k : Nat) = i) : ∀ ls st M, (f_loadI i 1) C d Q (sY p l e R s m args below meth c cells slots QQ nL A L D cI cZ cR) pc ls st M → (sY p l e R s m args below meth c cells slots QQ nL A L D cI cZ cR) pc ls st M := by
  intro ls st M h H locs lsA hP hS hl
  obtain ⟨hx, hb, hml, hown, hts, hK, hi, hA, hR, hcs, hNw⟩ := F
  unfold f_loadI at h
  split at h
  · rename_i x hv
    exact lv_iload_n hx hb hd hk (tp.at hl hv) (h H locs lsA hP hS hl)
  · exact h.elim
theorem r_aload_n (F : Fx p R s m args c cells slots cc nL own A L D cI cZ cR d) {i : Nat} {k : Fin 4} (hd : decode cc pc = .ok (.aload_n k, 1)) (hk : (k : Nat) = i) : ∀ ls st M, (f_loadR i 1) C d Q (sY p l e R s m args below meth c cells slots QQ nL A L D cI cZ cR) pc ls st M → (sY p l e R s m args below meth c cells slots QQ nL A L D cI cZ cR) pc ls st M := by
  intro ls st M h H locs lsA hP hS hl
  obtain ⟨hx, hb, hml, hown, hts, hK, hi, hA, hR, hcs, hNw⟩ := F
  unfold f_loadR at h
  split at h
  · rename_i x hv
    exact lv_aload_n hx hb hd hk (tp.at hl hv) (h H locs lsA hP hS hl)
  · exact h.elim
theorem r_lload_n (F : Fx p R s m args c cells slots cc nL own A L D cI cZ cR d) {i : Nat} {k : Fin 4} (hd : decode cc pc = .ok (.lload_n k, 1)) (hk : (k : Nat) = i) : ∀ ls st M, (f_loadL i 1) C d Q (sY p l e R s m args below meth c cells slots QQ nL A L D cI cZ cR) pc ls st M → (sY p l e R s m args below meth c cells slots QQ nL A L D cI cZ cR) pc ls st M := by
  intro ls st M h H locs lsA hP hS hl
  obtain ⟨hx, hb, hml, hown, hts, hK, hi, hA, hR, hcs, hNw⟩ := F
  unfold f_loadL at h
  split at h
  · rename_i x hv
    exact lv_lload_n hx hb hd hk (tp.at hl hv) (h H locs lsA hP hS hl)
  · exact h.elim
theorem r_iload (F : Fx p R s m args c cells slots cc nL own A L D cI cZ cR d) {i : Nat} (hd : decode cc pc = .ok (.iload i, 2)) : ∀ ls st M, (f_loadI i 2) C d Q (sY p l e R s m args below meth c cells slots QQ nL A L D cI cZ cR) pc ls st M → (sY p l e R s m args below meth c cells slots QQ nL A L D cI cZ cR) pc ls st M := by
  intro ls st M h H locs lsA hP hS hl
  obtain ⟨hx, hb, hml, hown, hts, hK, hi, hA, hR, hcs, hNw⟩ := F
  unfold f_loadI at h
  split at h
  · rename_i x hv
    exact lv_iload hx hb hd (tp.at hl hv) (h H locs lsA hP hS hl)
  · exact h.elim
theorem r_aload (F : Fx p R s m args c cells slots cc nL own A L D cI cZ cR d) {i : Nat} (hd : decode cc pc = .ok (.aload i, 2)) : ∀ ls st M, (f_loadR i 2) C d Q (sY p l e R s m args below meth c cells slots QQ nL A L D cI cZ cR) pc ls st M → (sY p l e R s m args below meth c cells slots QQ nL A L D cI cZ cR) pc ls st M := by
  intro ls st M h H locs lsA hP hS hl
  obtain ⟨hx, hb, hml, hown, hts, hK, hi, hA, hR, hcs, hNw⟩ := F
  unfold f_loadR at h
  split at h
  · rename_i x hv
    exact lv_aload hx hb hd (tp.at hl hv) (h H locs lsA hP hS hl)
  · exact h.elim
theorem r_lload (F : Fx p R s m args c cells slots cc nL own A L D cI cZ cR d) {i : Nat} (hd : decode cc pc = .ok (.lload i, 2)) : ∀ ls st M, (f_loadL i 2) C d Q (sY p l e R s m args below meth c cells slots QQ nL A L D cI cZ cR) pc ls st M → (sY p l e R s m args below meth c cells slots QQ nL A L D cI cZ cR) pc ls st M := by
  intro ls st M h H locs lsA hP hS hl
  obtain ⟨hx, hb, hml, hown, hts, hK, hi, hA, hR, hcs, hNw⟩ := F
  unfold f_loadL at h
  split at h
  · rename_i x hv
    exact lv_lload hx hb hd (tp.at hl hv) (h H locs lsA hP hS hl)
  · exact h.elim
theorem r_istore_n (F : Fx p R s m args c cells slots cc nL own A L D cI cZ cR d) {i : Nat} {k : Fin 4} (hd : decode cc pc = .ok (.istore_n k, 1)) (hk : (k : Nat) = i) (hn : i < nL) : ∀ ls st M, (f_storeI i 1) C d Q (sY p l e R s m args below meth c cells slots QQ nL A L D cI cZ cR) pc ls st M → (sY p l e R s m args below meth c cells slots QQ nL A L D cI cZ cR) pc ls st M := by
  intro ls st M h H locs lsA hP hS hl
  obtain ⟨hx, hb, hml, hown, hts, hK, hi, hA, hR, hcs, hNw⟩ := F
  unfold f_storeI at h
  split at h
  · rename_i x st
    exact lv_istore_n hx hb hd hk hl hn rfl (fun ls2 hl2 => h H locs ls2 hP hS (tp.put (v := vI x) hl2))
  · exact h.elim
theorem r_istore (F : Fx p R s m args c cells slots cc nL own A L D cI cZ cR d) {i : Nat} (hd : decode cc pc = .ok (.istore i, 2)) (hn : i < nL) : ∀ ls st M, (f_storeI i 2) C d Q (sY p l e R s m args below meth c cells slots QQ nL A L D cI cZ cR) pc ls st M → (sY p l e R s m args below meth c cells slots QQ nL A L D cI cZ cR) pc ls st M := by
  intro ls st M h H locs lsA hP hS hl
  obtain ⟨hx, hb, hml, hown, hts, hK, hi, hA, hR, hcs, hNw⟩ := F
  unfold f_storeI at h
  split at h
  · rename_i x st
    exact lv_istore hx hb hd hl hn rfl (fun ls2 hl2 => h H locs ls2 hP hS (tp.put (v := vI x) hl2))
  · exact h.elim
theorem r_astore_n (F : Fx p R s m args c cells slots cc nL own A L D cI cZ cR d) {i : Nat} {k : Fin 4} (hd : decode cc pc = .ok (.astore_n k, 1)) (hk : (k : Nat) = i) (hn : i < nL) : ∀ ls st M, (f_storeR i 1) C d Q (sY p l e R s m args below meth c cells slots QQ nL A L D cI cZ cR) pc ls st M → (sY p l e R s m args below meth c cells slots QQ nL A L D cI cZ cR) pc ls st M := by
  intro ls st M h H locs lsA hP hS hl
  obtain ⟨hx, hb, hml, hown, hts, hK, hi, hA, hR, hcs, hNw⟩ := F
  unfold f_storeR at h
  split at h
  · rename_i x st
    exact lv_astore_n hx hb hd hk hl hn rfl (fun ls2 hl2 => h H locs ls2 hP hS (tp.put (v := vR x) hl2))
  · exact h.elim
theorem r_astore (F : Fx p R s m args c cells slots cc nL own A L D cI cZ cR d) {i : Nat} (hd : decode cc pc = .ok (.astore i, 2)) (hn : i < nL) : ∀ ls st M, (f_storeR i 2) C d Q (sY p l e R s m args below meth c cells slots QQ nL A L D cI cZ cR) pc ls st M → (sY p l e R s m args below meth c cells slots QQ nL A L D cI cZ cR) pc ls st M := by
  intro ls st M h H locs lsA hP hS hl
  obtain ⟨hx, hb, hml, hown, hts, hK, hi, hA, hR, hcs, hNw⟩ := F
  unfold f_storeR at h
  split at h
  · rename_i x st
    exact lv_astore hx hb hd hl hn rfl (fun ls2 hl2 => h H locs ls2 hP hS (tp.put (v := vR x) hl2))
  · exact h.elim
theorem r_lstore_n (F : Fx p R s m args c cells slots cc nL own A L D cI cZ cR d) {i : Nat} {k : Fin 4} (hd : decode cc pc = .ok (.lstore_n k, 1)) (hk : (k : Nat) = i) (hn : i + 1 < nL) : ∀ ls st M, (f_storeL i 1) C d Q (sY p l e R s m args below meth c cells slots QQ nL A L D cI cZ cR) pc ls st M → (sY p l e R s m args below meth c cells slots QQ nL A L D cI cZ cR) pc ls st M := by
  intro ls st M h H locs lsA hP hS hl
  obtain ⟨hx, hb, hml, hown, hts, hK, hi, hA, hR, hcs, hNw⟩ := F
  unfold f_storeL at h
  split at h
  · rename_i x st
    exact lv_lstore_n hx hb hd hk hl hn rfl (fun ls2 hl2 => h H locs ls2 hP hS (tp.putL (v := vL x) hl2))
  · exact h.elim
theorem r_lstore (F : Fx p R s m args c cells slots cc nL own A L D cI cZ cR d) {i : Nat} (hd : decode cc pc = .ok (.lstore i, 2)) (hn : i + 1 < nL) : ∀ ls st M, (f_storeL i 2) C d Q (sY p l e R s m args below meth c cells slots QQ nL A L D cI cZ cR) pc ls st M → (sY p l e R s m args below meth c cells slots QQ nL A L D cI cZ cR) pc ls st M := by
  intro ls st M h H locs lsA hP hS hl
  obtain ⟨hx, hb, hml, hown, hts, hK, hi, hA, hR, hcs, hNw⟩ := F
  unfold f_storeL at h
  split at h
  · rename_i x st
    exact lv_lstore hx hb hd hl hn rfl (fun ls2 hl2 => h H locs ls2 hP hS (tp.putL (v := vL x) hl2))
  · exact h.elim
theorem r_iinc (F : Fx p R s m args c cells slots cc nL own A L D cI cZ cR d) {i : Nat} {n : Int} (hd : decode cc pc = .ok (.iinc i n, 3)) (hn : i < nL) : ∀ ls st M, (f_iinc i n) C d Q (sY p l e R s m args below meth c cells slots QQ nL A L D cI cZ cR) pc ls st M → (sY p l e R s m args below meth c cells slots QQ nL A L D cI cZ cR) pc ls st M := by
  intro ls st M h H locs lsA hP hS hl
  obtain ⟨hx, hb, hml, hown, hts, hK, hi, hA, hR, hcs, hNw⟩ := F
  unfold f_iinc at h
  split at h
  · rename_i x hv
    obtain ⟨k, hk⟩ := List.getElem?_of_mem ((tp.mem ls 0 (i, toV L (vI x))).mpr ⟨i, vI x, hv, by rw [Nat.zero_add]⟩)
    exact lv_iinc hx hb hd hl hk rfl hn rfl (fun ls2 hl2 => h H locs ls2 hP hS (tp.put (v := vI (x + n)) (by rw [show toV L (vI (x + n)) = .int (iN x + Int32.ofInt n) by show Value.int (Int32.ofInt (x + n)) = _; rw [Int32.ofInt_add]]; exact hl2)))
  · exact h.elim
theorem r_iadd (F : Fx p R s m args c cells slots cc nL own A L D cI cZ cR d)  (hd : decode cc pc = .ok (.iadd, 1)) : ∀ ls st M, f_add C d Q (sY p l e R s m args below meth c cells slots QQ nL A L D cI cZ cR) pc ls st M → (sY p l e R s m args below meth c cells slots QQ nL A L D cI cZ cR) pc ls st M := by
  intro ls st M h H locs lsA hP hS hl
  obtain ⟨hx, hb, hml, hown, hts, hK, hi, hA, hR, hcs, hNw⟩ := F
  unfold f_add at h
  split at h
  · rename_i y x st
    have k := h H locs lsA hP hS hl
    rw [List.map_cons, show toV L (vI (x + y)) = .int (Int32.ofInt (x + y)) from rfl, Int32.ofInt_add] at k
    exact lv_iadd hx hb hd k
  · exact h.elim
theorem r_isub (F : Fx p R s m args c cells slots cc nL own A L D cI cZ cR d)  (hd : decode cc pc = .ok (.isub, 1)) : ∀ ls st M, f_sub C d Q (sY p l e R s m args below meth c cells slots QQ nL A L D cI cZ cR) pc ls st M → (sY p l e R s m args below meth c cells slots QQ nL A L D cI cZ cR) pc ls st M := by
  intro ls st M h H locs lsA hP hS hl
  obtain ⟨hx, hb, hml, hown, hts, hK, hi, hA, hR, hcs, hNw⟩ := F
  unfold f_sub at h
  split at h
  · rename_i y x st
    have k := h H locs lsA hP hS hl
    rw [List.map_cons, show toV L (vI (x - y)) = .int (Int32.ofInt (x - y)) from rfl, Int32.ofInt_sub] at k
    exact lv_isub hx hb hd k
  · exact h.elim
theorem r_imul (F : Fx p R s m args c cells slots cc nL own A L D cI cZ cR d)  (hd : decode cc pc = .ok (.imul, 1)) : ∀ ls st M, f_mul C d Q (sY p l e R s m args below meth c cells slots QQ nL A L D cI cZ cR) pc ls st M → (sY p l e R s m args below meth c cells slots QQ nL A L D cI cZ cR) pc ls st M := by
  intro ls st M h H locs lsA hP hS hl
  obtain ⟨hx, hb, hml, hown, hts, hK, hi, hA, hR, hcs, hNw⟩ := F
  unfold f_mul at h
  split at h
  · rename_i y x st
    have k := h H locs lsA hP hS hl
    rw [List.map_cons, show toV L (vI (x * y)) = .int (Int32.ofInt (x * y)) from rfl, Int32.ofInt_mul] at k
    exact lv_imul hx hb hd k
  · exact h.elim
theorem r_iand (F : Fx p R s m args c cells slots cc nL own A L D cI cZ cR d)  (hd : decode cc pc = .ok (.iand, 1)) : ∀ ls st M, f_and C d Q (sY p l e R s m args below meth c cells slots QQ nL A L D cI cZ cR) pc ls st M → (sY p l e R s m args below meth c cells slots QQ nL A L D cI cZ cR) pc ls st M := by
  intro ls st M h H locs lsA hP hS hl
  obtain ⟨hx, hb, hml, hown, hts, hK, hi, hA, hR, hcs, hNw⟩ := F
  unfold f_and at h
  split at h
  · rename_i y x st
    have k := h H locs lsA hP hS hl
    rw [List.map_cons, show toV L (vI (bAnd x y)) = .int (iN (bAnd x y)) from rfl, bAnd_iN] at k
    exact lv_iand hx hb hd k
  · exact h.elim
theorem r_ior (F : Fx p R s m args c cells slots cc nL own A L D cI cZ cR d)  (hd : decode cc pc = .ok (.ior, 1)) : ∀ ls st M, f_or C d Q (sY p l e R s m args below meth c cells slots QQ nL A L D cI cZ cR) pc ls st M → (sY p l e R s m args below meth c cells slots QQ nL A L D cI cZ cR) pc ls st M := by
  intro ls st M h H locs lsA hP hS hl
  obtain ⟨hx, hb, hml, hown, hts, hK, hi, hA, hR, hcs, hNw⟩ := F
  unfold f_or at h
  split at h
  · rename_i y x st
    have k := h H locs lsA hP hS hl
    rw [List.map_cons, show toV L (vI (bOr x y)) = .int (iN (bOr x y)) from rfl, bOr_iN] at k
    exact lv_ior hx hb hd k
  · exact h.elim
theorem r_ixor (F : Fx p R s m args c cells slots cc nL own A L D cI cZ cR d)  (hd : decode cc pc = .ok (.ixor, 1)) : ∀ ls st M, f_xor C d Q (sY p l e R s m args below meth c cells slots QQ nL A L D cI cZ cR) pc ls st M → (sY p l e R s m args below meth c cells slots QQ nL A L D cI cZ cR) pc ls st M := by
  intro ls st M h H locs lsA hP hS hl
  obtain ⟨hx, hb, hml, hown, hts, hK, hi, hA, hR, hcs, hNw⟩ := F
  unfold f_xor at h
  split at h
  · rename_i y x st
    have k := h H locs lsA hP hS hl
    rw [List.map_cons, show toV L (vI (bXor x y)) = .int (iN (bXor x y)) from rfl, bXor_iN] at k
    exact lv_ixor hx hb hd k
  · exact h.elim
theorem r_ineg (F : Fx p R s m args c cells slots cc nL own A L D cI cZ cR d)  (hd : decode cc pc = .ok (.ineg, 1)) : ∀ ls st M, f_neg C d Q (sY p l e R s m args below meth c cells slots QQ nL A L D cI cZ cR) pc ls st M → (sY p l e R s m args below meth c cells slots QQ nL A L D cI cZ cR) pc ls st M := by
  intro ls st M h H locs lsA hP hS hl
  obtain ⟨hx, hb, hml, hown, hts, hK, hi, hA, hR, hcs, hNw⟩ := F
  unfold f_neg at h
  split at h
  · rename_i x st
    have k := h H locs lsA hP hS hl
    rw [List.map_cons, show toV L (vI (-x)) = .int (Int32.ofInt (-x)) from rfl, Int32.ofInt_neg] at k
    exact lv_ineg hx hb hd k
  · exact h.elim
theorem r_ishl (F : Fx p R s m args c cells slots cc nL own A L D cI cZ cR d)  (hd : decode cc pc = .ok (.ishl, 1)) : ∀ ls st M, f_shl C d Q (sY p l e R s m args below meth c cells slots QQ nL A L D cI cZ cR) pc ls st M → (sY p l e R s m args below meth c cells slots QQ nL A L D cI cZ cR) pc ls st M := by
  intro ls st M h H locs lsA hP hS hl
  obtain ⟨hx, hb, hml, hown, hts, hK, hi, hA, hR, hcs, hNw⟩ := F
  unfold f_shl at h
  split at h
  · rename_i y x st
    have k := h.2 H locs lsA hP hS hl
    rw [List.map_cons, show toV L (vI (x * 2 ^ y.toNat)) = .int (iN (x * 2 ^ y.toNat)) from rfl, ← iN_shl h.1] at k
    exact lv_ishl hx hb hd k
  · exact h.elim
theorem r_ishr (F : Fx p R s m args c cells slots cc nL own A L D cI cZ cR d)  (hd : decode cc pc = .ok (.ishr, 1)) : ∀ ls st M, f_shr C d Q (sY p l e R s m args below meth c cells slots QQ nL A L D cI cZ cR) pc ls st M → (sY p l e R s m args below meth c cells slots QQ nL A L D cI cZ cR) pc ls st M := by
  intro ls st M h H locs lsA hP hS hl
  obtain ⟨hx, hb, hml, hown, hts, hK, hi, hA, hR, hcs, hNw⟩ := F
  unfold f_shr at h
  split at h
  · rename_i y x st
    have k := h.2.2 H locs lsA hP hS hl
    rw [List.map_cons, show toV L (vI (x / 2 ^ y.toNat)) = .int (iN (x / 2 ^ y.toNat)) from rfl, ← iN_shr h.1 h.2.1] at k
    exact lv_ishr hx hb hd k
  · exact h.elim
theorem r_iushr (F : Fx p R s m args c cells slots cc nL own A L D cI cZ cR d)  (hd : decode cc pc = .ok (.iushr, 1)) : ∀ ls st M, f_ushr C d Q (sY p l e R s m args below meth c cells slots QQ nL A L D cI cZ cR) pc ls st M → (sY p l e R s m args below meth c cells slots QQ nL A L D cI cZ cR) pc ls st M := by
  intro ls st M h H locs lsA hP hS hl
  obtain ⟨hx, hb, hml, hown, hts, hK, hi, hA, hR, hcs, hNw⟩ := F
  unfold f_ushr at h
  split at h
  · rename_i y x st
    exact lv_iushr hx hb hd (iN_ushr h.1 h.2.1) (h.2.2 H locs lsA hP hS hl)
  · exact h.elim
theorem r_idiv (F : Fx p R s m args c cells slots cc nL own A L D cI cZ cR d)  (hd : decode cc pc = .ok (.idiv, 1)) : ∀ ls st M, f_div C d Q (sY p l e R s m args below meth c cells slots QQ nL A L D cI cZ cR) pc ls st M → (sY p l e R s m args below meth c cells slots QQ nL A L D cI cZ cR) pc ls st M := by
  intro ls st M h H locs lsA hP hS hl
  obtain ⟨hx, hb, hml, hown, hts, hK, hi, hA, hR, hcs, hNw⟩ := F
  unfold f_div at h
  split at h
  · rename_i y x st
    have k := h.2.2 H locs lsA hP hS hl
    rw [List.map_cons, show toV L (vI (x / y)) = .int (iN (x / y)) from rfl, ← iN_div h.1 h.2.1] at k
    refine lv_idiv hx hb hd (fun z => ?_) k
    have := (iN_eq (x := y) (y := 0) ⟨by omega, by omega⟩ iR_0).mp z
    omega
  · exact h.elim
theorem r_ladd (F : Fx p R s m args c cells slots cc nL own A L D cI cZ cR d)  (hd : decode cc pc = .ok (.ladd, 1)) : ∀ ls st M, f_ladd C d Q (sY p l e R s m args below meth c cells slots QQ nL A L D cI cZ cR) pc ls st M → (sY p l e R s m args below meth c cells slots QQ nL A L D cI cZ cR) pc ls st M := by
  intro ls st M h H locs lsA hP hS hl
  obtain ⟨hx, hb, hml, hown, hts, hK, hi, hA, hR, hcs, hNw⟩ := F
  unfold f_ladd at h
  split at h
  · rename_i y x st
    have k := h H locs lsA hP hS hl
    rw [List.map_cons, show toV L (vL (x + y)) = .long (Int64.ofInt (x + y)) from rfl, Int64.ofInt_add] at k
    exact lv_ladd hx hb hd k
  · exact h.elim
theorem r_lsub (F : Fx p R s m args c cells slots cc nL own A L D cI cZ cR d)  (hd : decode cc pc = .ok (.lsub, 1)) : ∀ ls st M, f_lsub C d Q (sY p l e R s m args below meth c cells slots QQ nL A L D cI cZ cR) pc ls st M → (sY p l e R s m args below meth c cells slots QQ nL A L D cI cZ cR) pc ls st M := by
  intro ls st M h H locs lsA hP hS hl
  obtain ⟨hx, hb, hml, hown, hts, hK, hi, hA, hR, hcs, hNw⟩ := F
  unfold f_lsub at h
  split at h
  · rename_i y x st
    have k := h H locs lsA hP hS hl
    rw [List.map_cons, show toV L (vL (x - y)) = .long (Int64.ofInt (x - y)) from rfl, Int64.ofInt_sub] at k
    exact lv_lsub hx hb hd k
  · exact h.elim
theorem r_lmul (F : Fx p R s m args c cells slots cc nL own A L D cI cZ cR d)  (hd : decode cc pc = .ok (.lmul, 1)) : ∀ ls st M, f_lmul C d Q (sY p l e R s m args below meth c cells slots QQ nL A L D cI cZ cR) pc ls st M → (sY p l e R s m args below meth c cells slots QQ nL A L D cI cZ cR) pc ls st M := by
  intro ls st M h H locs lsA hP hS hl
  obtain ⟨hx, hb, hml, hown, hts, hK, hi, hA, hR, hcs, hNw⟩ := F
  unfold f_lmul at h
  split at h
  · rename_i y x st
    have k := h H locs lsA hP hS hl
    rw [List.map_cons, show toV L (vL (x * y)) = .long (Int64.ofInt (x * y)) from rfl, Int64.ofInt_mul] at k
    exact lv_lmul hx hb hd k
  · exact h.elim
theorem r_ldiv (F : Fx p R s m args c cells slots cc nL own A L D cI cZ cR d)  (hd : decode cc pc = .ok (.ldiv, 1)) : ∀ ls st M, f_ldiv C d Q (sY p l e R s m args below meth c cells slots QQ nL A L D cI cZ cR) pc ls st M → (sY p l e R s m args below meth c cells slots QQ nL A L D cI cZ cR) pc ls st M := by
  intro ls st M h H locs lsA hP hS hl
  obtain ⟨hx, hb, hml, hown, hts, hK, hi, hA, hR, hcs, hNw⟩ := F
  unfold f_ldiv at h
  split at h
  · rename_i y x st
    have k := h.2.2 H locs lsA hP hS hl
    rw [List.map_cons, show toV L (vL (x / y)) = .long (lI (x / y)) from rfl, ← lI_div h.1 h.2.1] at k
    refine lv_ldiv hx hb hd (fun z => ?_) k
    have h2 := congrArg Int64.toInt z
    rw [lI_toInt (by unfold lR; omega)] at h2
    have h3 : (0 : Int64).toInt = 0 := rfl
    omega
  · exact h.elim
theorem r_lcmp (F : Fx p R s m args c cells slots cc nL own A L D cI cZ cR d)  (hd : decode cc pc = .ok (.lcmp, 1)) : ∀ ls st M, f_lcmp C d Q (sY p l e R s m args below meth c cells slots QQ nL A L D cI cZ cR) pc ls st M → (sY p l e R s m args below meth c cells slots QQ nL A L D cI cZ cR) pc ls st M := by
  intro ls st M h H locs lsA hP hS hl
  obtain ⟨hx, hb, hml, hown, hts, hK, hi, hA, hR, hcs, hNw⟩ := F
  unfold f_lcmp at h
  split at h
  · rename_i y x st
    have k := h.2.2 H locs lsA hP hS hl
    rw [List.map_cons, show toV L (vI (cmpL x y)) = .int (iN (cmpL x y)) from rfl, ← lI_cmp h.1 h.2.1] at k
    exact W.lcmp hx hb hd k
  · exact h.elim
theorem r_i2l (F : Fx p R s m args c cells slots cc nL own A L D cI cZ cR d)  (hd : decode cc pc = .ok (.i2l, 1)) : ∀ ls st M, f_i2l C d Q (sY p l e R s m args below meth c cells slots QQ nL A L D cI cZ cR) pc ls st M → (sY p l e R s m args below meth c cells slots QQ nL A L D cI cZ cR) pc ls st M := by
  intro ls st M h H locs lsA hP hS hl
  obtain ⟨hx, hb, hml, hown, hts, hK, hi, hA, hR, hcs, hNw⟩ := F
  unfold f_i2l at h
  split at h
  · exact lv_i2l hx hb hd (iN_i2l h.1) (h.2 H locs lsA hP hS hl)
  · exact h.elim
theorem r_dup (F : Fx p R s m args c cells slots cc nL own A L D cI cZ cR d)  (hd : decode cc pc = .ok (.dup, 1)) : ∀ ls st M, f_dup C d Q (sY p l e R s m args below meth c cells slots QQ nL A L D cI cZ cR) pc ls st M → (sY p l e R s m args below meth c cells slots QQ nL A L D cI cZ cR) pc ls st M := by
  intro ls st M h H locs lsA hP hS hl
  obtain ⟨hx, hb, hml, hown, hts, hK, hi, hA, hR, hcs, hNw⟩ := F
  unfold f_dup at h
  split at h
  · exact lv_dup hx hb hd rfl (h H locs lsA hP hS hl)
  · exact h.elim
theorem r_dup2 (F : Fx p R s m args c cells slots cc nL own A L D cI cZ cR d)  (hd : decode cc pc = .ok (.dup2, 1)) : ∀ ls st M, f_dup2 C d Q (sY p l e R s m args below meth c cells slots QQ nL A L D cI cZ cR) pc ls st M → (sY p l e R s m args below meth c cells slots QQ nL A L D cI cZ cR) pc ls st M := by
  intro ls st M h H locs lsA hP hS hl
  obtain ⟨hx, hb, hml, hown, hts, hK, hi, hA, hR, hcs, hNw⟩ := F
  unfold f_dup2 at h
  split at h
  · exact lv_dup2_11 hx hb hd rfl rfl (h H locs lsA hP hS hl)
  · exact h.elim
theorem r_pop (F : Fx p R s m args c cells slots cc nL own A L D cI cZ cR d)  (hd : decode cc pc = .ok (.pop, 1)) : ∀ ls st M, f_pop C d Q (sY p l e R s m args below meth c cells slots QQ nL A L D cI cZ cR) pc ls st M → (sY p l e R s m args below meth c cells slots QQ nL A L D cI cZ cR) pc ls st M := by
  intro ls st M h H locs lsA hP hS hl
  obtain ⟨hx, hb, hml, hown, hts, hK, hi, hA, hR, hcs, hNw⟩ := F
  unfold f_pop at h
  split at h
  · exact lv_pop hx hb hd rfl (h H locs lsA hP hS hl)
  · exact h.elim
theorem r_if_eq (F : Fx p R s m args c cells slots cc nL own A L D cI cZ cR d) {off : Int} {tgt : Nat} (hd : decode cc pc = .ok (.ifCond .eq off, 3)) (ht : (pc : Int) + off = (tgt : Int)) : ∀ ls st M, (f_if0 cEq cNe tgt) C d Q (sY p l e R s m args below meth c cells slots QQ nL A L D cI cZ cR) pc ls st M → (sY p l e R s m args below meth c cells slots QQ nL A L D cI cZ cR) pc ls st M := by
  intro ls st M h H locs lsA hP hS hl
  obtain ⟨hx, hb, hml, hown, hts, hK, hi, hA, hR, hcs, hNw⟩ := F
  unfold f_if0 at h
  split at h
  · rename_i x st
    exact lv_if_eq (tgt := tgt) hx hb hd ht (fun z => h.2.1 ((iN_eq h.1 iR_0).mp z) H locs lsA hP hS hl) (fun z => h.2.2 (fun q => z ((iN_eq h.1 iR_0).mpr q)) H locs lsA hP hS hl)
  · exact h.elim
theorem r_icmp_eq (F : Fx p R s m args c cells slots cc nL own A L D cI cZ cR d) {off : Int} {tgt : Nat} (hd : decode cc pc = .ok (.if_icmp .eq off, 3)) (ht : (pc : Int) + off = (tgt : Int)) : ∀ ls st M, (f_icmp cEq cNe tgt) C d Q (sY p l e R s m args below meth c cells slots QQ nL A L D cI cZ cR) pc ls st M → (sY p l e R s m args below meth c cells slots QQ nL A L D cI cZ cR) pc ls st M := by
  intro ls st M h H locs lsA hP hS hl
  obtain ⟨hx, hb, hml, hown, hts, hK, hi, hA, hR, hcs, hNw⟩ := F
  unfold f_icmp at h
  split at h
  · rename_i y x st
    exact lv_icmp_eq (tgt := tgt) hx hb hd ht (fun z => h.2.2.1 ((iN_eq h.1 h.2.1).mp z) H locs lsA hP hS hl) (fun z => h.2.2.2 (fun q => z ((iN_eq h.1 h.2.1).mpr q)) H locs lsA hP hS hl)
  · exact h.elim
theorem r_if_ne (F : Fx p R s m args c cells slots cc nL own A L D cI cZ cR d) {off : Int} {tgt : Nat} (hd : decode cc pc = .ok (.ifCond .ne off, 3)) (ht : (pc : Int) + off = (tgt : Int)) : ∀ ls st M, (f_if0 cNe cEq tgt) C d Q (sY p l e R s m args below meth c cells slots QQ nL A L D cI cZ cR) pc ls st M → (sY p l e R s m args below meth c cells slots QQ nL A L D cI cZ cR) pc ls st M := by
  intro ls st M h H locs lsA hP hS hl
  obtain ⟨hx, hb, hml, hown, hts, hK, hi, hA, hR, hcs, hNw⟩ := F
  unfold f_if0 at h
  split at h
  · rename_i x st
    exact lv_if_ne (tgt := tgt) hx hb hd ht (fun z => h.2.1 (fun q => z ((iN_eq h.1 iR_0).mpr q)) H locs lsA hP hS hl) (fun z => h.2.2 ((iN_eq h.1 iR_0).mp z) H locs lsA hP hS hl)
  · exact h.elim
theorem r_icmp_ne (F : Fx p R s m args c cells slots cc nL own A L D cI cZ cR d) {off : Int} {tgt : Nat} (hd : decode cc pc = .ok (.if_icmp .ne off, 3)) (ht : (pc : Int) + off = (tgt : Int)) : ∀ ls st M, (f_icmp cNe cEq tgt) C d Q (sY p l e R s m args below meth c cells slots QQ nL A L D cI cZ cR) pc ls st M → (sY p l e R s m args below meth c cells slots QQ nL A L D cI cZ cR) pc ls st M := by
  intro ls st M h H locs lsA hP hS hl
  obtain ⟨hx, hb, hml, hown, hts, hK, hi, hA, hR, hcs, hNw⟩ := F
  unfold f_icmp at h
  split at h
  · rename_i y x st
    exact lv_icmp_ne (tgt := tgt) hx hb hd ht (fun z => h.2.2.1 (fun q => z ((iN_eq h.1 h.2.1).mpr q)) H locs lsA hP hS hl) (fun z => h.2.2.2 ((iN_eq h.1 h.2.1).mp z) H locs lsA hP hS hl)
  · exact h.elim
theorem r_if_lt (F : Fx p R s m args c cells slots cc nL own A L D cI cZ cR d) {off : Int} {tgt : Nat} (hd : decode cc pc = .ok (.ifCond .lt off, 3)) (ht : (pc : Int) + off = (tgt : Int)) : ∀ ls st M, (f_if0 cLt cGe tgt) C d Q (sY p l e R s m args below meth c cells slots QQ nL A L D cI cZ cR) pc ls st M → (sY p l e R s m args below meth c cells slots QQ nL A L D cI cZ cR) pc ls st M := by
  intro ls st M h H locs lsA hP hS hl
  obtain ⟨hx, hb, hml, hown, hts, hK, hi, hA, hR, hcs, hNw⟩ := F
  unfold f_if0 at h
  split at h
  · rename_i x st
    exact lv_if_lt (tgt := tgt) hx hb hd ht (fun z => h.2.1 ((iN_lt h.1 iR_0).mp z) H locs lsA hP hS hl) (fun z => h.2.2 (Int.not_lt.mp (fun q => z ((iN_lt h.1 iR_0).mpr q))) H locs lsA hP hS hl)
  · exact h.elim
theorem r_icmp_lt (F : Fx p R s m args c cells slots cc nL own A L D cI cZ cR d) {off : Int} {tgt : Nat} (hd : decode cc pc = .ok (.if_icmp .lt off, 3)) (ht : (pc : Int) + off = (tgt : Int)) : ∀ ls st M, (f_icmp cLt cGe tgt) C d Q (sY p l e R s m args below meth c cells slots QQ nL A L D cI cZ cR) pc ls st M → (sY p l e R s m args below meth c cells slots QQ nL A L D cI cZ cR) pc ls st M := by
  intro ls st M h H locs lsA hP hS hl
  obtain ⟨hx, hb, hml, hown, hts, hK, hi, hA, hR, hcs, hNw⟩ := F
  unfold f_icmp at h
  split at h
  · rename_i y x st
    exact lv_icmp_lt (tgt := tgt) hx hb hd ht (fun z => h.2.2.1 ((iN_lt h.1 h.2.1).mp z) H locs lsA hP hS hl) (fun z => h.2.2.2 (Int.not_lt.mp (fun q => z ((iN_lt h.1 h.2.1).mpr q))) H locs lsA hP hS hl)
  · exact h.elim
theorem r_if_ge (F : Fx p R s m args c cells slots cc nL own A L D cI cZ cR d) {off : Int} {tgt : Nat} (hd : decode cc pc = .ok (.ifCond .ge off, 3)) (ht : (pc : Int) + off = (tgt : Int)) : ∀ ls st M, (f_if0 cGe cLt tgt) C d Q (sY p l e R s m args below meth c cells slots QQ nL A L D cI cZ cR) pc ls st M → (sY p l e R s m args below meth c cells slots QQ nL A L D cI cZ cR) pc ls st M := by
  intro ls st M h H locs lsA hP hS hl
  obtain ⟨hx, hb, hml, hown, hts, hK, hi, hA, hR, hcs, hNw⟩ := F
  unfold f_if0 at h
  split at h
  · rename_i x st
    exact lv_if_ge (tgt := tgt) hx hb hd ht (fun z => h.2.1 ((iN_le iR_0 h.1).mp z) H locs lsA hP hS hl) (fun z => h.2.2 (Int.not_le.mp (fun q => z ((iN_le iR_0 h.1).mpr q))) H locs lsA hP hS hl)
  · exact h.elim
theorem r_icmp_ge (F : Fx p R s m args c cells slots cc nL own A L D cI cZ cR d) {off : Int} {tgt : Nat} (hd : decode cc pc = .ok (.if_icmp .ge off, 3)) (ht : (pc : Int) + off = (tgt : Int)) : ∀ ls st M, (f_icmp cGe cLt tgt) C d Q (sY p l e R s m args below meth c cells slots QQ nL A L D cI cZ cR) pc ls st M → (sY p l e R s m args below meth c cells slots QQ nL A L D cI cZ cR) pc ls st M := by
  intro ls st M h H locs lsA hP hS hl
  obtain ⟨hx, hb, hml, hown, hts, hK, hi, hA, hR, hcs, hNw⟩ := F
  unfold f_icmp at h
  split at h
  · rename_i y x st
    exact lv_icmp_ge (tgt := tgt) hx hb hd ht (fun z => h.2.2.1 ((iN_le h.2.1 h.1).mp z) H locs lsA hP hS hl) (fun z => h.2.2.2 (Int.not_le.mp (fun q => z ((iN_le h.2.1 h.1).mpr q))) H locs lsA hP hS hl)
  · exact h.elim
theorem r_if_gt (F : Fx p R s m args c cells slots cc nL own A L D cI cZ cR d) {off : Int} {tgt : Nat} (hd : decode cc pc = .ok (.ifCond .gt off, 3)) (ht : (pc : Int) + off = (tgt : Int)) : ∀ ls st M, (f_if0 cGt cLe tgt) C d Q (sY p l e R s m args below meth c cells slots QQ nL A L D cI cZ cR) pc ls st M → (sY p l e R s m args below meth c cells slots QQ nL A L D cI cZ cR) pc ls st M := by
  intro ls st M h H locs lsA hP hS hl
  obtain ⟨hx, hb, hml, hown, hts, hK, hi, hA, hR, hcs, hNw⟩ := F
  unfold f_if0 at h
  split at h
  · rename_i x st
    exact lv_if_gt (tgt := tgt) hx hb hd ht (fun z => h.2.1 ((iN_lt iR_0 h.1).mp z) H locs lsA hP hS hl) (fun z => h.2.2 (Int.not_lt.mp (fun q => z ((iN_lt iR_0 h.1).mpr q))) H locs lsA hP hS hl)
  · exact h.elim
theorem r_icmp_gt (F : Fx p R s m args c cells slots cc nL own A L D cI cZ cR d) {off : Int} {tgt : Nat} (hd : decode cc pc = .ok (.if_icmp .gt off, 3)) (ht : (pc : Int) + off = (tgt : Int)) : ∀ ls st M, (f_icmp cGt cLe tgt) C d Q (sY p l e R s m args below meth c cells slots QQ nL A L D cI cZ cR) pc ls st M → (sY p l e R s m args below meth c cells slots QQ nL A L D cI cZ cR) pc ls st M := by
  intro ls st M h H locs lsA hP hS hl
  obtain ⟨hx, hb, hml, hown, hts, hK, hi, hA, hR, hcs, hNw⟩ := F
  unfold f_icmp at h
  split at h
  · rename_i y x st
    exact lv_icmp_gt (tgt := tgt) hx hb hd ht (fun z => h.2.2.1 ((iN_lt h.2.1 h.1).mp z) H locs lsA hP hS hl) (fun z => h.2.2.2 (Int.not_lt.mp (fun q => z ((iN_lt h.2.1 h.1).mpr q))) H locs lsA hP hS hl)
  · exact h.elim
theorem r_if_le (F : Fx p R s m args c cells slots cc nL own A L D cI cZ cR d) {off : Int} {tgt : Nat} (hd : decode cc pc = .ok (.ifCond .le off, 3)) (ht : (pc : Int) + off = (tgt : Int)) : ∀ ls st M, (f_if0 cLe cGt tgt) C d Q (sY p l e R s m args below meth c cells slots QQ nL A L D cI cZ cR) pc ls st M → (sY p l e R s m args below meth c cells slots QQ nL A L D cI cZ cR) pc ls st M := by
  intro ls st M h H locs lsA hP hS hl
  obtain ⟨hx, hb, hml, hown, hts, hK, hi, hA, hR, hcs, hNw⟩ := F
  unfold f_if0 at h
  split at h
  · rename_i x st
    exact lv_if_le (tgt := tgt) hx hb hd ht (fun z => h.2.1 ((iN_le h.1 iR_0).mp z) H locs lsA hP hS hl) (fun z => h.2.2 (Int.not_le.mp (fun q => z ((iN_le h.1 iR_0).mpr q))) H locs lsA hP hS hl)
  · exact h.elim
theorem r_icmp_le (F : Fx p R s m args c cells slots cc nL own A L D cI cZ cR d) {off : Int} {tgt : Nat} (hd : decode cc pc = .ok (.if_icmp .le off, 3)) (ht : (pc : Int) + off = (tgt : Int)) : ∀ ls st M, (f_icmp cLe cGt tgt) C d Q (sY p l e R s m args below meth c cells slots QQ nL A L D cI cZ cR) pc ls st M → (sY p l e R s m args below meth c cells slots QQ nL A L D cI cZ cR) pc ls st M := by
  intro ls st M h H locs lsA hP hS hl
  obtain ⟨hx, hb, hml, hown, hts, hK, hi, hA, hR, hcs, hNw⟩ := F
  unfold f_icmp at h
  split at h
  · rename_i y x st
    exact lv_icmp_le (tgt := tgt) hx hb hd ht (fun z => h.2.2.1 ((iN_le h.1 h.2.1).mp z) H locs lsA hP hS hl) (fun z => h.2.2.2 (Int.not_le.mp (fun q => z ((iN_le h.1 h.2.1).mpr q))) H locs lsA hP hS hl)
  · exact h.elim
theorem r_goto (F : Fx p R s m args c cells slots cc nL own A L D cI cZ cR d) {off : Int} {tgt : Nat} (hd : decode cc pc = .ok (.goto off, 3)) (ht : (pc : Int) + off = (tgt : Int)) : ∀ ls st M, (f_goto tgt) C d Q (sY p l e R s m args below meth c cells slots QQ nL A L D cI cZ cR) pc ls st M → (sY p l e R s m args below meth c cells slots QQ nL A L D cI cZ cR) pc ls st M := by
  intro ls st M h H locs lsA hP hS hl
  obtain ⟨hx, hb, hml, hown, hts, hK, hi, hA, hR, hcs, hNw⟩ := F
  exact lv_goto (tgt := tgt) hx hb hd ht (h H locs lsA hP hS hl)
theorem r_getI (F : Fx p R s m args c cells slots cc nL own A L D cI cZ cR d) {ci k idx N : Nat} {CN : String} {TT : u_T} (hd : decode cc pc = .ok (.getfield idx, 3)) (hc : vwCl[ci]? = some (CN, TT, N)) (hin : ∀ w ∈ u_ws CN TT N, w ∈ TB) (hk : k < N) (hw : Cond.fieldLink own idx (TT k).1 (TT k).2.1 (TT k).2.2.1 ∈ TB) (h9 : ci ≠ 9) (hv : ∀ (L : Nat → Nat) (i : Nat) (f : Nat → Int), (flds L ci i f)[k]? = some (.int (iN (f k)))) : ∀ ls st M, (f_getI ci k) C d Q (sY p l e R s m args below meth c cells slots QQ nL A L D cI cZ cR) pc ls st M → (sY p l e R s m args below meth c cells slots QQ nL A L D cI cZ cR) pc ls st M := by
  intro ls st M h H locs lsA hP hS hl
  obtain ⟨hx, hb, hml, hown, hts, hK, hi, hA, hR, hcs, hNw⟩ := F
  unfold f_getI at h
  split at h
  · rename_i i st
    have hlt := clsOf_lt h.1 h9
    have hat := wW.at (L := L) (cI := cI) (cZ := cZ) (cR := cR) (M := M) hlt
    rw [clsOf_cE h.1 h9] at hat
    exact va_get (D := D) hx hb hts hin hown hK hP i hat hc k hk (hts _ hw) (fun _ z => z) (hv L i (M i)) hd (h.2 H locs lsA hP hS hl)
  · exact h.elim
theorem r_getR (F : Fx p R s m args c cells slots cc nL own A L D cI cZ cR d) {ci k idx N : Nat} {CN : String} {TT : u_T} {tg : Nat → Nat} (hd : decode cc pc = .ok (.getfield idx, 3)) (hc : vwCl[ci]? = some (CN, TT, N)) (hin : ∀ w ∈ u_ws CN TT N, w ∈ TB) (hk : k < N) (hw : Cond.fieldLink own idx (TT k).1 (TT k).2.1 (TT k).2.2.1 ∈ TB) (h9 : ci ≠ 9) (hv : ∀ (L : Nat → Nat) (i : Nat) (f : Nat → Int), (flds L ci i f)[k]? = some (.ref (L (tg i)))) : ∀ ls st M, (f_getR ci k tg) C d Q (sY p l e R s m args below meth c cells slots QQ nL A L D cI cZ cR) pc ls st M → (sY p l e R s m args below meth c cells slots QQ nL A L D cI cZ cR) pc ls st M := by
  intro ls st M h H locs lsA hP hS hl
  obtain ⟨hx, hb, hml, hown, hts, hK, hi, hA, hR, hcs, hNw⟩ := F
  unfold f_getR at h
  split at h
  · rename_i i st
    have hlt := clsOf_lt h.1 h9
    have hat := wW.at (L := L) (cI := cI) (cZ := cZ) (cR := cR) (M := M) hlt
    rw [clsOf_cE h.1 h9] at hat
    exact va_get (D := D) hx hb hts hin hown hK hP i hat hc k hk (hts _ hw) (fun _ z => z) (hv L i (M i)) hd (h.2 H locs lsA hP hS hl)
  · exact h.elim
theorem r_putI (F : Fx p R s m args c cells slots cc nL own A L D cI cZ cR d) {ci k idx N : Nat} {CN : String} {TT : u_T} {ty0 : Nat → FieldType} (hd : decode cc pc = .ok (.putfield idx, 3)) (hc : vwCl[ci]? = some (CN, TT, N)) (hin : ∀ w ∈ u_ws CN TT N, w ∈ TB) (hk : k < N) (hw : Cond.fieldLink own idx (TT k).1 (TT k).2.1 (TT k).2.2.1 ∈ TB) (h9 : ci ≠ 9) (hty : ∀ k, k < N → parseFieldDescriptor (TT k).2.2.1 = some (ty0 k)) (hnm : ∀ a, a < N → ∀ b, b < N → a ≠ b → (TT a).2.1 ≠ (TT b).2.1) (hfin : (TT k).2.2.2 = false) (hd2 : parseFieldDescriptor (TT k).2.2.1 = some .int) (hl2 : ∀ (L : Nat → Nat) (i : Nat) (f : Nat → Int), k < (flds L ci i f).length) (hs : ∀ (L : Nat → Nat) (i : Nat) (f : Nat → Int) (x : Int), (flds L ci i f).set k (.int (iN x)) = flds L ci i (fun b => if b = k then x else f b)) : ∀ ls st M, (f_putI ci k) C d Q (sY p l e R s m args below meth c cells slots QQ nL A L D cI cZ cR) pc ls st M → (sY p l e R s m args below meth c cells slots QQ nL A L D cI cZ cR) pc ls st M := by
  intro ls st M h H locs lsA hP hS hl
  obtain ⟨hx, hb, hml, hown, hts, hK, hi, hA, hR, hcs, hNw⟩ := F
  unfold f_putI at h
  split at h
  · rename_i x i st
    have hlt := clsOf_lt h.1 h9
    have hat := wW.at (L := L) (cI := cI) (cZ := cZ) (cR := cR) (M := M) hlt
    rw [clsOf_cE h.1 h9] at hat
    refine va_put (D := D) hx hb hts hin ty0 hty hnm hown hK hP (wW.D hi hA) hS i hat hc k hk (hts _ hw) (fun _ z => z) hfin (ty := .int) (v := .int (iN x)) hd2 rfl rfl (hl2 _ _ _) hd (fun H1 locs1 hP1 _ hS1 => h.2 H1 locs1 lsA ?_ hS1 hl)
    rw [← wW.set hlt (M := M) (fun a ha => upM_o ha), clsOf_cE h.1 h9]
    have e2 : upM M i k x i = fun b => if b = k then x else M i b := by funext b; exact upM_i
    rw [e2, ← hs]
    exact hP1
  · exact h.elim
theorem r_putZ (F : Fx p R s m args c cells slots cc nL own A L D cI cZ cR d) {ci k idx N : Nat} {CN : String} {TT : u_T} {ty0 : Nat → FieldType} (hd : decode cc pc = .ok (.putfield idx, 3)) (hc : vwCl[ci]? = some (CN, TT, N)) (hin : ∀ w ∈ u_ws CN TT N, w ∈ TB) (hk : k < N) (hw : Cond.fieldLink own idx (TT k).1 (TT k).2.1 (TT k).2.2.1 ∈ TB) (h9 : ci ≠ 9) (hty : ∀ k, k < N → parseFieldDescriptor (TT k).2.2.1 = some (ty0 k)) (hnm : ∀ a, a < N → ∀ b, b < N → a ≠ b → (TT a).2.1 ≠ (TT b).2.1) (hfin : (TT k).2.2.2 = false) (hd2 : parseFieldDescriptor (TT k).2.2.1 = some .boolean) (hl2 : ∀ (L : Nat → Nat) (i : Nat) (f : Nat → Int), k < (flds L ci i f).length) (hs : ∀ (L : Nat → Nat) (i : Nat) (f : Nat → Int) (x : Int), (flds L ci i f).set k (.int (iN x)) = flds L ci i (fun b => if b = k then x else f b)) : ∀ ls st M, (f_putZ ci k) C d Q (sY p l e R s m args below meth c cells slots QQ nL A L D cI cZ cR) pc ls st M → (sY p l e R s m args below meth c cells slots QQ nL A L D cI cZ cR) pc ls st M := by
  intro ls st M h H locs lsA hP hS hl
  obtain ⟨hx, hb, hml, hown, hts, hK, hi, hA, hR, hcs, hNw⟩ := F
  unfold f_putZ at h
  split at h
  · rename_i x i st
    have hlt := clsOf_lt h.1 h9
    have hat := wW.at (L := L) (cI := cI) (cZ := cZ) (cR := cR) (M := M) hlt
    rw [clsOf_cE h.1 h9] at hat
    refine va_put (D := D) hx hb hts hin ty0 hty hnm hown hK hP (wW.D hi hA) hS i hat hc k hk (hts _ hw) (fun _ z => z) hfin (ty := .boolean) (v := .int (iN x)) hd2 (nar_z h.2.1) (fit_z h.2.1) (hl2 _ _ _) hd (fun H1 locs1 hP1 _ hS1 => h.2.2 H1 locs1 lsA ?_ hS1 hl)
    rw [← wW.set hlt (M := M) (fun a ha => upM_o ha), clsOf_cE h.1 h9]
    have e2 : upM M i k x i = fun b => if b = k then x else M i b := by funext b; exact upM_i
    rw [e2, ← hs]
    exact hP1
  · exact h.elim
theorem r_iald (F : Fx p R s m args c cells slots cc nL own A L D cI cZ cR d)  (hd : decode cc pc = .ok (.iaload, 1)) : ∀ ls st M, f_iald C d Q (sY p l e R s m args below meth c cells slots QQ nL A L D cI cZ cR) pc ls st M → (sY p l e R s m args below meth c cells slots QQ nL A L D cI cZ cR) pc ls st M := by
  intro ls st M h H locs lsA hP hS hl
  obtain ⟨hx, hb, hml, hown, hts, hK, hi, hA, hR, hcs, hNw⟩ := F
  unfold f_iald at h
  split at h
  · rename_i x i st
    obtain ⟨⟨h0, h1⟩, k⟩ := h
    have hp : 0 < alen i := by omega
    obtain ⟨hlt, -, -, -, h8⟩ := alen_ok hp
    have hat := wW.at (L := L) (cI := cI) (cZ := cZ) (cR := cR) (M := M) hlt
    rw [alen_cE hp] at hat
    obtain ⟨hin, hc⟩ := iN_in (n := (alen i).toNat) h0 (by omega) (by omega)
    refine va_iald (D := D) hx hb hK hP i 0 hat rfl hin hd ?_
    rw [hc]
    exact k H locs lsA hP hS hl
  · exact h.elim
theorem r_iast (F : Fx p R s m args c cells slots cc nL own A L D cI cZ cR d)  (hd : decode cc pc = .ok (.iastore, 1)) : ∀ ls st M, f_iast C d Q (sY p l e R s m args below meth c cells slots QQ nL A L D cI cZ cR) pc ls st M → (sY p l e R s m args below meth c cells slots QQ nL A L D cI cZ cR) pc ls st M := by
  intro ls st M h H locs lsA hP hS hl
  obtain ⟨hx, hb, hml, hown, hts, hK, hi, hA, hR, hcs, hNw⟩ := F
  unfold f_iast at h
  split at h
  · rename_i v x i st
    obtain ⟨⟨h0, h1⟩, k⟩ := h
    have hp : 0 < alen i := by omega
    obtain ⟨hlt, -, -, -, h8⟩ := alen_ok hp
    have hat := wW.at (L := L) (cI := cI) (cZ := cZ) (cR := cR) (M := M) hlt
    rw [alen_cE hp] at hat
    obtain ⟨hin, hc⟩ := iN_in (n := (alen i).toNat) h0 (by omega) (by omega)
    refine va_iast (D := D) hx hb hK hP (wW.D hi hA) hS i 0 hat rfl hin hd (fun H1 locs1 hP1 _ hS1 => k H1 locs1 lsA ?_ hS1 hl)
    rw [← wW.set hlt (M := M) (fun a ha => upM_o ha), alen_cE hp]
    rw [hc] at hP1
    have e2 : (fun j => iN (upM M i x.toNat v i j)) = upd (fun j => iN (M i j)) x.toNat (iN v) := by
      funext b
      rw [upM_i]
      unfold upd
      split <;> rfl
    rw [e2]
    exact hP1
  · exact h.elim
theorem r_zald (F : Fx p R s m args c cells slots cc nL own A L D cI cZ cR d)  (hd : decode cc pc = .ok (.baload, 1)) : ∀ ls st M, f_zald C d Q (sY p l e R s m args below meth c cells slots QQ nL A L D cI cZ cR) pc ls st M → (sY p l e R s m args below meth c cells slots QQ nL A L D cI cZ cR) pc ls st M := by
  intro ls st M h H locs lsA hP hS hl
  obtain ⟨hx, hb, hml, hown, hts, hK, hi, hA, hR, hcs, hNw⟩ := F
  unfold f_zald at h
  split at h
  · rename_i x i st
    obtain ⟨rfl, ⟨h0, h1⟩, k⟩ := h
    have hat := wW.at (L := L) (cI := cI) (cZ := cZ) (cR := cR) (M := M) (i := 89) (by decide)
    obtain ⟨hin, hc⟩ := iN_in (n := 24) h0 (by omega) (by omega)
    refine va_zald (D := D) hx hb hK hP 89 1 hat rfl hin hd ?_
    rw [hc]
    exact k H locs lsA hP hS hl
  · exact h.elim
theorem r_zast (F : Fx p R s m args c cells slots cc nL own A L D cI cZ cR d)  (hd : decode cc pc = .ok (.bastore, 1)) : ∀ ls st M, f_zast C d Q (sY p l e R s m args below meth c cells slots QQ nL A L D cI cZ cR) pc ls st M → (sY p l e R s m args below meth c cells slots QQ nL A L D cI cZ cR) pc ls st M := by
  intro ls st M h H locs lsA hP hS hl
  obtain ⟨hx, hb, hml, hown, hts, hK, hi, hA, hR, hcs, hNw⟩ := F
  unfold f_zast at h
  split at h
  · rename_i v x i st
    obtain ⟨rfl, ⟨h0, h1⟩, hv, k⟩ := h
    have hat := wW.at (L := L) (cI := cI) (cZ := cZ) (cR := cR) (M := M) (i := 89) (by decide)
    obtain ⟨hin, hc⟩ := iN_in (n := 24) h0 (by omega) (by omega)
    refine va_zast (D := D) hx hb hK hP (wW.D hi hA) hS 89 1 hat rfl hin hd (fun H1 locs1 hP1 _ hS1 => k H1 locs1 lsA ?_ hS1 hl)
    rw [← wW.set (i := 89) (by decide) (M := M) (fun a ha => upM_o ha)]
    rw [hc, nar_zz hv] at hP1
    have e2 : (fun j => iN (upM M 89 x.toNat v 89 j)) = upd (fun j => iN (M 89 j)) x.toNat (iN v) := by
      funext b
      rw [upM_i]
      unfold upd
      split <;> rfl
    have e3 : cE L cI cZ cR 89 (upM M 89 x.toNat v 89) = .inl (cZ, 24, .inl (fun j => iN (upM M 89 x.toNat v 89 j))) := rfl
    rw [e3, e2]
    exact hP1
  · exact h.elim
theorem r_aald (F : Fx p R s m args c cells slots cc nL own A L D cI cZ cR d)  (hd : decode cc pc = .ok (.aaload, 1)) : ∀ ls st M, f_aald C d Q (sY p l e R s m args below meth c cells slots QQ nL A L D cI cZ cR) pc ls st M → (sY p l e R s m args below meth c cells slots QQ nL A L D cI cZ cR) pc ls st M := by
  intro ls st M h H locs lsA hP hS hl
  obtain ⟨hx, hb, hml, hown, hts, hK, hi, hA, hR, hcs, hNw⟩ := F
  unfold f_aald at h
  split at h
  · rename_i x i st
    obtain ⟨rfl, ⟨h0, h1⟩, k⟩ := h
    have hat := wW.at (L := L) (cI := cI) (cZ := cZ) (cR := cR) (M := M) (i := 12) (by decide)
    obtain ⟨hin, hc⟩ := iN_in (n := 24) h0 (by omega) (by omega)
    refine va_aldq (D := D) hx hb hK hP 12 2 hat rfl hin hd ?_
    rw [hc]
    exact k H locs lsA hP hS hl
  · exact h.elim
theorem r_tsw (F : Fx p R s m args c cells slots cc nL own A L D cI cZ cR d) {lo hh dflt : Int} {offs : Array Int} {len : Nat} {ts : List Nat} {td : Nat} (hd : decode cc pc = .ok (.tableswitch dflt lo hh offs, len)) (htd : (pc : Int) + dflt = (td : Int)) (hts2 : offs.toList.map (fun o => (pc : Int) + o) = ts.map (fun t : Nat => (t : Int))) (hlen : lo + (ts.length : Int) = hh + 1) : ∀ ls st M, (f_tsw lo hh ts td) C d Q (sY p l e R s m args below meth c cells slots QQ nL A L D cI cZ cR) pc ls st M → (sY p l e R s m args below meth c cells slots QQ nL A L D cI cZ cR) pc ls st M := by
  intro ls st M h H locs lsA hP hS hl
  obtain ⟨hx, hb, hml, hown, hts, hK, hi, hA, hR, hcs, hNw⟩ := F
  unfold f_tsw at h
  split at h
  · rename_i x st
    obtain ⟨hr, h1, h2⟩ := h
    by_cases q : x < lo ∨ hh < x
    · exact lv_tableOut hx hb hd (by rw [iN_toInt hr]; exact q) htd (h1 q H locs lsA hP hS hl)
    · have q1 : ¬ x < lo := fun z => q (Or.inl z)
      have q2 : ¬ hh < x := fun z => q (Or.inr z)
      obtain ⟨t, ht, hy⟩ := swL.get h2 (x - lo).toNat (by omega) (by omega)
      have h3 : (offs.toList.map (fun o => (pc : Int) + o))[(x - lo).toNat]? = some (t : Int) := by rw [hts2, List.getElem?_map, ht]; rfl
      rw [List.getElem?_map] at h3
      cases ho : offs.toList[(x - lo).toNat]? with
      | none => rw [ho] at h3; cases h3
      | some o =>
        rw [ho] at h3
        exact lv_tableIn (off := o) (tgt := t) hx hb hd (by rw [iN_toInt hr]; exact q1) (by rw [iN_toInt hr]; exact q2) (by rw [iN_toInt hr, ← Array.getElem?_toList]; exact ho) (Option.some.inj h3) (hy H locs lsA hP hS hl)
  · exact h.elim
end RR

/-! MAKING: worlds that grow; a known list X of cells ahead, the rest Z behind -/
abbrev PD (D : va_G) (A : Nat → Prop) (ws : va_W) (H : Heap) : Prop := va_P D vwCl ws H ∧ va_D A ws
theorem va_D.pw {A : Nat → Prop} {ws : va_W} : va_D A ws ↔ ws.Pairwise (fun x y => x.1 ≠ y.1) ∧ ∀ q ∈ ws, A q.1 := by
  constructor
  · intro h
    refine ⟨List.pairwise_iff_getElem.mpr (fun i j hi hj hij hne => ?_), fun q hq => ?_⟩
    · have := h.1 i j _ _ (List.getElem?_eq_getElem hi) (List.getElem?_eq_getElem hj) hne
      omega
    · obtain ⟨k, hk⟩ := List.getElem?_of_mem hq
      exact h.2 k q hk
  · intro h
    refine ⟨fun i j p q hi hj e => ?_, fun k q hk => h.2 q (List.mem_of_getElem? hk)⟩
    obtain ⟨hi1, hi2⟩ := List.getElem?_eq_some_iff.mp hi
    obtain ⟨hj1, hj2⟩ := List.getElem?_eq_some_iff.mp hj
    have hp := List.pairwise_iff_getElem.mp h.1
    rcases Nat.lt_trichotomy i j with z | z | z
    · exact absurd (by rw [hi2, hj2]; exact e) (hp i j hi1 hj1 z)
    · exact z
    · exact absurd (by rw [hi2, hj2]; exact e.symm) (hp j i hj1 hi1 z)
theorem PD.perm {D : va_G} {A : Nat → Prop} {w1 w2 : va_W} {H : Heap} (h : PD D A w1 H) (hp : w1.Perm w2) : PD D A w2 H := by
  refine ⟨fun k q hk => ?_, va_D.pw.mpr ?_⟩
  · obtain ⟨j, hj⟩ := List.getElem?_of_mem (hp.mem_iff.mpr (List.mem_of_getElem? hk))
    exact h.1 j q hj
  · obtain ⟨h1, h2⟩ := va_D.pw.mp h.2
    exact ⟨(List.Perm.pairwise_iff (fun z => Ne.symm z) hp).mp h1, fun q hq => h2 q (hp.mem_iff.mpr hq)⟩
theorem PD.swap {D : va_G} {A : Nat → Prop} (X Y Z : va_W) {H : Heap} (h : PD D A (X ++ (Y ++ Z)) H) : PD D A (Y ++ (X ++ Z)) H := h.perm (List.perm_append_comm_assoc X Y Z)
theorem PD.pull {D : va_G} {A : Nat → Prop} {X Z : va_W} {x : Nat × va_E} {H : Heap} (h : PD D A ((X ++ Z) ++ [x]) H) : PD D A (X ++ ([x] ++ Z)) H := by
  rw [List.append_assoc] at h
  exact h.perm (List.Perm.append_left X List.perm_append_comm)
theorem arr_one {cA cB : ClassId} {ty : FieldType} {D : va_G} {cl : List vw_C} {tys : List (ClassId × FieldType)} {U : State} {i j : Nat} (h : va_K D cl tys U) (hi : tys[i]? = some (cA, ty)) (hj : tys[j]? = some (cB, ty)) : cA = cB := by
  have h1 := (h.2 i _ hi).2
  have h2 := (h.2 j _ hj).2
  unfold va_RA at h1 h2
  cases ty with
  | object C =>
    obtain ⟨-, -, -, -, -, a⟩ := h1
    obtain ⟨-, -, -, -, -, b⟩ := h2
    exact Option.some.inj (a.symm.trans b)
  | _ => exact Option.some.inj (h1.symm.trans h2)
def Gx (p : Program) (s : State) (m : MethodId) (args : Array Value) (c : Code) (cc : ByteArray) (nL : Nat) (own : String) (A : Nat → Prop) (D : va_G) (cI cZ cR : ClassId) : Prop :=
  p.tables.exec = Jvm.exec ∧ c.code = cc ∧ c.maxLocals = nL ∧ s.vm.findClass own = some m.cls ∧ (∀ w ∈ TB, w.before args s = true) ∧ va_K D vwCl (tyL cI cZ cR) s ∧ (∀ q, s.heap.size ≤ q → A q) ∧ va_AO RX4 s
section GG
variable {p : Program} {l : Launch} {e : Env} {R : Room} {s : State} {m : MethodId} {args : Array Value} {below : List Frame} {meth : Method} {c : Code} {cells slots : Nat} {Q : State → Prop} {cc : ByteArray} {nL : Nat} {own : String} {A : Nat → Prop} {D : va_G} {cI cZ cR : ClassId} {H : Heap} {locs : List Loc} {pc : Nat} {ls : Array Slot} {rest : List Value} {X Z : va_W}
theorem g_new (G : Gx p s m args c cc nL own A D cI cZ cR) (hPD : PD D A (X ++ Z) H) (hS : va_S A s.heap H locs) {ci N idx : Nat} {CN : String} {T : u_T} {ty : Nat → FieldType} (fs : List Value) (hin : ∀ w ∈ u_ws CN T N, w ∈ TB) (hty : ∀ k, k < N → parseFieldDescriptor (T k).2.2.1 = some (ty k)) (hc : vwCl[ci]? = some (CN, T, N)) (w1 : Cond.classLink own idx CN ∈ TB) (w2 : Cond.instantiable CN N ∈ TB) (w3 : Cond.initialized CN ∈ TB) (hfs : ∀ j, j < N → defaultValue (ty j) = vp_V fs j) (hcells : cells + 1 ≤ R.cells) (hslots : slots + N ≤ R.slots) (hd : decode cc pc = .ok (.new idx, 3))
    (kk : ∀ (q : Nat) (H1 : Heap), PD D A (X ++ ([(q, .inr (ci, fs))] ++ Z)) H1 → va_S A s.heap H1 locs → W p l e R s m args below meth c H1 locs (cells + 1) (slots + N) Q (F0 m (pc + 3) ls (.ref q :: rest))) : W p l e R s m args below meth c H locs cells slots Q (F0 m pc ls rest) := by
  obtain ⟨hx, hb, hml, hown, hts, hK, hA, hAO⟩ := G
  exact va_new hx hb hts hin ty hty hown (hts _ w1) (hts _ w2) (hts _ w3) hK hPD.1 hPD.2 hS hA hc hfs hcells hslots hd (fun q H1 hP1 hD1 hS1 => kk q H1 (PD.pull ⟨hP1, hD1⟩) hS1)
theorem g_newI (G : Gx p s m args c cc nL own A D cI cZ cR) (hPD : PD D A (X ++ Z) H) (hS : va_S A s.heap H locs) (w1 : Cond.arrayClass .int ∈ TB) {n : Int32} (N : Nat) (hn : ¬ n < 0) (hN : n.toNatClampNeg = N) (hbytes : N * componentBytes .int ≤ 536870912) (hcells : cells + 1 ≤ R.cells) (hslots : slots + N ≤ R.slots) (hd : decode cc pc = .ok (.newarray .int, 2))
    (kk : ∀ (q : Nat) (H1 : Heap), PD D A (X ++ ([(q, .inl (cI, N, .inl (fun _ => 0)))] ++ Z)) H1 → va_S A s.heap H1 locs → W p l e R s m args below meth c H1 locs (cells + 1) (slots + N) Q (F0 m (pc + 2) ls (.ref q :: rest))) : W p l e R s m args below meth c H locs cells slots Q (F0 m pc ls (.int n :: rest)) := by
  obtain ⟨hx, hb, hml, hown, hts, hK, hA, hAO⟩ := G
  refine va_newa (atype := .int) (a0 := (N, .inl (fun _ => 0))) hx hb (show (Cond.arrayClass (newarray.typeOf .int)).before args s = true from hts _ w1) rfl hK hPD.1 hPD.2 hS hA (fun _ => rfl) hn hN hbytes hcells hslots hd (fun q cA H1 hK1 hP1 hD1 hS1 => ?_)
  have e1 : cA = cI := arr_one hK1 (i := 3) (j := 0) rfl rfl
  subst e1
  exact kk q H1 (PD.pull ⟨hP1, hD1⟩) hS1
theorem g_newZ (G : Gx p s m args c cc nL own A D cI cZ cR) (hPD : PD D A (X ++ Z) H) (hS : va_S A s.heap H locs) (w1 : Cond.arrayClass .boolean ∈ TB) {n : Int32} (N : Nat) (hn : ¬ n < 0) (hN : n.toNatClampNeg = N) (hbytes : N * componentBytes .boolean ≤ 536870912) (hcells : cells + 1 ≤ R.cells) (hslots : slots + N ≤ R.slots) (hd : decode cc pc = .ok (.newarray .boolean, 2))
    (kk : ∀ (q : Nat) (H1 : Heap), PD D A (X ++ ([(q, .inl (cZ, N, .inl (fun _ => 0)))] ++ Z)) H1 → va_S A s.heap H1 locs → W p l e R s m args below meth c H1 locs (cells + 1) (slots + N) Q (F0 m (pc + 2) ls (.ref q :: rest))) : W p l e R s m args below meth c H locs cells slots Q (F0 m pc ls (.int n :: rest)) := by
  obtain ⟨hx, hb, hml, hown, hts, hK, hA, hAO⟩ := G
  refine va_newa (atype := .boolean) (a0 := (N, .inl (fun _ => 0))) hx hb (show (Cond.arrayClass (newarray.typeOf .boolean)).before args s = true from hts _ w1) rfl hK hPD.1 hPD.2 hS hA (fun _ => rfl) hn hN hbytes hcells hslots hd (fun q cA H1 hK1 hP1 hD1 hS1 => ?_)
  have e1 : cA = cZ := arr_one hK1 (i := 3) (j := 1) rfl rfl
  subst e1
  exact kk q H1 (PD.pull ⟨hP1, hD1⟩) hS1
theorem g_newR (G : Gx p s m args c cc nL own A D cI cZ cR) (hPD : PD D A (X ++ Z) H) (hS : va_S A s.heap H locs) {idx : Nat} (w1 : Cond.classLink own idx RX4 ∈ TB) {n : Int32} (N : Nat) (hn : ¬ n < 0) (hN : n.toNatClampNeg = N) (hbytes : N * 4 ≤ 536870912) (hcells : cells + 1 ≤ R.cells) (hslots : slots + N ≤ R.slots) (hd : decode cc pc = .ok (.anewarray idx, 3))
    (kk : ∀ (q : Nat) (H1 : Heap), PD D A (X ++ ([(q, .inl (cR, N, .inr (.inr (.inr (.inr (fun _ => none))))))] ++ Z)) H1 → va_S A s.heap H1 locs → W p l e R s m args below meth c H1 locs (cells + 1) (slots + N) Q (F0 m (pc + 3) ls (.ref q :: rest))) : W p l e R s m args below meth c H locs cells slots Q (F0 m pc ls (.int n :: rest)) := by
  obtain ⟨hx, hb, hml, hown, hts, hK, hA, hAO⟩ := G
  refine va_newq hx hb hown (hts _ w1) hAO hK hPD.1 hPD.2 hS hA hn hN hbytes hcells hslots hd (fun q cA H1 hK1 hP1 hD1 hS1 => ?_)
  have e1 : cA = cR := arr_one hK1 (i := 3) (j := 2) rfl rfl
  subst e1
  exact kk q H1 (PD.pull ⟨hP1, hD1⟩) hS1
theorem g_putF (G : Gx p s m args c cc nL own A D cI cZ cR) (hPD : PD D A (X ++ Z) H) (hS : va_S A s.heap H locs) (hin2 : meth.name = "<init>") {ci N idx a : Nat} {CN : String} {T : u_T} {ty : Nat → FieldType} {fs : List Value} {v : Value} (q0 k : Nat) (he : (X ++ Z)[q0]? = some (a, .inr (ci, fs))) (hin : ∀ w ∈ u_ws CN T N, w ∈ TB) (hty : ∀ k, k < N → parseFieldDescriptor (T k).2.2.1 = some (ty k)) (hnm : ∀ a, a < N → ∀ b, b < N → a ≠ b → (T a).2.1 ≠ (T b).2.1) (hc : vwCl[ci]? = some (CN, T, N)) (hk : k < N) (w1 : Cond.fieldLink own idx (T k).1 (T k).2.1 (T k).2.2.1 ∈ TB) (hfin : (T k).2.2.2 = true) (hdecl : (T k).1 = own) (hn : narrow (ty k) v = v) (hfit : fits (ty k) v = true) (hl : k < fs.length) (hd : decode cc pc = .ok (.putfield idx, 3))
    (kk : ∀ (H1 : Heap) (locs1 : List Loc), PD D A ((X ++ Z).set q0 (a, .inr (ci, fs.set k v))) H1 → va_S A s.heap H1 locs1 → W p l e R s m args below meth c H1 locs1 cells slots Q (F0 m (pc + 3) ls rest)) : W p l e R s m args below meth c H locs cells slots Q (F0 m pc ls (v :: .ref a :: rest)) := by
  obtain ⟨hx, hb, hml, hown, hts, hK, hA, hAO⟩ := G
  exact va_putF (D := D) hx hb hts hin ty hty hnm hown hK hPD.1 hPD.2 hS q0 he hc k hk (hts _ w1) (fun _ z => z) hfin hin2 hdecl (hty k hk) hn hfit hl hd (fun H1 locs1 hP1 hD1 hS1 => kk H1 locs1 ⟨hP1, hD1⟩ hS1)
theorem g_put (G : Gx p s m args c cc nL own A D cI cZ cR) (hPD : PD D A (X ++ Z) H) (hS : va_S A s.heap H locs) {ci N idx a : Nat} {CN : String} {T : u_T} {ty : Nat → FieldType} {fs : List Value} {v : Value} (q0 k : Nat) (he : (X ++ Z)[q0]? = some (a, .inr (ci, fs))) (hin : ∀ w ∈ u_ws CN T N, w ∈ TB) (hty : ∀ k, k < N → parseFieldDescriptor (T k).2.2.1 = some (ty k)) (hnm : ∀ a, a < N → ∀ b, b < N → a ≠ b → (T a).2.1 ≠ (T b).2.1) (hc : vwCl[ci]? = some (CN, T, N)) (hk : k < N) (w1 : Cond.fieldLink own idx (T k).1 (T k).2.1 (T k).2.2.1 ∈ TB) (hfin : (T k).2.2.2 = false) (hn : narrow (ty k) v = v) (hfit : fits (ty k) v = true) (hl : k < fs.length) (hd : decode cc pc = .ok (.putfield idx, 3))
    (kk : ∀ (H1 : Heap) (locs1 : List Loc), PD D A ((X ++ Z).set q0 (a, .inr (ci, fs.set k v))) H1 → va_S A s.heap H1 locs1 → W p l e R s m args below meth c H1 locs1 cells slots Q (F0 m (pc + 3) ls rest)) : W p l e R s m args below meth c H locs cells slots Q (F0 m pc ls (v :: .ref a :: rest)) := by
  obtain ⟨hx, hb, hml, hown, hts, hK, hA, hAO⟩ := G
  exact va_put (D := D) hx hb hts hin ty hty hnm hown hK hPD.1 hPD.2 hS q0 he hc k hk (hts _ w1) (fun _ z => z) hfin (hty k hk) hn hfit hl hd (fun H1 locs1 hP1 hD1 hS1 => kk H1 locs1 ⟨hP1, hD1⟩ hS1)
theorem g_get (G : Gx p s m args c cc nL own A D cI cZ cR) (hPD : PD D A (X ++ Z) H) {ci N idx a : Nat} {CN : String} {T : u_T} {fs : List Value} {v : Value} (q0 k : Nat) (he : (X ++ Z)[q0]? = some (a, .inr (ci, fs))) (hin : ∀ w ∈ u_ws CN T N, w ∈ TB) (hc : vwCl[ci]? = some (CN, T, N)) (hk : k < N) (w1 : Cond.fieldLink own idx (T k).1 (T k).2.1 (T k).2.2.1 ∈ TB) (hv : fs[k]? = some v) (hd : decode cc pc = .ok (.getfield idx, 3))
    (kk : W p l e R s m args below meth c H locs cells slots Q (F0 m (pc + 3) ls (v :: rest))) : W p l e R s m args below meth c H locs cells slots Q (F0 m pc ls (.ref a :: rest)) := by
  obtain ⟨hx, hb, hml, hown, hts, hK, hA, hAO⟩ := G
  exact va_get (D := D) hx hb hts hin hown hK hPD.1 q0 he hc k hk (hts _ w1) (fun _ z => z) hv hd kk
theorem g_iast (G : Gx p s m args c cc nL own A D cI cZ cR) (hPD : PD D A (X ++ Z) H) (hS : va_S A s.heap H locs) {a n : Nat} {f : Nat → Int32} {i x : Int32} (q0 : Nat) (he : (X ++ Z)[q0]? = some (a, .inl (cI, n, .inl f))) (hin : vp_in i n) (hd : decode cc pc = .ok (.iastore, 1))
    (kk : ∀ (H1 : Heap) (locs1 : List Loc), PD D A ((X ++ Z).set q0 (a, .inl (cI, n, .inl (upd f i.toNatClampNeg x)))) H1 → va_S A s.heap H1 locs1 → W p l e R s m args below meth c H1 locs1 cells slots Q (F0 m (pc + 1) ls rest)) : W p l e R s m args below meth c H locs cells slots Q (F0 m pc ls (.int x :: .int i :: .ref a :: rest)) := by
  obtain ⟨hx, hb, hml, hown, hts, hK, hA, hAO⟩ := G
  exact va_iast (D := D) hx hb hK hPD.1 hPD.2 hS q0 0 he rfl hin hd (fun H1 locs1 hP1 hD1 hS1 => kk H1 locs1 ⟨hP1, hD1⟩ hS1)
theorem g_astq (G : Gx p s m args c cc nL own A D cI cZ cR) (hPD : PD D A (X ++ Z) H) (hS : va_S A s.heap H locs) {a n v : Nat} {f : Nat → Option Nat} {vs : List Value} {i : Int32} (q0 qk : Nat) (he : (X ++ Z)[q0]? = some (a, .inl (cR, n, .inr (.inr (.inr (.inr f)))))) (hv : (X ++ Z)[qk]? = some (v, .inr (3, vs))) (hin : vp_in i n) (hd : decode cc pc = .ok (.aastore, 1))
    (kk : ∀ (H1 : Heap) (locs1 : List Loc), PD D A ((X ++ Z).set q0 (a, .inl (cR, n, .inr (.inr (.inr (.inr (va_up f i.toNatClampNeg (some v)))))))) H1 → va_S A s.heap H1 locs1 → W p l e R s m args below meth c H1 locs1 cells slots Q (F0 m (pc + 1) ls rest)) : W p l e R s m args below meth c H locs cells slots Q (F0 m pc ls (.ref v :: .int i :: .ref a :: rest)) := by
  obtain ⟨hx, hb, hml, hown, hts, hK, hA, hAO⟩ := G
  exact va_astq (D := D) (r := (RX4, TX4, 5)) hx hb hK hPD.1 hPD.2 hS q0 2 qk 3 he rfl hv rfl hin hd (fun H1 locs1 hP1 hD1 hS1 => kk H1 locs1 ⟨hP1, hD1⟩ hS1)
theorem g_obj (G : Gx p s m args c cc nL own A D cI cZ cR) (hls : ls.size = nL) {idx a : Nat} (w1 : Cond.methodLink own idx Lib.objectInit ∈ TB) (w2 : Cond.instanceMethod Lib.objectInit ∈ TB) (w3 : Cond.code Lib.objectInit ⟨#[0xb1]⟩ 1 none ∈ TB) (hd : decode cc pc = .ok (.invokespecial idx, 3)) (hf : 1 ≤ R.frames) (hlo : 12 ≤ R.locals)
    (kk : W p l e R s m args below meth c H locs cells slots Q (F0 m (pc + 3) ls [])) : W p l e R s m args below meth c H locs cells slots Q (F0 m pc ls [.ref a]) := by
  obtain ⟨hx, hb, hml, hown, hts, hK, hA, hAO⟩ := G
  exact W.objInit hx hb hown (hts _ w1) (hts _ w2) (hts _ w3) rfl (hls.trans hml.symm) rfl hd hf (by show 2 * 0 + 0 + 12 ≤ _; omega) kk
end GG
/-! a constructor's contract -/
abbrev preI (D : va_G) (A : Nat → Prop) (cI cZ cR : ClassId) (W0 : va_W) : State → Prop := fun U => PD D A W0 U.heap ∧ va_K D vwCl (tyL cI cZ cR) U ∧ (∀ q, U.heap.size ≤ q → A q) ∧ va_AO RX4 U
abbrev rmI (f n mc ms : Nat) : Room := { frames := f, cells := mc, slots := ms, locals := n }
abbrev MetI (l : Launch) (y : MethodName) (bytes : ByteArray) (nL : Nat) (rm : Room) (As : List Value) (D : va_G) (A : Nat → Prop) (cI cZ cR : ClassId) (W0 : va_W) (S : Type) (post : S → Prop) (W1 : S → va_W) (mc ms : Nat) : Prop :=
  Met l y (.code y bytes nL none :: TB) rm (va_Pc As (preI D A cI cZ cR W0)) (va_Qv post (fun u t => PD D A (W1 u) t.heap) A) mc ms A
theorem blindI {D : va_G} {A : Nat → Prop} {cI cZ cR : ClassId} {W0 : va_W} {av : List Value} : FrameBlind (va_Pc av (preI D A cI cZ cR W0)) := by
  intro a U g mk q
  obtain ⟨q0, qP, qK, qA, qO⟩ := q
  exact ⟨q0, qP, va_K.moved (u := U) (U := U.calling g mk a) (Vm.Alike.refl U.vm) qK, qA, va_AO.moved (u := U) (U := U.calling g mk a) (Vm.Alike.refl U.vm) qO⟩
section GC
variable {p : Program} {l : Launch} {e : Env} {R : Room} {s : State} {m : MethodId} {args : Array Value} {below : List Frame} {meth : Method} {c : Code} {cells slots : Nat} {Q : State → Prop} {cc : ByteArray} {nL : Nat} {own : String} {A : Nat → Prop} {D : va_G} {cI cZ cR : ClassId} {H : Heap} {locs : List Loc} {pc : Nat} {ls : Array Slot} {rest : List Value} {X Z : va_W}
/-- a call of a constructor: all cells go into it -/
theorem g_init (G : Gx p s m args c cc nL own A D cI cZ cR) {W0 : va_W} (hPD : PD D A W0 H) (hS : va_S A s.heap H locs) (hls : ls.size = nL) {y : MethodName} {bytes : ByteArray} {maxL idx n mc ms q : Nat} {rm : Room} {As : List Value} {S : Type} {post : S → Prop} {W1 : S → va_W} (hM : MetI l y bytes maxL rm (.ref q :: As) D A cI cZ cR W0 S post W1 mc ms) (hrc : rm.cells = mc) (hrs : rm.slots = ms) (hy : y.name = "<init>") (w1 : Cond.methodLink own idx y ∈ TB) (w2 : Cond.instanceMethod y ∈ TB) (w3 : Cond.initialized y.cls ∈ TB) (w4 : Cond.code y bytes maxL none ∈ TB)
    (hdd : y.cls ≠ "java/lang/invoke/MethodHandle" ∧ y.cls ≠ "java/lang/invoke/VarHandle" ∧ (parseMethodDescriptor y.desc).map (fun d => d.parameters.length) = some n) (hR : rm.frames + 1 ≤ R.frames ∧ 8 + (maxL + 11) + rm.locals ≤ R.locals) (hAn : As.length = n) (hrest : (rest.map fun v => v.category).sum ≤ 8) (hd : decode cc pc = .ok (.invokespecial idx, 3)) (hf : cells + mc ≤ R.cells ∧ slots + ms ≤ R.slots) {stk : List Value} (hstk : stk = As.reverse ++ .ref q :: rest)
    (kk : ∀ (u : S) (H1 : Heap) (locs1 : List Loc), post u → PD D A (W1 u) H1 → va_S A s.heap H1 locs1 → W p l e R s m args below meth c H1 locs1 (cells + mc) (slots + ms) Q (F0 m (pc + 3) ls rest)) : W p l e R s m args below meth c H locs cells slots Q (F0 m pc ls stk) := by
  obtain ⟨hx, hb, hml, hown, hts, hK, hA, hAO⟩ := G
  refine va_callv (va_runI (As := As) (rest := rest) ⟨hx, hb, hml, hown, hts⟩ hM (cwI n hts (TB.good ?_) rfl hrc hrs (hts _ w3) (hts _ w1) (hts _ w2) hy hdd hR) ⟨blindI, fun U hU hW => ⟨rfl, by rw [hU]; exact hPD, va_K.moved hW.alike hK, fun q hq => hA q (Nat.le_trans hS.1 (by rw [hU] at hq; exact hq)), va_AO.moved hW.alike hAO⟩⟩ rfl hAn hls hstk (by show 2 * 0 + _ ≤ 8; omega) hd hf) hS (fun q _ h => h) (fun q h => h) (fun u t H1 locs1 ht hvm hw hB hz1 hk1 hS1 => ?_)
  · intro w hw
    rcases List.mem_cons.mp hw with rfl | h
    · exact w4
    · exact h
  · exact kk u H1 locs1 hw (by rw [← ht]; exact hB) hS1
/-- a constructor's walk gives its contract -/
theorem g_met {y : MethodName} {bytes : ByteArray} {maxL : Nat} {rm : Room} {As : List Value} {S : Type} {post : S → Prop} {W0 : va_W} {W1 : S → va_W} {mc ms : Nat} (hpl : plainName y.cls = true) (hy : y.name = "<init>") (hAs : (lg_sl As).length ≤ maxL)
    (walk : ∀ {p : Program} {e : Env} {s : State} {m : MethodId} {args : Array Value} {below : List Frame} {meth : Method} {c : Code} {ls : Array Slot}, Gx p s m args c bytes maxL y.cls A D cI cZ cR → meth.sig.returnType = none → meth.locks = false → meth.name = "<init>" → lv_has ls maxL (lv_args 0 As) → PD D A W0 s.heap → W p l e rm s m args below meth c s.heap [] 0 0 (MQ below (va_Qv post (fun u t => PD D A (W1 u) t.heap) A) args s mc ms A) (F0 m 0 ls [])) : MetI l y bytes maxL rm As D A cI cZ cR W0 S post W1 mc ms := by
  refine Met.ofW (cc := bytes) (maxL := maxL) (ret := none) hpl rfl ?_
  intro p e s m args below meth c s₁ B hml hv
  obtain ⟨rfl, hP, hK, hA, hO⟩ := hv
  have hts0 := atoms_spec (ws := Cond.code y bytes maxL none :: TB) B.pre
  have hts : ∀ w ∈ TB, w.before As.toArray s = true := fun w hw => hts0 w (List.mem_cons_of_mem _ hw)
  have hown : s.vm.findClass y.cls = some m.cls := findClass_of_methodNamed B.named
  have hin : meth.name = "<init>" := (name_of_methodNamed B.named B.method).1.trans hy
  have hl := lv_entry As (n := maxL) hAs
  rw [lg_entry_eq]
  generalize (lg_sl As ++ List.replicate (maxL - (lg_sl As).length) Slot.unset).toArray = ls at hl ⊢
  exact walk ⟨B.exec, B.bytes, hml, hown, hts, hK, hA, hO⟩ B.returns B.notSynchronized hin hl hP
theorem g_ret (G : Gx p s m args c cc nL own A D cI cZ cR) (hr : meth.sig.returnType = none) (hlk : meth.locks = false) {S : Type} {post : S → Prop} {W1 : S → va_W} {mc ms : Nat} (u : S) (hu : post u) (hPD : PD D A (W1 u) H) (hS : va_S A s.heap H locs) (hd : decode cc pc = .ok (.return_, 1)) : W p l e R s m args below meth c H locs mc ms (MQ below (va_Qv post (fun u t => PD D A (W1 u) t.heap) A) args s mc ms A) (F0 m pc ls []) := by
  obtain ⟨hx, hb, hml, hown, hts, hK, hA, hAO⟩ := G
  exact W.vret hx hb hr (fun t ht hW => ⟨⟨u, rfl, hu, by show PD D A (W1 u) t.heap; rw [ht]; exact hPD⟩, hS.F ht⟩) hS.2.2 hd (hlocks := hlk)
end GC

/-! constructors: a world that grows from the address a0 on; its cells stand in the order of their addresses -/
def co (a0 : Nat) (ws : va_W) : Prop := ∀ (k : Nat) (q : Nat × va_E), ws[k]? = some q → q.1 = a0 + k
theorem co_D {a0 : Nat} {ws : va_W} (h : co a0 ws) : va_D (fun q => a0 ≤ q) ws :=
  ⟨fun i j p q hi hj e => by have := h i p hi; have := h j q hj; omega, fun k q hk => by have := h k q hk; show a0 ≤ q.1; omega⟩
theorem co_app {a0 : Nat} {ws w2 : va_W} (h : co a0 ws) (g : co (a0 + ws.length) w2) : co a0 (ws ++ w2) := fun k q hk => by
  by_cases l : k < ws.length
  · rw [List.getElem?_append_left l] at hk
    exact h k q hk
  · rw [List.getElem?_append_right (by omega)] at hk
    have := g _ q hk
    omega
theorem co_1 {a : Nat} {e : va_E} : co a [(a, e)] := fun k q hk => by
  have h0 : k < 1 := (List.getElem?_eq_some_iff.mp hk).1
  obtain rfl : k = 0 := by omega
  cases hk
  rfl
theorem co_set {a0 : Nat} {ws : va_W} {k a : Nat} {e e2 : va_E} (h : co a0 ws) (he : ws[k]? = some (a, e)) : co a0 (ws.set k (a, e2)) := fun j q hj => by
  by_cases x : j = k
  · subst x
    have hl := (List.getElem?_eq_some_iff.mp he).1
    rw [List.getElem?_set_self hl] at hj
    cases hj
    have := h j _ he
    exact this
  · rw [List.getElem?_set_ne (Ne.symm x)] at hj
    exact h j q hj
def zAO (s : State) : Prop := va_AO "ClashRocks$Pair" s ∧ va_AO "ClashRocks$Ship" s ∧ va_AO "ClashRocks$Voyage" s ∧ va_AO "ClashRocks$Row" s ∧ (Cond.arrayOver (.array .int)).before #[] s = true
theorem zAO_moved {u U : State} (hvm : u.vm.Alike U.vm) (h : zAO u) : zAO U := ⟨va_AO.moved hvm h.1, va_AO.moved hvm h.2.1, va_AO.moved hvm h.2.2.1, va_AO.moved hvm h.2.2.2.1, aoA_moved hvm h.2.2.2.2⟩
def zH (D : va_G) (cA : Nat → ClassId) (a ci : Nat) (fs : List Value) (U : State) : Prop := U.heap.size = a + 1 ∧ va_P D vwCl [(a, .inr (ci, fs))] U.heap ∧ va_K D vwCl (cr_tys cA) U ∧ (∀ w ∈ cr_NW, va_Nw w U) ∧ zAO U
def zQ (D : va_G) (a : Nat) (r : va_W) : Array Value → State → Outcome → State → Prop := va_Qv (fun _ : Unit => True) (fun _ t => t.heap.size = a + r.length ∧ va_P D vwCl r t.heap) (fun q => a ≤ q)
/-- a constructor's contract: from its new cell, the last of the heap, its cells r come -/
def zM (l : Launch) (y : MethodName) (bytes : ByteArray) (maxL fr lo mc ms : Nat) (D : va_G) (cA : Nat → ClassId) (a ci : Nat) (fs : List Value) (r : va_W) : Prop :=
  Met l y (cr_w y bytes maxL none) { frames := fr, cells := mc, slots := ms, locals := lo } (va_Pc [.ref a] (zH D cA a ci fs)) (zQ D a r) mc ms (fun q => a ≤ q)
def zz_C (p : Program) (l : Launch) (e : Env) (R : Room) (s : State) (m : MethodId) (args : Array Value) (below : List Frame) (meth : Method) (c : Code) (D : va_G) (cA : Nat → ClassId) (a0 : Nat) (cc : ByteArray) (nL : Nat) (own : String) : Prop :=
  p.tables.exec = Jvm.exec ∧ c.code = cc ∧ c.maxLocals = nL ∧ s.vm.findClass own = some m.cls ∧ (∀ w ∈ cr_T, w.before args s = true) ∧ (∀ w ∈ cr_NW, va_Nw w s) ∧ va_K D vwCl (cr_tys cA) s ∧ meth.locks = false ∧ (own ≠ "ClashRocksLaw" → meth.name = "<init>") ∧ zAO s ∧ a0 ≤ s.heap.size
def zz_W (p : Program) (l : Launch) (e : Env) (R : Room) (s : State) (m : MethodId) (args : Array Value) (below : List Frame) (meth : Method) (c : Code) (D : va_G) (cA : Nat → ClassId) (nL : Nat) (Q : State → Prop) (a0 cells slots : Nat) (ws : va_W) (pc : Nat) (lv : List (Nat × Value)) (st : List Value) : Prop :=
  ∀ (H : Heap) (locs : List Loc) (ls : Array Slot), H.size = a0 + ws.length → co a0 ws → va_P D vwCl ws H → va_S (fun q => a0 ≤ q) s.heap H locs → lv_has ls nL lv → W p l e R s m args below meth c H locs cells slots Q (F0 m pc ls st)
theorem m_oi : Cond.instanceMethod Lib.objectInit ∈ cr_T := cr_T_mem (by decide +kernel) (by decide +kernel)
theorem m_oc : Cond.code Lib.objectInit ⟨#[0xb1]⟩ 1 none ∈ cr_T := cr_T_mem (by decide +kernel) (by decide +kernel)
section
variable {p : Program} {l : Launch} {e : Env} {R : Room} {s : State} {m : MethodId} {args : Array Value} {below : List Frame} {meth : Method} {c : Code} {D : va_G} {cA : Nat → ClassId} {a0 : Nat} {cc : ByteArray} {nL : Nat} {own : String} {Q : State → Prop} {cells slots : Nat} {ws ws' : va_W} {pc pc' : Nat} {lv lv' : List (Nat × Value)} {st : List Value}
theorem z_iconst (C : zz_C p l e R s m args below meth c D cA a0 cc nL own) {n : Int} {v : Int32} (hd : decode cc pc = .ok (.iconst n, 1)) (hv : Int32.ofInt n = v) (hp : pc + 1 = pc') (k : zz_W p l e R s m args below meth c D cA nL Q a0 cells slots ws pc' lv (.int v :: st)) : zz_W p l e R s m args below meth c D cA nL Q a0 cells slots ws pc lv (st) := by
  subst hp
  intro H locs ls hz hco hP hS hl
  exact lv_iconst C.1 C.2.1 hd hv (k H locs ls hz hco hP hS hl)
theorem z_bipush (C : zz_C p l e R s m args below meth c D cA a0 cc nL own) {n : Int} {v : Int32} (hd : decode cc pc = .ok (.bipush n, 2)) (hv : (Int8.ofInt n).toInt32 = v) (hp : pc + 2 = pc') (k : zz_W p l e R s m args below meth c D cA nL Q a0 cells slots ws pc' lv (.int v :: st)) : zz_W p l e R s m args below meth c D cA nL Q a0 cells slots ws pc lv (st) := by
  subst hp
  intro H locs ls hz hco hP hS hl
  exact lv_bipush C.1 C.2.1 hd hv (k H locs ls hz hco hP hS hl)
theorem z_sipush (C : zz_C p l e R s m args below meth c D cA a0 cc nL own) {n : Int} {v : Int32} (hd : decode cc pc = .ok (.sipush n, 3)) (hv : (Int16.ofInt n).toInt32 = v) (hp : pc + 3 = pc') (k : zz_W p l e R s m args below meth c D cA nL Q a0 cells slots ws pc' lv (.int v :: st)) : zz_W p l e R s m args below meth c D cA nL Q a0 cells slots ws pc lv (st) := by
  subst hp
  intro H locs ls hz hco hP hS hl
  exact lv_sipush C.1 C.2.1 hd hv (k H locs ls hz hco hP hS hl)
theorem z_dup (C : zz_C p l e R s m args below meth c D cA a0 cc nL own) {va : Value} (hd : decode cc pc = .ok (.dup, 1)) (hc : va.category = 1) (hp : pc + 1 = pc') (k : zz_W p l e R s m args below meth c D cA nL Q a0 cells slots ws pc' lv (va :: va :: st)) : zz_W p l e R s m args below meth c D cA nL Q a0 cells slots ws pc lv (va :: st) := by
  subst hp
  intro H locs ls hz hco hP hS hl
  exact lv_dup C.1 C.2.1 hd hc (k H locs ls hz hco hP hS hl)
theorem z_iload_n (C : zz_C p l e R s m args below meth c D cA a0 cc nL own) {j : Fin 4} {x : Int32} (hd : decode cc pc = .ok (.iload_n j, 1)) (n : Nat) (hk : lv[n]? = some ((j : Nat), .int x)) (hp : pc + 1 = pc') (k : zz_W p l e R s m args below meth c D cA nL Q a0 cells slots ws pc' lv (.int x :: st)) : zz_W p l e R s m args below meth c D cA nL Q a0 cells slots ws pc lv (st) := by
  subst hp
  intro H locs ls hz hco hP hS hl
  exact lv_iload_n C.1 C.2.1 hd rfl (lv_at hl n hk) (k H locs ls hz hco hP hS hl)
theorem z_aload_n (C : zz_C p l e R s m args below meth c D cA a0 cc nL own) {j : Fin 4} {x : Nat} (hd : decode cc pc = .ok (.aload_n j, 1)) (n : Nat) (hk : lv[n]? = some ((j : Nat), .ref x)) (hp : pc + 1 = pc') (k : zz_W p l e R s m args below meth c D cA nL Q a0 cells slots ws pc' lv (.ref x :: st)) : zz_W p l e R s m args below meth c D cA nL Q a0 cells slots ws pc lv (st) := by
  subst hp
  intro H locs ls hz hco hP hS hl
  exact lv_aload_n C.1 C.2.1 hd rfl (lv_at hl n hk) (k H locs ls hz hco hP hS hl)
theorem z_istore_n (C : zz_C p l e R s m args below meth c D cA a0 cc nL own) {j : Fin 4} {i : Nat} {x : Int32} (hd : decode cc pc = .ok (.istore_n j, 1)) (hi : (j : Nat) = i) (hn : i < nL) (hv : (i, Value.int x) :: lv.filter (fun q => !(q.1 == i) && !(q.1 + 1 == i && q.2.category == 2)) = lv') (hp : pc + 1 = pc') (k : zz_W p l e R s m args below meth c D cA nL Q a0 cells slots ws pc' lv' st) : zz_W p l e R s m args below meth c D cA nL Q a0 cells slots ws pc lv (Value.int x :: st) := by
  subst hp
  intro H locs ls hz hco hP hS hl
  exact lv_istore_n C.1 C.2.1 hd hi hl hn hv (fun ls' hl' => k H locs ls' hz hco hP hS hl')
theorem z_astore_n (C : zz_C p l e R s m args below meth c D cA a0 cc nL own) {j : Fin 4} {i : Nat} {x : Nat} (hd : decode cc pc = .ok (.astore_n j, 1)) (hi : (j : Nat) = i) (hn : i < nL) (hv : (i, Value.ref x) :: lv.filter (fun q => !(q.1 == i) && !(q.1 + 1 == i && q.2.category == 2)) = lv') (hp : pc + 1 = pc') (k : zz_W p l e R s m args below meth c D cA nL Q a0 cells slots ws pc' lv' st) : zz_W p l e R s m args below meth c D cA nL Q a0 cells slots ws pc lv (Value.ref x :: st) := by
  subst hp
  intro H locs ls hz hco hP hS hl
  exact lv_astore_n C.1 C.2.1 hd hi hl hn hv (fun ls' hl' => k H locs ls' hz hco hP hS hl')
theorem z_iinc (C : zz_C p l e R s m args below meth c D cA a0 cc nL own) {i : Nat} {d : Int} {x v : Int32} (hd : decode cc pc = .ok (.iinc i d, 3)) (n : Nat) (hk : lv[n]? = some (i, .int x)) (hw : x + Int32.ofInt d = v) (hn : i < nL) (hv : (i, Value.int v) :: lv.filter (fun q => !(q.1 == i) && !(q.1 + 1 == i && q.2.category == 2)) = lv') (hp : pc + 3 = pc') (k : zz_W p l e R s m args below meth c D cA nL Q a0 cells slots ws pc' lv' st) : zz_W p l e R s m args below meth c D cA nL Q a0 cells slots ws pc lv st := by
  subst hp
  intro H locs ls hz hco hP hS hl
  exact lv_iinc C.1 C.2.1 hd hl hk hw hn hv (fun ls' hl' => k H locs ls' hz hco hP hS hl')
theorem z_icmp_ge (C : zz_C p l e R s m args below meth c D cA a0 cc nL own) {x y : Int32} {off : Int} {tgt : Nat} (hd : decode cc pc = .ok (.if_icmp .ge off, 3)) (ht : (pc : Int) + off = (tgt : Int)) (hp : pc + 3 = pc') (kt : y ≤ x → zz_W p l e R s m args below meth c D cA nL Q a0 cells slots ws tgt lv st) (kf : ¬ y ≤ x → zz_W p l e R s m args below meth c D cA nL Q a0 cells slots ws pc' lv st) : zz_W p l e R s m args below meth c D cA nL Q a0 cells slots ws pc lv (.int y :: .int x :: st) := by
  subst hp
  intro H locs ls hz hco hP hS hl
  exact lv_icmp_ge C.1 C.2.1 hd ht (fun q => kt q H locs ls hz hco hP hS hl) (fun q => kf q H locs ls hz hco hP hS hl)
theorem z_goto (C : zz_C p l e R s m args below meth c D cA a0 cc nL own) {off : Int} {tgt : Nat} (hd : decode cc pc = .ok (.goto off, 3)) (ht : (pc : Int) + off = (tgt : Int)) (k : zz_W p l e R s m args below meth c D cA nL Q a0 cells slots ws tgt lv st) : zz_W p l e R s m args below meth c D cA nL Q a0 cells slots ws pc lv st := by
  intro H locs ls hz hco hP hS hl
  exact lv_goto C.1 C.2.1 hd ht (k H locs ls hz hco hP hS hl)
theorem z_obj (C : zz_C p l e R s m args below meth c D cA a0 cc nL own) {idx x : Nat} (hw : Cond.methodLink own idx Lib.objectInit ∈ cr_T) (hd : decode cc pc = .ok (.invokespecial idx, 3)) (hp : pc + 3 = pc') (hR : 1 ≤ R.frames ∧ 20 ≤ R.locals) (hm : (st.map fun v => v.category).sum ≤ 8) (k : zz_W p l e R s m args below meth c D cA nL Q a0 cells slots ws pc' lv st) : zz_W p l e R s m args below meth c D cA nL Q a0 cells slots ws pc lv (.ref x :: st) := by
  subst hp
  intro H locs ls hz hco hP hS hl
  exact W.objInit C.1 C.2.1 C.2.2.2.1 (C.2.2.2.2.1 _ hw) (C.2.2.2.2.1 _ m_oi) (C.2.2.2.2.1 _ m_oc) rfl (hl.1.trans C.2.2.1.symm) rfl hd hR.1 (Nat.le_trans (Nat.add_le_add_right (lv_room hm) 12) hR.2) (k H locs ls hz hco hP hS hl)
theorem z_grow {H H1 : Heap} {locs : List Loc} {x : va_E} {n : Nat} (C : zz_C p l e R s m args below meth c D cA a0 cc nL own) (hn : ws.length = n) (hz : H.size = a0 + ws.length) (hco : co a0 ws) (hP : va_P D vwCl ws H) (hS : va_S (fun q => a0 ≤ q) s.heap H locs) (z1 : H1.size = a0 + n + 1) (o1 : ∀ q, q < a0 + n → H1[q]? = H[q]?) (hx : va_at D vwCl (a0 + n, x) H1) : H1.size = a0 + (ws ++ [(a0 + n, x)]).length ∧ co a0 (ws ++ [(a0 + n, x)]) ∧ va_P D vwCl (ws ++ [(a0 + n, x)]) H1 ∧ va_S (fun q => a0 ≤ q) s.heap H1 locs := by
  subst hn
  refine ⟨by rw [List.length_append, z1]; rfl, co_app hco co_1, (hP.kept (fun k q hq => o1 q.1 (by rw [← hz]; exact (hP k q hq).lt))).app (fun k q hq => ?_), ⟨by have := hS.1; omega, fun q h1 h2 => (o1 q (by have := hS.1; omega)).trans (hS.2.1 q h1 h2), hS.2.2⟩⟩
  have h0 : k < 1 := (List.getElem?_eq_some_iff.mp hq).1
  rw [show k = 0 by omega] at hq
  cases hq
  exact hx
theorem z_new (C : zz_C p l e R s m args below meth c D cA a0 cc nL own) {index ci nf n : Nat} {cn : String} {T : u_T} {fs : List Value} (hcn : vwCl[ci]? = some (cn, T, nf)) (hin : ∀ w ∈ u_ws cn T nf, w ∈ cr_T) (ty : Nat → FieldType) (hty : ∀ k, k < nf → parseFieldDescriptor (T k).2.2.1 = some (ty k)) (hcl : Cond.classLink own index cn ∈ cr_T) (hi : Cond.instantiable cn nf ∈ cr_T) (hini : Cond.initialized cn ∈ cr_T) (hfs : ∀ j, j < nf → defaultValue (ty j) = vp_V fs j) (hn : ws.length = n) (hR : cells + 1 ≤ R.cells ∧ slots + nf ≤ R.slots) (hd : decode cc pc = .ok (.new index, 3)) (hp : pc + 3 = pc') (hw : ws ++ [(a0 + n, .inr (ci, fs))] = ws') (k : zz_W p l e R s m args below meth c D cA nL Q a0 (cells + 1) (slots + nf) ws' pc' lv (.ref (a0 + n) :: st)) : zz_W p l e R s m args below meth c D cA nL Q a0 cells slots ws pc lv st := by
  subst hp
  subst hw
  intro H locs ls hz hco hP hS hl
  have hKn := C.2.2.2.2.2.2.1.1 ci _ hcn
  refine W.newcK C.1 C.2.1 C.2.2.2.1 (C.2.2.2.2.1 _ hcl) (C.2.2.2.2.1 _ hi) (C.2.2.2.2.1 _ hini) rfl hd hR.1 hR.2 hKn.2.1 (hz.trans (by rw [hn])) fun H1 kC hkC e1 z1 o1 => ?_
  obtain ⟨g1, g2, g3, g4⟩ := z_grow (x := .inr (ci, fs)) C hn hz hco hP hS z1 o1 ⟨_, hcn, (u_born ty C.2.2.2.2.1 hin hKn hkC e1 hty).to hfs⟩
  exact k H1 locs ls g1 g2 g3 g4 hl
theorem z_newa (C : zz_C p l e R s m args below meth c D cA a0 cc nL own) {atype : ArrayType} {ty : FieldType} {t n : Nat} {i : Int32} {N' : Nat} {arr : vp_A} (hty : newarray.typeOf atype = ty) (ht : (cr_tys cA)[t]? = some (cA t, ty)) (hra : va_RA s (cA t) ty → s.vm.findClass ("[" ++ ty.toString) = some (cA t)) (harr : Cond.arrayClass ty ∈ cr_T) (ha : ∀ cy : ClassId, vp_cell cy arr = arrV cy N' (fun _ => defaultValue ty)) (hi : ¬ i < 0) (hN : i.toNatClampNeg = N') (hb : N' * componentBytes ty ≤ 536870912) (hn : ws.length = n) (hR : cells + 1 ≤ R.cells ∧ slots + N' ≤ R.slots) (hd : decode cc pc = .ok (.newarray atype, 2)) (hp : pc + 2 = pc') (hw : ws ++ [(a0 + n, .inl (cA t, arr))] = ws') (k : zz_W p l e R s m args below meth c D cA nL Q a0 (cells + 1) (slots + N') ws' pc' lv (.ref (a0 + n) :: st)) : zz_W p l e R s m args below meth c D cA nL Q a0 cells slots ws pc lv (.int i :: st) := by
  subst hp
  subst hw
  subst hty
  intro H locs ls hz hco hP hS hl
  refine va_newaK C.1 C.2.1 (C.2.2.2.2.1 _ harr) rfl hd rfl hi hN hb hR.1 hR.2 (hz.trans (by rw [hn])) fun H1 cy e1 z1 o1 hAr hNm => ?_
  have hcy : cy = cA t := Option.some.inj (hNm.symm.trans (hra (C.2.2.2.2.2.2.1.2 t _ ht).2))
  subst hcy
  obtain ⟨g1, g2, g3, g4⟩ := z_grow (x := .inl (cA t, arr)) C hn hz hco hP hS z1 o1 (by show H1[a0 + n]? = some (vp_cell _ _); rw [ha]; exact e1)
  exact k H1 locs ls g1 g2 g3 g4 hl
theorem z_anew (C : zz_C p l e R s m args below meth c D cA a0 cc nL own) {index t n : Nat} {cn : String} {i : Int32} {N' : Nat} (hcl : Cond.classLink own index cn ∈ cr_T) (hov : va_AO cn s) (ht : (cr_tys cA)[t]? = some (cA t, .object cn)) (hi : ¬ i < 0) (hN : i.toNatClampNeg = N') (hb : N' * 4 ≤ 536870912) (hn : ws.length = n) (hR : cells + 1 ≤ R.cells ∧ slots + N' ≤ R.slots) (hd : decode cc pc = .ok (.anewarray index, 3)) (hp : pc + 3 = pc') (hw : ws ++ [(a0 + n, .inl (cA t, N', .inr (.inr (.inr (.inr (fun _ => none))))))] = ws') (k : zz_W p l e R s m args below meth c D cA nL Q a0 (cells + 1) (slots + N') ws' pc' lv (.ref (a0 + n) :: st)) : zz_W p l e R s m args below meth c D cA nL Q a0 cells slots ws pc lv (.int i :: st) := by
  subst hp
  subst hw
  subst hN
  intro H locs ls hz hco hP hS hl
  refine W.anew C.1 C.2.1 C.2.2.2.1 (C.2.2.2.2.1 _ hcl) (va_AO.use hov) rfl hd rfl hi hb hR.1 hR.2 fun cy kA comp f1 f2 f3 f4 => ?_
  obtain ⟨kB, cB, -, -, -, k4⟩ := (C.2.2.2.2.2.2.1.2 t _ ht).2
  have hcy : cy = cA t := Option.some.inj (f1.symm.trans k4)
  subst hcy
  have z1 : (H.push ({ cls := cA t, slots := Array.replicate i.toNatClampNeg .null, vm := .none } : Cell)).size = a0 + n + 1 := by rw [Array.size_push, hz, hn]
  have hsz : H.size = a0 + n := hz.trans (by rw [hn])
  obtain ⟨g1, g2, g3, g4⟩ := z_grow (x := .inl (cA t, i.toNatClampNeg, .inr (.inr (.inr (.inr (fun _ => none)))))) C hn hz hco hP hS z1 (fun q hq => by rw [Array.getElem?_push, if_neg (by omega)]) (by
    show (H.push _)[a0 + n]? = some (vp_cell _ _)
    rw [← hsz, Array.getElem?_push_size, vp_cell_q, arrV_new]
    rfl)
  rw [hsz]
  exact k _ locs ls g1 g2 g3 g4 hl
theorem z_put (C : zz_C p l e R s m args below meth c D cA a0 cc nL own) {index ci nf q0 k0 : Nat} {cn : String} {T : u_T} {fs : List Value} {v : Value} {ty : FieldType} (hcn : vwCl[ci]? = some (cn, T, nf)) (hin : ∀ w ∈ u_ws cn T nf, w ∈ cr_T) (ty0 : Nat → FieldType) (hty : ∀ k, k < nf → parseFieldDescriptor (T k).2.2.1 = some (ty0 k)) (hnm : ∀ a, a < nf → ∀ b, b < nf → a ≠ b → (T a).2.1 ≠ (T b).2.1) (he : ws[q0]? = some (a0 + q0, .inr (ci, fs))) (hk : k0 < nf) (hlink : Cond.fieldLink own index (T k0).1 (T k0).2.1 (T k0).2.2.1 ∈ cr_T) (hdecl : (T k0).1 = own) (hno : own ≠ "ClashRocksLaw") (hd2 : parseFieldDescriptor (T k0).2.2.1 = some ty) (hnr : narrow ty v = v) (hfit : fits ty v = true) (hl0 : k0 < fs.length) (hd : decode cc pc = .ok (.putfield index, 3)) (hp : pc + 3 = pc') (hw : ws.set q0 (a0 + q0, .inr (ci, fs.set k0 v)) = ws') (k : zz_W p l e R s m args below meth c D cA nL Q a0 cells slots ws' pc' lv st) : zz_W p l e R s m args below meth c D cA nL Q a0 cells slots ws pc lv (v :: .ref (a0 + q0) :: st) := by
  subst hp
  subst hw
  intro H locs ls hz hco hP hS0 hl
  have hts := C.2.2.2.2.1
  have hK := C.2.2.2.2.2.2.1
  have hD := co_D hco
  have hap := va_apart (own := own) hts hin ty0 hty hnm hK hcn
  obtain ⟨r, h1, cell, q1, q2, q3, q4⟩ := hP q0 _ he
  have hr : r = (cn, T, nf) := Option.some.inj (h1.symm.trans hcn)
  subst hr
  obtain ⟨hS, hfc, kC, hkC, hkind⟩ := hK.1 ci _ hcn
  obtain ⟨cf, kf, fi, f, hi, hsl⟩ := hS k0 hk
  have hlay := hts _ (hin _ (u_in_lay hk))
  unfold u_lay at hlay
  have hst := (u_facts hfc hkC (u_lays hts hin hk) hi).1
  have go : ∀ H' : Heap, H'[a0 + q0]? = some (cell.setSlot f.slot v) → H'.size = H.size → (∀ q, q ≠ a0 + q0 → H'[q]? = H[q]?) → W p l e R s m args below meth c H' (locs ++ [⟨a0 + q0, f.slot⟩]) cells slots Q (F0 m (pc + 3) ls st) := fun H' e1 e2 e3 => by
    rw [hsl] at e1 ⊢
    exact k H' _ ls (by rw [List.length_set, e2]; exact hz) (co_set hco he) (hP.set hD he ⟨_, hcn, t_OB.to (V := updV (vp_V fs) k0 v) ⟨_, e1, q2, q3, t_set q4 hap hk v⟩ (fun j _ => vp_updV_set hl0 v j)⟩ e3) (hS0.put e2 e3 (hD.2 q0 _ he)) hl
  by_cases hfin : (T k0).2.2.2 = true
  · rw [if_pos hfin] at hlay
    have hcf : m.cls = cf := by
      obtain ⟨_, _, c', _, _, _, -, -, hf', -, -, -, hown2, -⟩ := Cond.laysFinal_spec hlay
      have e1 : c' = cf := by have := hi.symm.trans hf'; simp at this; exact this.1.symm
      rw [hdecl] at hown2
      rw [← e1]; exact Option.some.inj (C.2.2.2.1.symm.trans hown2)
    have h6 := u_fits hfc hkC hkind (Or.inr hlay) hi hd2 hnr hfit
    exact W.putFinK C.1 C.2.1 C.2.2.2.1 (hts _ hlink) hi hst hcf (C.2.2.2.2.2.2.2.2.1 hno) (by rw [q2]; exact h6) q1 q3 (by rw [hsl]; exact k2_hasslot (q4 k0 hk)) rfl rfl hd go
  · rw [if_neg hfin] at hlay
    have h6 := u_store hfc hkC hkind hlay hi hd2 hnr hfit
    exact W.putK C.1 C.2.1 (f := f) ⟨C.2.2.2.1, hts _ hlink, ⟨_, _, _, hi⟩, hst⟩ (by rw [q2]; exact h6) q1 q3 (by rw [hsl]; exact k2_hasslot (q4 k0 hk)) rfl rfl hd go
theorem z_get (C : zz_C p l e R s m args below meth c D cA a0 cc nL own) {index ci nf q0 k0 : Nat} {cn : String} {T : u_T} {fs : List Value} {v : Value} (hcn : vwCl[ci]? = some (cn, T, nf)) (hin : ∀ w ∈ u_ws cn T nf, w ∈ cr_T) (he : ws[q0]? = some (a0 + q0, .inr (ci, fs))) (hk : k0 < nf) (hlink : Cond.fieldLink own index (T k0).1 (T k0).2.1 (T k0).2.2.1 ∈ cr_T) (hv : fs[k0]? = some v) (hd : decode cc pc = .ok (.getfield index, 3)) (hp : pc + 3 = pc') (k : zz_W p l e R s m args below meth c D cA nL Q a0 cells slots ws pc' lv (v :: st)) : zz_W p l e R s m args below meth c D cA nL Q a0 cells slots ws pc lv (.ref (a0 + q0) :: st) := by
  subst hp
  intro H locs ls hz hco hP hS hl
  exact va_get C.1 C.2.1 C.2.2.2.2.1 hin C.2.2.2.1 C.2.2.2.2.2.2.1 hP q0 he hcn k0 hk (C.2.2.2.2.1 _ hlink) (fun _ h => h) hv hd (k H locs ls hz hco hP hS hl)
theorem z_aast (C : zz_C p l e R s m args below meth c D cA a0 cc nL own) {q0 t0 qk ci n : Nat} {r : vw_C} {vs : List Value} {f : Nat → Option Nat} {i : Int32} (ha : ws[q0]? = some (a0 + q0, .inl (cA t0, n, .inr (.inr (.inr (.inr f)))))) (ht : (cr_tys cA)[t0]? = some (cA t0, .object r.1)) (hv : ws[qk]? = some (a0 + qk, .inr (ci, vs))) (hc : vwCl[ci]? = some r) (hin : vp_in i n) (hd : decode cc pc = .ok (.aastore, 1)) (hp : pc + 1 = pc') (hw : ws.set q0 (a0 + q0, .inl (cA t0, n, .inr (.inr (.inr (.inr (va_up f i.toNatClampNeg (some (a0 + qk)))))))) = ws') (k : zz_W p l e R s m args below meth c D cA nL Q a0 cells slots ws' pc' lv st) : zz_W p l e R s m args below meth c D cA nL Q a0 cells slots ws pc lv (.ref (a0 + qk) :: .int i :: .ref (a0 + q0) :: st) := by
  subst hp
  subst hw
  intro H locs ls hz hco hP hS hl
  have hK := C.2.2.2.2.2.2.1
  have hD := co_D hco
  have hlt : i.toNatClampNeg < n := Nat.not_le.mp fun q => hin (Or.inr q)
  have h0 : ¬ i < 0 := fun q => hin (Or.inl q)
  obtain ⟨r', hr', cellV, g1, g2, g3, -⟩ := hP qk _ hv
  have hcls := (hK.1 ci r hc).2
  obtain ⟨kA, comp, k1, k2, k3, -⟩ := (hK.2 t0 _ ht).2
  have hcomp : comp = D.1 ci := Option.some.inj (k3.symm.trans hcls.1)
  subst hcomp
  obtain ⟨kC, hkC, -⟩ := hcls.2
  refine W.aast C.1 C.2.1 (hP q0 _ ha) (fun q h => by cases h) (fun h => by cases h) k1 k2 rfl hkC ⟨h0, by show _ < (arrV _ _ _).slots.size; rw [arrV_size]; exact hlt⟩ g1 (fun q h => by rw [g3] at h; cases h) (by rw [g2]; exact hkC) (by rw [g2]; exact va_assign hcls) rfl rfl hd fun H1 e z oq => ?_
  refine k H1 _ ls (by rw [List.length_set, z]; exact hz) (co_set hco ha) (hP.set hD ha ?_ oq) (hS.put z oq (hD.2 q0 _ ha)) hl
  show H1[a0 + q0]? = some (vp_cell _ _)
  rw [e, vp_cell_q, vp_cell_q, arrV_store]
  congr 2
  funext q
  by_cases hq : q = i.toNatClampNeg
  · subst hq
    simp [updV, va_up, va_rf]
  · simp [updV, va_up, hq]
theorem z_iast (C : zz_C p l e R s m args below meth c D cA a0 cc nL own) {q0 n : Nat} {f : Nat → Int32} {i x : Int32} (ha : ws[q0]? = some (a0 + q0, .inl (cA 0, n, .inl f))) (hin : vp_in i n) (hd : decode cc pc = .ok (.iastore, 1)) (hp : pc + 1 = pc') (hw : ws.set q0 (a0 + q0, .inl (cA 0, n, .inl (upd f i.toNatClampNeg x))) = ws') (k : zz_W p l e R s m args below meth c D cA nL Q a0 cells slots ws' pc' lv st) : zz_W p l e R s m args below meth c D cA nL Q a0 cells slots ws pc lv (.int x :: .int i :: .ref (a0 + q0) :: st) := by
  subst hp
  subst hw
  intro H locs ls hz hco hP hS hl
  have hK := C.2.2.2.2.2.2.1
  have hD := co_D hco
  have ht : (cr_tys cA)[0]? = some (cA 0, .int) := rfl
  refine W.iast C.1 C.2.1 (hP q0 _ ha) ((hK.2 0 _ ht).1 n (fun j => .int (f j))) (fun q => by cases q) (by show ¬ (i < 0 ∨ (arrV _ _ _).slots.size ≤ _); rw [arrV_size]; exact hin) rfl rfl hd fun H1 e z oq => ?_
  refine k H1 _ ls (by rw [List.length_set, z]; exact hz) (co_set hco ha) (hP.set hD ha ?_ oq) (hS.put z oq (hD.2 q0 _ ha)) hl
  show H1[a0 + q0]? = some (vp_cell _ _)
  rw [e, vp_cell_i, vp_cell_i, arrV_store]
  congr 2
  funext q
  by_cases hq : q = i.toNatClampNeg
  · subst hq
    simp [updV, upd]
  · simp [updV, upd, hq]
theorem z_arr (C : zz_C p l e R s m args below meth c D cA a0 cc nL own) {q0 n a : Nat} {cy : ClassId} {f g : Nat → Option Nat} (ha : ws[q0]? = some (a, .inl (cy, n, .inr (.inr (.inr (.inr f)))))) (hfg : ∀ i, i < n → f i = g i) (hw : ws.set q0 (a, .inl (cy, n, .inr (.inr (.inr (.inr g))))) = ws') (k : zz_W p l e R s m args below meth c D cA nL Q a0 cells slots ws' pc lv st) : zz_W p l e R s m args below meth c D cA nL Q a0 cells slots ws pc lv st := by
  subst hw
  intro H locs ls hz hco hP hS hl
  have e : vp_cell cy (n, .inr (.inr (.inr (.inr f)))) = vp_cell cy (n, .inr (.inr (.inr (.inr g)))) := by
    rw [vp_cell_q, vp_cell_q]
    unfold arrV
    congr 2
    funext j
    show va_rf (f j.val) = va_rf (g j.val)
    rw [hfg j.val j.isLt]
  refine k H locs ls (by rw [List.length_set]; exact hz) (co_set hco ha) (hP.set (co_D hco) ha ?_ (fun q _ => rfl)) hS hl
  show H[a]? = some (vp_cell _ _)
  rw [← e]
  exact hP q0 _ ha
theorem z_iarr (C : zz_C p l e R s m args below meth c D cA a0 cc nL own) {q0 n a : Nat} {cy : ClassId} {f g : Nat → Int32} (ha : ws[q0]? = some (a, .inl (cy, n, .inl f))) (hfg : ∀ i, i < n → f i = g i) (hw : ws.set q0 (a, .inl (cy, n, .inl g)) = ws') (k : zz_W p l e R s m args below meth c D cA nL Q a0 cells slots ws' pc lv st) : zz_W p l e R s m args below meth c D cA nL Q a0 cells slots ws pc lv st := by
  subst hw
  intro H locs ls hz hco hP hS hl
  have e : vp_cell cy (n, .inl f) = vp_cell cy (n, .inl g) := by
    rw [vp_cell_i, vp_cell_i]
    unfold arrV
    congr 2
    funext j
    show Value.int (f j.val) = Value.int (g j.val)
    rw [hfg j.val j.isLt]
  refine k H locs ls (by rw [List.length_set]; exact hz) (co_set hco ha) (hP.set (co_D hco) ha ?_ (fun q _ => rfl)) hS hl
  show H[a]? = some (vp_cell _ _)
  rw [← e]
  exact hP q0 _ ha
def rowsA (cy : ClassId) (K : Nat) (b : Nat) : Nat → va_W
  | 0 => []
  | i + 1 => rowsA cy K b i ++ [(b + i, .inl (cy, K, .inl (fun _ => 0)))]
theorem rowsA_len {cy : ClassId} {K b : Nat} : ∀ i, (rowsA cy K b i).length = i
  | 0 => rfl
  | i + 1 => by rw [rowsA, List.length_append, rowsA_len i]; rfl
theorem rowsA_co {cy : ClassId} {K b : Nat} : ∀ i, co b (rowsA cy K b i)
  | 0 => fun k q h => by cases h
  | i + 1 => by
    rw [rowsA]
    exact co_app (rowsA_co i) (by rw [rowsA_len i]; exact co_1)
theorem rowsA_P {D : va_G} {cy : ClassId} {K b : Nat} {H : Heap} : ∀ i, (∀ j, j < i → H[b + j]? = some (vp_cell cy (K, .inl (fun _ => 0)))) → va_P D vwCl (rowsA cy K b i) H
  | 0, _ => fun k q h => by cases h
  | i + 1, h => by
    rw [rowsA]
    refine (rowsA_P i (fun j hj => h j (by omega))).app (fun k q hq => ?_)
    have h0 : k < 1 := (List.getElem?_eq_some_iff.mp hq).1
    obtain rfl : k = 0 := by omega
    cases hq
    exact h i (by omega)
theorem z_mna (C : zz_C p l e R s m args below meth c D cA a0 cc nL own) {index n : Nat} {i k0 : Int32} {N' K' : Nat} (hcl : Cond.classLink own index ("[" ++ (FieldType.array .int).toString) ∈ cr_T) (harr : Cond.arrayClass .int ∈ cr_T) (hi : ¬ i < 0) (hk0 : ¬ k0 < 0) (hN : i.toNatClampNeg = N') (hK' : k0.toNatClampNeg = K') (hb1 : N' * 4 ≤ 536870912) (hb2 : K' * componentBytes .int ≤ 536870912) (hb3 : K' ≤ 536870912) (hn : ws.length = n) (hR : cells + (1 + N') ≤ R.cells ∧ slots + (N' + N' * K') ≤ R.slots) (hd : decode cc pc = .ok (.multianewarray index 2, 4)) (hp : pc + 4 = pc') (hw : ws ++ ((a0 + n, .inl (cA 7, N', .inr (.inr (.inr (.inr (fun j => if j < N' then some (a0 + n + 1 + j) else none)))))) :: rowsA (cA 0) K' (a0 + n + 1) N') = ws') (k : zz_W p l e R s m args below meth c D cA nL Q a0 (cells + 1 + N') (slots + N' + N' * K') ws' pc' lv (.ref (a0 + n) :: st)) : zz_W p l e R s m args below meth c D cA nL Q a0 cells slots ws pc lv (.int k0 :: .int i :: st) := by
  subst hp
  subst hw
  subst hN
  subst hK'
  intro H locs ls hz hco hP hS hl
  have hsz : H.size = a0 + n := hz.trans (by rw [hn])
  have hK := C.2.2.2.2.2.2.1
  have t7 : s.vm.findClass ("[" ++ (FieldType.array .int).toString) = some (cA 7) := (hK.2 7 _ rfl).2
  have t0 : s.vm.findClass (FieldType.array .int).toString = some (cA 0) := (hK.2 0 _ rfl).2
  intro T hT Xs
  have hTs : T.heap.size = a0 + n := by rw [hT, hsz]
  obtain ⟨F, L, f1, f2, f3, f4, hL, X', step⟩ := mna_step Xs C.1 C.2.2.2.1 (C.2.2.2.2.1 _ hcl) (C.2.2.2.2.2.2.2.2.2.1.2.2.2.2) (C.2.2.2.2.1 _ harr) (g := F0 m pc ls (.int k0 :: .int i :: st)) rfl (by rw [C.2.1]; exact hd) rfl hi hk0 rfl rfl hb1 hb2 hR.1 hR.2 t7 t0
  rw [hTs] at f1 f2 f3 f4 hL step
  have hold : ∀ x : Nat, x < a0 + n → F.heap[x]? = H[x]? := fun x hx => (f3 x hx).trans (by rw [hT])
  have hrow : ∀ j : Nat, j < i.toNatClampNeg → F.heap[a0 + n + 1 + j]? = some (vp_cell (cA 0) (k0.toNatClampNeg, .inl (fun _ => 0))) := fun j hj => by
    rw [f4 j hj, vp_cell_i]
    rfl
  have hP1 : va_P D vwCl (ws ++ ((a0 + n, .inl (cA 7, i.toNatClampNeg, .inr (.inr (.inr (.inr (fun j => if j < i.toNatClampNeg then some (a0 + n + 1 + j) else none)))))) :: rowsA (cA 0) k0.toNatClampNeg (a0 + n + 1) i.toNatClampNeg)) F.heap := by
    refine (hP.kept (fun k9 x hx => hold x.1 (by rw [← hsz]; exact (hP k9 x hx).lt))).app (fun k9 x hx => ?_)
    cases k9 with
    | zero =>
      cases hx
      exact f2
    | succ k9 => exact rowsA_P (D := D) i.toNatClampNeg hrow k9 x hx
  have hco1 : co a0 (ws ++ ((a0 + n, .inl (cA 7, i.toNatClampNeg, .inr (.inr (.inr (.inr (fun j => if j < i.toNatClampNeg then some (a0 + n + 1 + j) else none)))))) :: rowsA (cA 0) k0.toNatClampNeg (a0 + n + 1) i.toNatClampNeg)) := by
    refine co_app hco ?_
    rw [hn]
    intro k9 x hx
    cases k9 with
    | zero =>
      cases hx
      rfl
    | succ k9 =>
      have := rowsA_co i.toNatClampNeg k9 x hx
      omega
  obtain ⟨t, a1, b1⟩ := k F.heap L ls (by rw [f1, List.length_append, List.length_cons, rowsA_len, hn]; omega) hco1 hP1 ⟨by rw [f1]; have := hS.1; omega, fun x h1 h2 => (hold x (by have := hS.1; omega)).trans (hS.2.1 x h1 h2), fun x hx => (hL x hx).elim (fun q => hS.2.2 x q) (fun q => Nat.le_trans (Nat.le_add_right a0 n) (Nat.le_of_eq q.symm))⟩ hl F rfl X'
  exact ⟨t, step t a1, b1⟩
theorem z_ret (C : zz_C p l e R s m args below meth c D cA a0 cc nL own) (hr : meth.sig.returnType = none) (hd : decode cc pc = .ok (.return_, 1)) : zz_W p l e R s m args below meth c D cA nL (MQ below (zQ D a0 ws) args s cells slots (fun q => a0 ≤ q)) a0 cells slots ws pc lv [] := by
  intro H locs ls hz hco hP hS hl
  have hlocks := C.2.2.2.2.2.2.2.1
  exact W.vret C.1 C.2.1 hr (fun t ht hW => ⟨⟨(), rfl, trivial, by rw [ht]; exact hz, by rw [ht]; exact hP⟩, hS.F ht⟩) hS.2.2 hd
theorem z_blind {a ci : Nat} {fs : List Value} {av : List Value} : FrameBlind (va_Pc av (zH D cA a ci fs)) := fun a U g mk q => by
  obtain ⟨q0, qz, qP, qK, qN, qF⟩ := q
  exact ⟨q0, qz, qP, va_K.moved (u := U) (U := U.calling g mk a) (Vm.Alike.refl U.vm) qK, cr_NW_same (u := U) (U := U.calling g mk a) rfl qN, zAO_moved (u := U) (U := U.calling g mk a) (Vm.Alike.refl U.vm) qF⟩
theorem z_pre (C : zz_C p l e R s m args below meth c D cA a0 cc nL own) {H : Heap} {ci n : Nat} {fs : List Value} (hn : ws.length = n) (hz : H.size = a0 + (ws ++ [((a0 + n, .inr (ci, fs)) : Nat × va_E)]).length) (hP : va_P D vwCl (ws ++ [(a0 + n, .inr (ci, fs))]) H) (U : State) (hU : U.heap = H) (hW : s.WarmedH U.vm) : va_Pc [.ref (a0 + n)] (zH D cA (a0 + n) ci fs) [Value.ref (a0 + n)].toArray U := by
  refine ⟨rfl, ?_, ?_, va_K.moved hW.alike C.2.2.2.2.2.2.1, cr_NW_warm hW C.2.2.2.2.2.1, zAO_moved hW.alike C.2.2.2.2.2.2.2.2.2.1⟩
  · rw [hU, hz, List.length_append, hn]
    rfl
  · rw [hU]
    intro k q hq
    have h0 : k < 1 := (List.getElem?_eq_some_iff.mp hq).1
    rw [show k = 0 by omega] at hq
    cases hq
    exact hP n _ (by rw [List.getElem?_append_right (by omega), hn, Nat.sub_self]; rfl)
theorem z_back (C : zz_C p l e R s m args below meth c D cA a0 cc nL own) {H H1 : Heap} {x : va_E} {n : Nat} {r : va_W} (hn : ws.length = n) (hz : H.size = a0 + (ws ++ [(a0 + n, x)]).length) (hco : co a0 (ws ++ [(a0 + n, x)])) (hP : va_P D vwCl (ws ++ [(a0 + n, x)]) H) (hr : co (a0 + n) r) (hB : H1.size = a0 + n + r.length ∧ va_P D vwCl r H1) (hk1 : ∀ q : Nat, q < H.size → ¬ a0 + n ≤ q → H1[q]? = H[q]?) : H1.size = a0 + (ws ++ r).length ∧ co a0 (ws ++ r) ∧ va_P D vwCl (ws ++ r) H1 := by
  subst hn
  have hc0 : co a0 ws := fun k q hq => hco k q (by rw [List.getElem?_append_left ((List.getElem?_eq_some_iff.mp hq).1)]; exact hq)
  have hl : ∀ k q, ws[k]? = some q → (ws ++ [(a0 + ws.length, x)])[k]? = some q := fun k q hq => by rw [List.getElem?_append_left ((List.getElem?_eq_some_iff.mp hq).1)]; exact hq
  have hP0 : va_P D vwCl ws H := fun k q hq => hP k q (hl k q hq)
  refine ⟨by rw [hB.1, List.length_append]; omega, co_app hc0 hr, (hP0.kept (fun k q hq => hk1 q.1 ((hP0 k q hq).lt) ?_)).app hB.2⟩
  have h1 := hc0 k q hq
  have h2 := (List.getElem?_eq_some_iff.mp hq).1
  omega
theorem z_callN (C : zz_C p l e R s m args below meth c D cA a0 cc nL own) {y : MethodName} {bytes : ByteArray} {maxL fr lo mc ms index ci n : Nat} {host : String} {fs : List Value} {r : va_W} {w0 : va_W} (hY : cr_Y y bytes maxL 0 none) (hy : y.name = "<init>") (hv : Cond.instanceMethod y ∈ cr_T) (hl : Cond.methodLinkNest own index y host ∈ cr_NW) (hR : fr + 1 ≤ R.frames ∧ 8 + (maxL + 11) + lo ≤ R.locals) (hR2 : cells + mc ≤ R.cells ∧ slots + ms ≤ R.slots) (hm : (st.map fun v => v.category).sum ≤ 8) (hd : decode cc pc = .ok (.invokespecial index, 3)) (hp : pc + 3 = pc') (hn : ws.length = n) (h0 : ws ++ [(a0 + n, .inr (ci, fs))] = w0) (hM : zM l y bytes maxL fr lo mc ms D cA (a0 + n) ci fs r) (hr : co (a0 + n) r) (hw : ws ++ r = ws') (k : zz_W p l e R s m args below meth c D cA nL Q a0 (cells + mc) (slots + ms) ws' pc' lv st) : zz_W p l e R s m args below meth c D cA nL Q a0 cells slots w0 pc lv (.ref (a0 + n) :: st) := by
  subst hp
  subst hw
  subst h0
  intro H locs ls hz hco hP hS hl9
  refine va_callv (va_runIN (As := []) (rest := st) ⟨C.1, C.2.1, C.2.2.1, C.2.2.2.1, C.2.2.2.2.1⟩ hM ⟨va_cnB 0 C.2.2.2.2.1 (cr_good (fun w h => (List.mem_cons.mp h).elim (fun q => by rw [q]; exact hY.1) id)) rfl rfl rfl (C.2.2.2.2.2.1 _ hl) (C.2.2.2.2.1 _ hY.2.1) hY.2.2 hR, hy, C.2.2.2.2.1 _ hv⟩ ⟨z_blind, fun U hU hW => z_pre C hn hz hP U hU hW⟩ rfl rfl hl9.1 rfl (lv_room hm) hd hR2) hS (fun q _ h => by have : a0 + n ≤ q := h; show a0 ≤ q; omega) (fun q h => by have : a0 + n ≤ q := h; show a0 ≤ q; omega) (fun u t H1 locs1 ht hvm hw hB hz1 hk1 hS1 => ?_)
  rw [ht] at hB
  obtain ⟨g1, g2, g3⟩ := z_back C hn hz hco hP hr hB hk1
  exact k H1 locs1 ls g1 g2 g3 hS1 hl9
theorem z_callI (C : zz_C p l e R s m args below meth c D cA a0 cc nL own) {y : MethodName} {bytes : ByteArray} {maxL fr lo mc ms index ci n : Nat} {fs : List Value} {r : va_W} {w0 : va_W} (hY : cr_Y y bytes maxL 0 none) (hy : y.name = "<init>") (hv : Cond.instanceMethod y ∈ cr_T) (hl : Cond.methodLink own index y ∈ cr_T) (hR : fr + 1 ≤ R.frames ∧ 8 + (maxL + 11) + lo ≤ R.locals) (hR2 : cells + mc ≤ R.cells ∧ slots + ms ≤ R.slots) (hm : (st.map fun v => v.category).sum ≤ 8) (hd : decode cc pc = .ok (.invokespecial index, 3)) (hp : pc + 3 = pc') (hn : ws.length = n) (h0 : ws ++ [(a0 + n, .inr (ci, fs))] = w0) (hM : zM l y bytes maxL fr lo mc ms D cA (a0 + n) ci fs r) (hr : co (a0 + n) r) (hw : ws ++ r = ws') (k : zz_W p l e R s m args below meth c D cA nL Q a0 (cells + mc) (slots + ms) ws' pc' lv st) : zz_W p l e R s m args below meth c D cA nL Q a0 cells slots w0 pc lv (.ref (a0 + n) :: st) := by
  subst hp
  subst hw
  subst h0
  intro H locs ls hz hco hP hS hl9
  refine va_callv (va_runI (As := []) (rest := st) ⟨C.1, C.2.1, C.2.2.1, C.2.2.2.1, C.2.2.2.2.1⟩ hM ⟨callB_of 0 C.2.2.2.2.1 (cr_good (fun w h => (List.mem_cons.mp h).elim (fun q => by rw [q]; exact hY.1) id)) rfl rfl rfl (C.2.2.2.2.1 _ hY.2.1) (C.2.2.2.2.1 _ hl) hY.2.2 hR, hy, C.2.2.2.2.1 _ hv⟩ ⟨z_blind, fun U hU hW => z_pre C hn hz hP U hU hW⟩ rfl rfl hl9.1 rfl (lv_room hm) hd hR2) hS (fun q _ h => by have : a0 + n ≤ q := h; show a0 ≤ q; omega) (fun q h => by have : a0 + n ≤ q := h; show a0 ≤ q; omega) (fun u t H1 locs1 ht hvm hw hB hz1 hk1 hS1 => ?_)
  rw [ht] at hB
  obtain ⟨g1, g2, g3⟩ := z_back C hn hz hco hP hr hB hk1
  exact k H1 locs1 ls g1 g2 g3 hS1 hl9
end
/-- a constructor's contract out of a walk from its entry -/
theorem z_enter {l : Launch} {y : MethodName} {bytes : ByteArray} {maxL fr lo mc ms : Nat} {D : va_G} {cA : Nat → ClassId} {a ci : Nat} {fs : List Value} {r : va_W} (hy : plainName y.cls = true) (hn2 : y.name = "<init>") (hn : 1 ≤ maxL) (k : ∀ (p : Program) (e : Env) (s : State) (m : MethodId) (below : List Frame) (meth : Method) (c : Code), zz_C p l e { frames := fr, cells := mc, slots := ms, locals := lo } s m [Value.ref a].toArray below meth c D cA a bytes maxL y.cls → meth.sig.returnType = none → zz_W p l e { frames := fr, cells := mc, slots := ms, locals := lo } s m [Value.ref a].toArray below meth c D cA maxL (MQ below (zQ D a r) [Value.ref a].toArray s mc ms (fun q => a ≤ q)) a 0 0 [(a, .inr (ci, fs))] 0 [(0, .ref a)] []) : zM l y bytes maxL fr lo mc ms D cA a ci fs r := by
  refine Met.ofW (cc := bytes) (maxL := maxL) (ret := none) hy rfl ?_
  intro p e s m args below meth c s₁ B hml hv
  obtain ⟨rfl, hz, hP, hK, hN, hF⟩ := hv
  have hts := atoms_spec (ws := cr_w y bytes maxL none) B.pre
  have hown : s.vm.findClass y.cls = some m.cls := findClass_of_methodNamed B.named
  have hin : meth.name = "<init>" := (name_of_methodNamed B.named B.method).1.trans hn2
  have hl := lv_entry [Value.ref a] (n := maxL) hn
  rw [lg_entry_eq]
  exact k p e s m below meth c ⟨B.exec, B.bytes, hml, hown, fun w h => hts w (List.mem_cons_of_mem _ h), hN, hK, B.notSynchronized, fun _ => hin, hF, by omega⟩ B.returns s.heap [] _ hz co_1 hP va_S.rf hl

/-! multianewarray of two dimensions over int, from the machine's own words: the states that its loop goes through, what they hold, and the step. -/
def mnaO (co : ClassId) (N h0 i : Nat) : Cell := arrV co N (fun j => va_rf (if j < i then some (h0 + 1 + j) else none))
def mnaI (ci : ClassId) (K : Nat) : Cell := arrV ci K (fun _ => .int 0)
def mnaF (S : State) (co ci : ClassId) (N K : Nat) : Nat → State
  | 0 => S.pushCell (mnaO co N S.heap.size 0)
  | i + 1 => ((mnaF S co ci N K i).pushCell (mnaI ci K)).setCell S.heap.size (mnaO co N S.heap.size (i + 1))
theorem mnaO_set (co : ClassId) (N h0 i : Nat) : (mnaO co N h0 i).setSlot i (.ref (h0 + 1 + i)) = mnaO co N h0 (i + 1) := by
  unfold mnaO
  rw [arrV_store]
  refine congrArg (arrV co N) (funext fun j => ?_)
  by_cases e : j = i
  · subst e
    simp [updV, va_rf]
  · by_cases h : j < i
    · simp [updV, e, h, Nat.lt_succ_of_lt h]
    · simp [updV, e, h, show ¬ j < i + 1 by omega]
theorem mnaO_new (co : ClassId) (N h0 : Nat) : ({ cls := co, slots := Array.replicate N .null, vm := .none } : Cell) = mnaO co N h0 0 := by
  rw [arrV_new]
  unfold mnaO
  exact congrArg (arrV co N) (funext fun j => by simp [va_rf])
theorem mnaO_size (co : ClassId) (N h0 i : Nat) : (mnaO co N h0 i).slots.size = N := by
  unfold mnaO arrV
  exact Array.size_ofFn
theorem mnaI_new (ci : ClassId) (K : Nat) : ({ cls := ci, slots := Array.replicate K (.int 0), vm := .none } : Cell) = mnaI ci K := arrV_new ci K _
theorem mnaI_size (ci : ClassId) (K : Nat) : (mnaI ci K).slots.size = K := by
  unfold mnaI arrV
  exact Array.size_ofFn
section
variable {S : State} {co ci : ClassId} {N K : Nat}
theorem mnaF_size : ∀ i : Nat, (mnaF S co ci N K i).heap.size = S.heap.size + 1 + i
  | 0 => Array.size_push _
  | i + 1 => by
    show (Array.setIfInBounds (Array.push (mnaF S co ci N K i).heap _) _ _).size = _
    rw [Array.size_setIfInBounds, Array.size_push, mnaF_size i]
    omega
theorem mnaF_outer : ∀ i : Nat, (mnaF S co ci N K i).heap[S.heap.size]? = some (mnaO co N S.heap.size i)
  | 0 => Array.getElem?_push_size
  | i + 1 => by
    show (Array.setIfInBounds (Array.push (mnaF S co ci N K i).heap _) S.heap.size _)[S.heap.size]? = _
    rw [Array.getElem?_setIfInBounds_self_of_lt (by rw [Array.size_push, mnaF_size i]; omega)]
theorem mnaF_keep {x i : Nat} (h : x ≠ S.heap.size) (hx : x < S.heap.size + 1 + i) : (mnaF S co ci N K (i + 1)).heap[x]? = (mnaF S co ci N K i).heap[x]? := by
  show (Array.setIfInBounds (Array.push (mnaF S co ci N K i).heap _) S.heap.size _)[x]? = _
  rw [Array.getElem?_setIfInBounds_ne (Ne.symm h), Array.getElem?_push_lt (by rw [mnaF_size i]; exact hx)]
  exact (Array.getElem?_eq_getElem _).symm
theorem mnaF_old {x : Nat} (hx : x < S.heap.size) : ∀ i : Nat, (mnaF S co ci N K i).heap[x]? = S.heap[x]?
  | 0 => by
    show (Array.push S.heap _)[x]? = _
    rw [Array.getElem?_push_lt hx]
    exact (Array.getElem?_eq_getElem _).symm
  | i + 1 => (mnaF_keep (by omega) (by omega)).trans (mnaF_old hx i)
theorem mnaF_in : ∀ i j : Nat, j < i → (mnaF S co ci N K i).heap[S.heap.size + 1 + j]? = some (mnaI ci K)
  | 0, j, h => absurd h (Nat.not_lt_zero j)
  | i + 1, j, h => by
    by_cases e : j = i
    · subst e
      show (Array.setIfInBounds (Array.push (mnaF S co ci N K j).heap _) S.heap.size _)[S.heap.size + 1 + j]? = _
      rw [Array.getElem?_setIfInBounds_ne (by omega), ← mnaF_size (S := S) (co := co) (ci := ci) (N := N) (K := K) j]
      exact Array.getElem?_push_size
    · exact (mnaF_keep (by omega) (by omega)).trans (mnaF_in i j (by omega))
theorem mnaF_vm : ∀ i : Nat, (mnaF S co ci N K i).vm = S.vm
  | 0 => rfl
  | i + 1 => mnaF_vm i
theorem mnaF_used : ∀ i : Nat, (mnaF S co ci N K i).slotsUsed = S.slotsUsed + N + i * K
  | 0 => by
    show S.slotsUsed + (mnaO co N S.heap.size 0).slots.size = _
    rw [mnaO_size]
    omega
  | i + 1 => by
    show (mnaF S co ci N K i).slotsUsed + (mnaI ci K).slots.size = _
    rw [mnaF_used i, mnaI_size, Nat.succ_mul]
    omega
theorem mnaF_top {f : JFrame} : ∀ i : Nat, mnaF (S.setTop f) co ci N K i = (mnaF S co ci N K i).setTop f
  | 0 => rfl
  | i + 1 => by
    show ((mnaF (S.setTop f) co ci N K i).pushCell _).setCell _ _ = _
    rw [mnaF_top i]
    rfl
end
theorem mnaF_stand {p : Program} {l : Launch} {e : Env} {R : Room} {s : State} {m : MethodId} {args : Array Value} {below : List Frame} {meth : Method} {c : Code} {S : State} {locs : List Loc} {cells slots : Nat} {co ci : ClassId} {N K : Nat} (X : Stand p l e R s m args below meth c S locs cells slots) : ∀ i : Nat, ∃ L : List Loc, (∀ x ∈ L, x ∈ locs ∨ x.base = S.heap.size) ∧ Stand p l e R s m args below meth c (mnaF S co ci N K i) L (cells + 1 + i) (slots + N + i * K)
  | 0 => by
    refine ⟨locs, fun x h => Or.inl h, ?_⟩
    have Y := X.pushed (mnaO co N S.heap.size 0)
    rw [mnaO_size] at Y
    rw [Nat.zero_mul]
    exact Y
  | i + 1 => by
    obtain ⟨L, hL, Y⟩ := mnaF_stand (co := co) (ci := ci) (N := N) (K := K) X i
    have Y1 := Y.pushed (mnaI ci K)
    have hc : ((mnaF S co ci N K i).pushCell (mnaI ci K)).heap[S.heap.size]? = some (mnaO co N S.heap.size i) := by
      refine Eq.trans ?_ (mnaF_outer (K := K) (ci := ci) i)
      exact State.heap_pushCell_of_lt (mnaF S co ci N K i) _ (Nat.lt_of_lt_of_eq (show S.heap.size < S.heap.size + 1 + i by omega) (mnaF_size i).symm)
    have Y2 := Y1.stored hc i (.ref (S.heap.size + 1 + i))
    rw [mnaO_set, mnaI_size] at Y2
    refine ⟨L ++ [⟨S.heap.size, i⟩], fun x h => ?_, ?_⟩
    · rcases List.mem_append.mp h with h | h
      · exact hL x h
      · rw [List.mem_singleton.mp h]
        exact Or.inr rfl
    · rw [Nat.succ_mul, ← Nat.add_assoc (slots + N)]
      exact Y2
/-- what the condition arrayOver says of int[][] -/
theorem mna_over {U : State} {a : Array Value} (h : (Cond.arrayOver (.array .int)).before a U = true) : ∃ (comp c : ClassId) (k : Class), U.vm.findClass (FieldType.array .int).toString = some comp ∧ (U.vm.classes.findIdx? fun (x : Class) => match x.kind with | .array component _ => component == comp | _ => false) = some c ∧ U.vm.classes[c]? = some k ∧ k.kind = .array comp (.array .int) ∧ U.vm.findClass ("[" ++ (FieldType.array .int).toString) = some c := by
  simp only [Cond.before, Cond.holds, Cond.value, beq_iff_eq, Option.bind_eq_some_iff, Option.map_eq_some_iff] at h
  obtain ⟨comp, h1, c, h2, k, h3, h4⟩ := h
  refine ⟨comp, c, k, h1, h2, h3, ?_⟩
  obtain ⟨hlt, hp, -⟩ := Array.findIdx?_eq_some_iff_getElem.mp h2
  rw [show U.vm.classes[c] = k from (Array.getElem?_eq_some_iff.mp h3).2] at hp
  cases hk : k.kind with
  | array c1 ty =>
    rw [hk] at h4 hp
    simp only [Bool.and_eq_true, decide_eq_true_eq] at h4
    have e1 : c1 = comp := eq_of_beq hp
    rw [e1, h4.1]
    exact ⟨rfl, h4.2⟩
  | _ =>
    rw [hk] at h4
    exact absurd h4 (by simp)
theorem aoA_moved {u U : State} (hvm : u.vm.Alike U.vm) (h : (Cond.arrayOver (.array .int)).before #[] u = true) : (Cond.arrayOver (.array .int)).before #[] U = true := by
  obtain ⟨comp, c, k, h1, h2, h3, h4, h5⟩ := mna_over h
  obtain ⟨k', hk', he⟩ := hvm.2.2 _ _ h3
  have g1 : U.vm.findClass (FieldType.array .int).toString = some comp := by rw [hvm.findClass]; exact h1
  have g5 : U.vm.findClass ("[" ++ (FieldType.array .int).toString) = some c := by rw [hvm.findClass]; exact h5
  have g4 : k'.kind = .array comp (.array .int) := by rw [he]; exact h4
  have g2 : (U.vm.classes.findIdx? fun (x : Class) => match x.kind with | .array component _ => component == comp | _ => false) = some c := by
    refine ((va_idx_bare U.vm comp).symm.trans ?_).trans h2
    first | rw [hvm.bare_eq] | rw [← hvm.bare_eq]
    exact va_idx_bare u.vm comp
  simp only [Cond.before, Cond.holds, Cond.value, beq_iff_eq, Option.bind_eq_some_iff, Option.map_eq_some_iff]
  refine ⟨comp, g1, c, g2, k', hk', ?_⟩
  rw [g4]
  simp only [g5, decide_true, Bool.and_self]
section
variable {E : CtlPost} {e : Env} {d : Bool} {acts : List Action} {S : State} {co ci c0 : ClassId} {kO kI : Class} {n k : Int32}
theorem mna_inner {Q : Addr → Pre} (hkI : S.vm.classes[ci]? = some kI) (hI : kI.kind = .array c0 .int) (hk : ¬ k < 0) (hl : ¬ k.toNatClampNeg > e.platform.arrayLengthLimit) (hh : ¬ k.toNatClampNeg * componentBytes .int > e.platform.maxHeapBytes) (hc : S.heap.size < e.platform.maxCells) (hs : S.slotsUsed + k.toNatClampNeg ≤ e.platform.maxSlots) (hq : ∀ acts', Q S.heap.size d acts' (S.pushCell (mnaI ci k.toNatClampNeg))) : wp (Op.multianewarray.make ci [k]) Q E e d acts S := by
  unfold Op.multianewarray.make
  simp only [wp_bind', W.ite, hk, if_false, wp_pure', W.theClass, hkI, Option.some.injEq, exists_eq_left', hI]
  refine W.newArray_of hkI hI hl hh hc hs rfl (fun acts' => ?_)
  have := hq acts'
  rw [← mnaI_new] at this
  exact this
theorem mna_loop {N K : Nat} {f : Nat → PUnit → Sem (ForInStep PUnit)} (hf : ∀ (i : Nat) (d' : Bool) (acts' : List Action) (Q' : ForInStep PUnit → Pre), i < N → (∀ d'' acts'', Q' (ForInStep.yield PUnit.unit) d'' acts'' (mnaF S co ci N K (i + 1))) → wp (f i PUnit.unit) Q' E e d' acts' (mnaF S co ci N K i)) {Q : PUnit → Pre} (hq : ∀ d' acts', Q PUnit.unit d' acts' (mnaF S co ci N K N)) : ∀ (r i : Nat) (d' : Bool) (acts' : List Action), i + r = N → wp (forIn (List.range' i r) PUnit.unit f) Q E e d' acts' (mnaF S co ci N K i)
  | 0, i, d', acts', h => by
    obtain rfl : i = N := h
    simp only [List.range'_zero, List.forIn_nil, wp_pure']
    exact hq d' acts'
  | r + 1, i, d', acts', h => by
    simp only [List.range'_succ, List.forIn_cons, wp_bind']
    exact hf i d' acts' _ (by omega) (fun d'' acts'' => mna_loop hf hq r (i + 1) d'' acts'' (by omega))
theorem mna_make {Q : Addr → Pre} (hkO : S.vm.classes[co]? = some kO) (hO : kO.kind = .array ci (.array .int)) (hkI : S.vm.classes[ci]? = some kI) (hI : kI.kind = .array c0 .int) (hn : ¬ n < 0) (hk : ¬ k < 0) (hl1 : ¬ n.toNatClampNeg > e.platform.arrayLengthLimit) (hh1 : ¬ n.toNatClampNeg * componentBytes (.array .int) > e.platform.maxHeapBytes) (hl2 : ¬ k.toNatClampNeg > e.platform.arrayLengthLimit) (hh2 : ¬ k.toNatClampNeg * componentBytes .int > e.platform.maxHeapBytes) (hc : S.heap.size + (1 + n.toNatClampNeg) ≤ e.platform.maxCells) (hs : S.slotsUsed + (n.toNatClampNeg + n.toNatClampNeg * k.toNatClampNeg) ≤ e.platform.maxSlots) (hq : ∀ d' acts', Q S.heap.size d' acts' (mnaF S co ci n.toNatClampNeg k.toNatClampNeg n.toNatClampNeg)) : wp (Op.multianewarray.make co [n, k]) Q E e d acts S := by
  have hfd : [k].find? (fun x => decide (x < 0)) = none := by simp [hk]
  unfold Op.multianewarray.make
  simp only [wp_bind', W.ite, hn, if_false, wp_pure', W.theClass, hkO, Option.some.injEq, exists_eq_left', hO, hfd, ite_self]
  refine W.newArray_of hkO hO hl1 hh1 (by omega) (by omega) rfl (fun acts' => ?_)
  rw [show ({ cls := co, slots := Array.replicate n.toNatClampNeg .null } : Cell) = mnaO co n.toNatClampNeg S.heap.size 0 from mnaO_new co _ _]
  simp only [wp_bind', wp_pure', W.ite, ite_self, Std.Legacy.Range.forIn_eq_forIn_range', Std.Legacy.Range.size, Nat.sub_zero, Nat.add_sub_cancel, Nat.div_one]
  refine mna_loop (S := S) (co := co) (ci := ci) (N := n.toNatClampNeg) (K := k.toNatClampNeg) (fun i d' acts' Q' hi hq' => ?_) (fun d' acts' => ?_) n.toNatClampNeg 0 _ _ (by omega)
  · simp only [wp_bind', wp_pure']
    refine mna_inner (S := mnaF S co ci n.toNatClampNeg k.toNatClampNeg i) (by rw [mnaF_vm]; exact hkI) hI hk hl2 hh2 (by rw [mnaF_size]; omega) ?_ (fun acts2 => ?_)
    · rw [mnaF_used]
      have : (i + 1) * k.toNatClampNeg ≤ n.toNatClampNeg * k.toNatClampNeg := Nat.mul_le_mul_right _ hi
      rw [Nat.succ_mul] at this
      omega
    · rw [wp_bind']
      refine (W.writeLoc _ _ _ _).mpr ⟨mnaO co n.toNatClampNeg S.heap.size i, ?_, (fun h => by cases h), by rw [mnaO_size]; exact hi, ?_, ?_⟩
      · refine Eq.trans ?_ (mnaF_outer (K := k.toNatClampNeg) (ci := ci) i)
        exact State.heap_pushCell_of_lt (mnaF S co ci n.toNatClampNeg k.toNatClampNeg i) _ (Nat.lt_of_lt_of_eq (show S.heap.size < S.heap.size + 1 + i by omega) (mnaF_size i).symm)
      · have hfit : ∀ x : Addr, fits (.array .int) (.ref x) = true := fun _ => rfl
        show State.fitsSlot _ co .none i _ = true
        simp [State.fitsSlot, State.slotType?, mnaF_vm, hkO, hO, hfit]
      · rw [mnaF_size, mnaO_set, wp_pure']
        exact hq' _ _
  · exact hq d' acts'
end
section
variable {p : Program} {l : Launch} {e : Env} {R : Room} {s : State} {m : MethodId} {args : Array Value} {below : List Frame} {meth : Method} {c : Code} {T : State} {locs : List Loc} {cells slots : Nat}
/-- multianewarray of int[n][k] -/
theorem mna_step (X : Stand p l e R s m args below meth c T locs cells slots) (hexec : p.tables.exec = Jvm.exec) {own : String} {index : Nat} (hown : s.vm.findClass own = some m.cls) (hcl : (Cond.classLink own index ("[" ++ (FieldType.array .int).toString)).before args s = true) (hov : (Cond.arrayOver (.array .int)).before args s = true) (harr : (Cond.arrayClass .int).before args s = true) {g : JFrame} (hg : g.method = m) (hd : decode c.code g.pc = .ok (.multianewarray index 2, 4)) {n k : Int32} {rest : List Value} (hst : g.stack = .int k :: .int n :: rest) (hn : ¬ n < 0) (hk : ¬ k < 0) {N K : Nat} (hN : n.toNatClampNeg = N) (hK : k.toNatClampNeg = K) (hb1 : N * 4 ≤ 536870912) (hb2 : K * 4 ≤ 536870912) (hR1 : cells + (1 + N) ≤ R.cells) (hR2 : slots + (N + N * K) ≤ R.slots) {cO cI : ClassId} (fO : s.vm.findClass ("[" ++ (FieldType.array .int).toString) = some cO) (fI : s.vm.findClass (FieldType.array .int).toString = some cI) :
    ∃ (F : State) (L : List Loc), F.heap.size = T.heap.size + 1 + N ∧ F.heap[T.heap.size]? = some (mnaO cO N T.heap.size N) ∧ (∀ x : Nat, x < T.heap.size → F.heap[x]? = T.heap[x]?) ∧ (∀ j : Nat, j < N → F.heap[T.heap.size + 1 + j]? = some (mnaI cI K)) ∧ (∀ x ∈ L, x ∈ locs ∨ x.base = T.heap.size) ∧ Stand p l e R s m args below meth c F L (cells + 1 + N) (slots + N + N * K) ∧ ∀ target, Steps p.tables e below (F.setTop { g with pc := g.pc + 4, stack := .ref T.heap.size :: rest }) target → Steps p.tables e below (T.setTop g) target := by
  subst hg
  subst hN
  subst hK
  have hpl : e.platform.magicAccessors = ({} : Platform).magicAccessors := by rw [X.admits.platform]
  obtain ⟨comp, cc, kO, h1, -, h3, h4, h5⟩ := mna_over hov
  obtain rfl : comp = cI := Option.some.inj (h1.symm.trans fI)
  obtain rfl : cc = cO := Option.some.inj (h5.symm.trans fO)
  obtain ⟨c1, kI, c0, a1, a2, a3⟩ := Cond.arrayClass_spec harr
  obtain rfl : c1 = comp := Option.some.inj ((show s.vm.findClass (FieldType.array .int).toString = some c1 from a1).symm.trans h1)
  obtain ⟨c2, b1, b2⟩ := Cond.classLink_spec hown hcl e.platform hpl
  obtain rfl : c2 = cc := Option.some.inj (b1.symm.trans fO)
  obtain ⟨hg1, hw1, -⟩ := State.classEntry (e := e) X.warmed b2
  generalize T.vm.noted g.method.cls index (.cls c2) = vm₁ at hg1 hw1
  have hal := hw1.alike
  have hsz : vm₁.classes.size ≤ (T.setTop g).vm.classes.size := Nat.le_of_eq (hal.2.1.trans X.warmed.alike.2.1.symm)
  obtain ⟨kO1, hkO1, eO⟩ := hal.2.2 _ _ h3
  obtain ⟨kI1, hkI1, eI⟩ := hal.2.2 _ _ a2
  have hO1 : kO1.kind = .array c1 (.array .int) := by rw [eO]; exact h4
  have hI1 : kI1.kind = .array c0 .int := by rw [eI]; exact a3
  have X1 := X.noted hw1
  obtain ⟨r1, r2⟩ := X.roomAbove hR1 hR2
  have hl := Launch.admits_arrayLengthLimit X.admits
  have hh := Launch.admits_maxHeapBytes X.admits
  obtain ⟨L, hL, Y⟩ := mnaF_stand (co := c2) (ci := c1) (N := n.toNatClampNeg) (K := k.toNatClampNeg) X1 n.toNatClampNeg
  refine ⟨mnaF (T.setVm vm₁) c2 c1 n.toNatClampNeg k.toNatClampNeg n.toNatClampNeg, L, mnaF_size _, mnaF_outer _, fun x hx => mnaF_old (S := T.setVm vm₁) hx _, fun j hj => mnaF_in (S := T.setVm vm₁) _ j hj, hL, Y, fun target hr => ?_⟩
  refine Steps.instr (c := c) X.here ?_
  rw [hd]
  show wpRun (p.tables.exec (.multianewarray index 2)) _ _ e (T.setTop g)
  rw [hexec]
  show wp (Op.multianewarray.sem index 2) _ _ e false [] (T.setTop g)
  unfold Op.multianewarray.sem
  rw [wp_bind']
  refine (W.resolveClassAt_links (t := T.setTop g) (State.method?_setTop g X.here.top) hg1 hsz).mpr ?_
  rw [wp_bind']
  refine (Op.popN_top (s := T.setVm vm₁) (f := g) (args := [.int n, .int k]) (rest := rest) X1.here.top hst).mpr ?_
  simp only [List.mapM_cons, List.mapM_nil, wp_bind', wp_pure']
  refine mna_make (S := (T.setVm vm₁).setTop { g with stack := rest }) hkO1 hO1 hkI1 hI1 hn hk (by rw [hl]; omega) (by rw [hh]; show ¬ n.toNatClampNeg * 4 > 536870912; omega) (by rw [hl]; omega) (by rw [hh]; show ¬ k.toNatClampNeg * 4 > 536870912; omega) r1 r2 (fun d' acts' => ?_)
  rw [wp_bind']
  refine (W.mark _).mpr ?_
  rw [mnaF_top]
  refine (W.pushRef _).mpr ⟨_, State.topJava?_setTop' _ Y.here.top, fun acts => ?_⟩
  rw [State.setTop_setTop, afterInstr_ok]
  exact hr
end

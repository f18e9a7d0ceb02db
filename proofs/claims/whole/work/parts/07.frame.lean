/-! the state: int fields by object and slot, int rows, long rows; objects and rows by their offset from the world's base -/
abbrev cr_S : Type := (Nat → Nat → Int32) × (Nat → Nat → Int32) × (Nat → Nat → Int64)
def rF (σ : cr_S) (o k : Nat) : Int32 := σ.1 o k
def rA (σ : cr_S) (o : Nat) (i : Int32) : Int32 := σ.2.1 o i.toNatClampNeg
def rL (σ : cr_S) (o : Nat) (i : Int32) : Int64 := σ.2.2 o i.toNatClampNeg
def sF (σ : cr_S) (o k : Nat) (v : Int32) : cr_S := (va_up σ.1 o (upd (σ.1 o) k v), σ.2.1, σ.2.2)
def sA (σ : cr_S) (o : Nat) (i v : Int32) : cr_S := (σ.1, va_up σ.2.1 o (upd (σ.2.1 o) i.toNatClampNeg v), σ.2.2)
def sL (σ : cr_S) (o : Nat) (i : Int32) (v : Int64) : cr_S := (σ.1, σ.2.1, va_up σ.2.2 o (vp_updL (σ.2.2 o) i.toNatClampNeg v))
def chk {α : Type} (c : Prop) [Decidable c] (k : Option α) : Option α := if c then k else none
theorem chk_some {α : Type} {c : Prop} [Decidable c] {k : Option α} {r : α} (h : chk c k = some r) : c ∧ k = some r := by
  unfold chk at h
  by_cases q : c
  · rw [if_pos q] at h; exact ⟨q, h⟩
  · rw [if_neg q] at h; cases h
def cr_let {α β : Type} (x : α) (k : α → β) : β := k x
theorem let_some {α β : Type} {x : α} {k : α → Option β} {r : β} (h : cr_let x k = some r) : ∃ y, y = x ∧ k y = some r := ⟨x, rfl, h⟩
theorem bind_some {α β : Type} {x : Option α} {k : α → Option β} {r : β} (h : x.bind k = some r) : ∃ y, x = some y ∧ k y = some r := by
  cases x with
  | none => cases h
  | some y => exact ⟨y, rfl, h⟩
/-- the shapes: an object of a class (a slot is an int, or a place of the world), an int row, a long row, a row of places -/
abbrev cr_Sh : Type := (Nat × List (Option Nat)) ⊕ ((Nat × Nat) ⊕ (Nat ⊕ (Nat × Nat × (Nat → Nat))))
def cr_fs (base : Nat) (f : Nat → Int32) : Nat → List (Option Nat) → List Value
  | _, [] => []
  | k, none :: t => .int (f k) :: cr_fs base f (k + 1) t
  | k, some r :: t => .ref (base + r) :: cr_fs base f (k + 1) t
theorem cr_fs_i {base : Nat} {f : Nat → Int32} : ∀ {sl : List (Option Nat)} {j k : Nat}, sl[k]? = some none → (cr_fs base f j sl)[k]? = some (.int (f (j + k)))
  | [], j, k, h => by simp at h
  | none :: t, j, 0, h => rfl
  | some r :: t, j, 0, h => by simp at h
  | none :: t, j, k + 1, h => by
    have := cr_fs_i (base := base) (f := f) (sl := t) (j := j + 1) (k := k) (by simpa using h)
    rw [show j + (k + 1) = j + 1 + k by omega]
    simpa [cr_fs] using this
  | some r :: t, j, k + 1, h => by
    have := cr_fs_i (base := base) (f := f) (sl := t) (j := j + 1) (k := k) (by simpa using h)
    rw [show j + (k + 1) = j + 1 + k by omega]
    simpa [cr_fs] using this
theorem cr_fs_r {base : Nat} {f : Nat → Int32} {r : Nat} : ∀ {sl : List (Option Nat)} {j k : Nat}, sl[k]? = some (some r) → (cr_fs base f j sl)[k]? = some (.ref (base + r))
  | [], j, k, h => by simp at h
  | none :: t, j, 0, h => by simp at h
  | some r :: t, j, 0, h => by
    simp at h
    subst h
    rfl
  | none :: t, j, k + 1, h => by simpa [cr_fs] using cr_fs_r (base := base) (f := f) (sl := t) (j := j + 1) (k := k) (by simpa using h)
  | some r :: t, j, k + 1, h => by simpa [cr_fs] using cr_fs_r (base := base) (f := f) (sl := t) (j := j + 1) (k := k) (by simpa using h)
theorem cr_fs_c {base : Nat} {f g : Nat → Int32} : ∀ {sl : List (Option Nat)} {j : Nat}, (∀ i, j ≤ i → f i = g i) → cr_fs base f j sl = cr_fs base g j sl
  | [], j, h => rfl
  | none :: t, j, h => by
    simp only [cr_fs]
    rw [h j (Nat.le_refl j), cr_fs_c (sl := t) (fun i hi => h i (by omega))]
  | some r :: t, j, h => by
    simp only [cr_fs]
    rw [cr_fs_c (sl := t) (fun i hi => h i (by omega))]
theorem cr_fs_s {base : Nat} {f : Nat → Int32} {v : Int32} : ∀ {sl : List (Option Nat)} {j k : Nat}, sl[k]? = some none → (cr_fs base f j sl).set k (.int v) = cr_fs base (upd f (j + k) v) j sl
  | [], j, k, h => by simp at h
  | none :: t, j, 0, h => by
    simp only [cr_fs, List.set_cons_zero, Nat.add_zero]
    rw [show upd f j v j = v from pk_us, cr_fs_c (f := upd f j v) (g := f) (fun i hi => pk_un (by omega))]
  | some r :: t, j, 0, h => by simp at h
  | none :: t, j, k + 1, h => by
    have := cr_fs_s (base := base) (f := f) (v := v) (sl := t) (j := j + 1) (k := k) (by simpa using h)
    simp only [cr_fs, List.set_cons_succ]
    rw [this, show j + (k + 1) = j + 1 + k by omega, show upd f (j + 1 + k) v j = f j from pk_un (by omega)]
  | some r :: t, j, k + 1, h => by
    have := cr_fs_s (base := base) (f := f) (v := v) (sl := t) (j := j + 1) (k := k) (by simpa using h)
    simp only [cr_fs, List.set_cons_succ]
    rw [this, show j + (k + 1) = j + 1 + k by omega]
theorem cr_fs_n {base : Nat} {f : Nat → Int32} : ∀ {sl : List (Option Nat)} {j : Nat}, (cr_fs base f j sl).length = sl.length
  | [], j => rfl
  | none :: t, j => by simp [cr_fs, cr_fs_n (sl := t)]
  | some r :: t, j => by simp [cr_fs, cr_fs_n (sl := t)]
def cr_E (base : Nat) (cA : Nat → ClassId) (σ : cr_S) (o : Nat) (x : cr_Sh) : va_E := match x with
  | .inl q => .inr (q.1, cr_fs base (σ.1 o) 0 q.2)
  | .inr (.inl q) => .inl (cA q.1, q.2, .inl (σ.2.1 o))
  | .inr (.inr (.inl n)) => .inl (cA 2, n, .inr (.inl (σ.2.2 o)))
  | .inr (.inr (.inr q)) => .inl (cA q.1, q.2.1, .inr (.inr (.inr (.inr (fun i => some (base + q.2.2 i))))))
def cr_L (sf : Nat → cr_Sh) (N base : Nat) (cA : Nat → ClassId) (σ : cr_S) : va_W := (List.range N).map (fun o => (base + o, cr_E base cA σ o (sf o)))
def cr_A (N base : Nat) : Nat → Prop := fun q => base ≤ q ∧ q < base + N
theorem cr_L_at {sf : Nat → cr_Sh} {N base : Nat} {cA : Nat → ClassId} {σ : cr_S} {o : Nat} (h : o < N) : (cr_L sf N base cA σ)[o]? = some (base + o, cr_E base cA σ o (sf o)) := by
  simp [cr_L, h]
theorem cr_L_in {sf : Nat → cr_Sh} {N base : Nat} {cA : Nat → ClassId} {σ : cr_S} {k : Nat} {q : Nat × va_E} (h : (cr_L sf N base cA σ)[k]? = some q) : k < N ∧ q = (base + k, cr_E base cA σ k (sf k)) := by
  by_cases hk : k < N
  · rw [cr_L_at hk] at h
    exact ⟨hk, (Option.some.inj h).symm⟩
  · simp [cr_L, hk] at h
theorem cr_L_D {sf : Nat → cr_Sh} {N base : Nat} {cA : Nat → ClassId} {σ : cr_S} : va_D (cr_A N base) (cr_L sf N base cA σ) := by
  refine ⟨fun i j p q hi hj h => ?_, fun k q hk => ?_⟩
  · obtain ⟨-, rfl⟩ := cr_L_in hi
    obtain ⟨-, rfl⟩ := cr_L_in hj
    exact Nat.add_left_cancel h
  · obtain ⟨h, rfl⟩ := cr_L_in hk
    exact ⟨Nat.le_add_right _ _, Nat.add_lt_add_left h _⟩
theorem cr_L_set {sf : Nat → cr_Sh} {N base : Nat} {cA : Nat → ClassId} {σ σ' : cr_S} {o : Nat} {e : va_E} (ho : o < N) (he : cr_E base cA σ' o (sf o) = e) (hr : ∀ j, j ≠ o → ∀ x, cr_E base cA σ' j x = cr_E base cA σ j x) : (cr_L sf N base cA σ).set o (base + o, e) = cr_L sf N base cA σ' := by
  apply List.ext_getElem?
  intro j
  by_cases hj : j = o
  · subst hj
    rw [cr_L_at ho, he, List.getElem?_set_self (by simpa [cr_L] using ho)]
  · rw [List.getElem?_set_ne (Ne.symm hj)]
    by_cases hN : j < N
    · rw [cr_L_at hN, cr_L_at hN, hr j hj]
    · simp [cr_L, hN]
theorem cr_E_sF {base : Nat} {cA : Nat → ClassId} {σ : cr_S} {o k : Nat} {v : Int32} (j : Nat) (h : j ≠ o) (x : cr_Sh) : cr_E base cA (sF σ o k v) j x = cr_E base cA σ j x := by
  rcases x with q | q | q | q
  · simp only [cr_E, sF, va_up_ne _ _ h]
  · rfl
  · rfl
  · rfl
theorem cr_E_sA {base : Nat} {cA : Nat → ClassId} {σ : cr_S} {o : Nat} {i v : Int32} (j : Nat) (h : j ≠ o) (x : cr_Sh) : cr_E base cA (sA σ o i v) j x = cr_E base cA σ j x := by
  rcases x with q | q | q | q
  · rfl
  · simp only [cr_E, sA, va_up_ne _ _ h]
  · rfl
  · rfl
theorem cr_E_sL {base : Nat} {cA : Nat → ClassId} {σ : cr_S} {o : Nat} {i : Int32} {v : Int64} (j : Nat) (h : j ≠ o) (x : cr_Sh) : cr_E base cA (sL σ o i v) j x = cr_E base cA σ j x := by
  rcases x with q | q | q | q
  · rfl
  · rfl
  · simp only [cr_E, sL, va_up_ne _ _ h]
  · rfl
/-! the words: all of the tables' that are good; those of nest mates apart -/
def cr_T : List Cond := lw_tbl.filter goodWord
def cr_isN : Cond → Bool
  | .methodLinkNest _ _ _ _ => true
  | _ => false
def cr_NW : List Cond := lw_tbl.filter cr_isN
theorem cr_T_mem {w : Cond} (h : w ∈ lw_tbl) (g : goodWord w = true) : w ∈ cr_T := List.mem_filter.mpr ⟨h, g⟩
theorem cr_T_sub {w : Cond} (h : w ∈ cr_T) : w ∈ lw_tbl := (List.mem_filter.mp h).1
theorem cr_good {ws : List Cond} (h : ∀ w ∈ ws, w ∈ cr_T) : GoodIn cr_T ws := fun w hw => ⟨h w hw, good_of_word (List.mem_filter.mp (h w hw)).2⟩
theorem cr_NW_is {w : Cond} (h : w ∈ cr_NW) : ∃ a i x b, w = .methodLinkNest a i x b := by
  have h := (List.mem_filter.mp h).2
  cases w <;> first | exact ⟨_, _, _, _, rfl⟩ | cases h
theorem cr_NW_warm {u U : State} (hW : u.WarmedH U.vm) (h : ∀ w ∈ cr_NW, va_Nw w u) : ∀ w ∈ cr_NW, va_Nw w U := fun w hw => by
  have := h w hw
  obtain ⟨a, i, x, b, rfl⟩ := cr_NW_is hw
  exact va_Nw.warmM hW this
theorem cr_NW_same {u U : State} (e : u.vm = U.vm) (h : ∀ w ∈ cr_NW, va_Nw w u) : ∀ w ∈ cr_NW, va_Nw w U := fun w hw => by
  have := h w hw
  obtain ⟨a, i, x, b, rfl⟩ := cr_NW_is hw
  exact va_Nw.same rfl e this
def cr_tys (cA : Nat → ClassId) : List (ClassId × FieldType) := [(cA 0, .int), (cA 1, .char), (cA 2, .long), (cA 3, .object "ClashRocks$Pair"), (cA 4, .object "ClashRocks$Ship"), (cA 5, .object "ClashRocks$Voyage"), (cA 6, .object "ClashRocks$Row"), (cA 7, .array .int)]
/-! what stays outside the world: the two texts, and how texts are kept -/
def bytS : List (List Int32) := [[112, 115, 116, 102], [80, 84, 66, 76]]
def stB (i : Nat) (j : Int32) : Int32 := (bytS.getD i []).getD j.toNatClampNeg 0
def cr_SF (cA : Nat → ClassId) (A : Nat → Prop) (U : State) : Prop := vk_S 2 [4, 4] bytS (fun i => cA (100 + i)) (fun i => cA (200 + i)) A U U.heap ∧ vk_R "ClashRocks$Tape" 62 "pstf" (cA 100) U ∧ vk_R "ClashRocks$Tape" 79 "PTBL" (cA 101) U ∧ va_Z "java/lang/String" "COMPACT_STRINGS" "Z" (.int 1) A U U.heap
theorem cr_SF_same {cA : Nat → ClassId} {A : Nat → Prop} {u U : State} (hv : U.vm = u.vm) (hh : U.heap = u.heap) (h : cr_SF cA A u) : cr_SF cA A U := by
  obtain ⟨h1, h2, h3, h4⟩ := h
  have ha : u.vm.Alike U.vm := by rw [hv]; exact Vm.Alike.refl u.vm
  exact ⟨by rw [hh]; exact vk_S.moved ha h1, vk_R.same hv h2, vk_R.same hv h3, by rw [hh]; exact va_Z.moved ha h4⟩
theorem cr_SF_go {cA : Nat → ClassId} {A : Nat → Prop} {s U : State} {H : Heap} {locs : List Loc} (hS : va_S A s.heap H locs) (hU : U.heap = H) (hW : s.WarmedH U.vm) (h : cr_SF cA A s) : cr_SF cA A U := by
  obtain ⟨h1, h2, h3, h4⟩ := h
  exact ⟨by rw [hU]; exact vk_S.moved hW.alike (vk_S.kept h1 hS.2.1), vk_R.warm hW h2, vk_R.warm hW h3, by rw [hU]; exact va_Z.moved hW.alike (va_Z.kept h4 hS.2.1)⟩
/-- the world at a state of the machine -/
def cr_H (sf : Nat → cr_Sh) (N base : Nat) (D : va_G) (cA : Nat → ClassId) (σ : cr_S) (U : State) : Prop := va_P D vwCl (cr_L sf N base cA σ) U.heap ∧ va_K D vwCl (cr_tys cA) U ∧ (∀ w ∈ cr_NW, va_Nw w U) ∧ cr_SF cA (cr_A N base) U
def cr_w (y : MethodName) (bytes : ByteArray) (maxL : Nat) (ret : Option FieldType) : List Cond := Cond.code y bytes maxL ret :: cr_T
def cr_Qi (sf : Nat → cr_Sh) (N base : Nat) (D : va_G) (cA : Nat → ClassId) (res : cr_S × Int32) : Array Value → State → Outcome → State → Prop := va_Qi (fun (r : Int32) (_ : Unit) => r = res.2) (fun _ t => va_P D vwCl (cr_L sf N base cA res.1) t.heap) (cr_A N base)
def cr_Ql (sf : Nat → cr_Sh) (N base : Nat) (D : va_G) (cA : Nat → ClassId) (res : cr_S × Int64) : Array Value → State → Outcome → State → Prop := va_Ql (fun (r : Int64) (_ : Unit) => r = res.2) (fun _ t => va_P D vwCl (cr_L sf N base cA res.1) t.heap) (cr_A N base)
def cr_Qv (sf : Nat → cr_Sh) (N base : Nat) (D : va_G) (cA : Nat → ClassId) (res : cr_S) : Array Value → State → Outcome → State → Prop := va_Qv (fun _ : Unit => True) (fun _ t => va_P D vwCl (cr_L sf N base cA res) t.heap) (cr_A N base)
/-- a contract: from the world σ with these arguments -/
def cr_M (l : Launch) (y : MethodName) (bytes : ByteArray) (maxL : Nat) (ret : Option FieldType) (fr lo : Nat) (sf : Nat → cr_Sh) (N base : Nat) (D : va_G) (cA : Nat → ClassId) (av : List Value) (σ : cr_S) (Qc : Array Value → State → Outcome → State → Prop) : Prop :=
  Met l y (cr_w y bytes maxL ret) { frames := fr, cells := 0, slots := 0, locals := lo } (va_Pc av (cr_H sf N base D cA σ)) Qc 0 0 (cr_A N base)
def cr_W (p : Program) (l : Launch) (e : Env) (R : Room) (s : State) (m : MethodId) (args : Array Value) (below : List Frame) (meth : Method) (c : Code) (sf : Nat → cr_Sh) (N base : Nat) (D : va_G) (cA : Nat → ClassId) (nL : Nat) (Q : State → Prop) (σ : cr_S) (pc : Nat) (lv : List (Nat × Value)) (st : List Value) : Prop :=
  ∀ (H : Heap) (locs : List Loc) (ls : Array Slot), va_P D vwCl (cr_L sf N base cA σ) H → va_S (cr_A N base) s.heap H locs → lv_has ls nL lv → W p l e R s m args below meth c H locs 0 0 Q (F0 m pc ls st)
def cr_C (p : Program) (l : Launch) (e : Env) (R : Room) (s : State) (m : MethodId) (args : Array Value) (below : List Frame) (meth : Method) (c : Code) (sf : Nat → cr_Sh) (N base : Nat) (D : va_G) (cA : Nat → ClassId) (cc : ByteArray) (nL : Nat) (own : String) : Prop :=
  p.tables.exec = Jvm.exec ∧ c.code = cc ∧ c.maxLocals = nL ∧ s.vm.findClass own = some m.cls ∧ (∀ w ∈ cr_T, w.before args s = true) ∧ (∀ w ∈ cr_NW, va_Nw w s) ∧ va_K D vwCl (cr_tys cA) s ∧ meth.locks = false ∧ cr_SF cA (cr_A N base) s
section
variable {p : Program} {l : Launch} {e : Env} {R : Room} {s : State} {m : MethodId} {args : Array Value} {below : List Frame} {meth : Method} {c : Code} {sf : Nat → cr_Sh} {N base : Nat} {D : va_G} {cA : Nat → ClassId} {cc : ByteArray} {nL : Nat} {own : String} {Q : State → Prop} {σ : cr_S} {pc pc' : Nat} {lv lv' : List (Nat × Value)} {st : List Value}
theorem g_iconst (C : cr_C p l e R s m args below meth c sf N base D cA cc nL own) {n : Int} {v : Int32} (hd : decode cc pc = .ok (.iconst n, 1)) (hv : Int32.ofInt n = v) (hp : pc + 1 = pc') (k : cr_W p l e R s m args below meth c sf N base D cA nL Q σ pc' lv (.int v :: st)) : cr_W p l e R s m args below meth c sf N base D cA nL Q σ pc lv (st) := by
  subst hp
  intro H locs ls hP hS hl
  exact lv_iconst C.1 C.2.1 hd hv (k H locs ls hP hS hl)
theorem g_bipush (C : cr_C p l e R s m args below meth c sf N base D cA cc nL own) {n : Int} {v : Int32} (hd : decode cc pc = .ok (.bipush n, 2)) (hv : (Int8.ofInt n).toInt32 = v) (hp : pc + 2 = pc') (k : cr_W p l e R s m args below meth c sf N base D cA nL Q σ pc' lv (.int v :: st)) : cr_W p l e R s m args below meth c sf N base D cA nL Q σ pc lv (st) := by
  subst hp
  intro H locs ls hP hS hl
  exact lv_bipush C.1 C.2.1 hd hv (k H locs ls hP hS hl)
theorem g_sipush (C : cr_C p l e R s m args below meth c sf N base D cA cc nL own) {n : Int} {v : Int32} (hd : decode cc pc = .ok (.sipush n, 3)) (hv : (Int16.ofInt n).toInt32 = v) (hp : pc + 3 = pc') (k : cr_W p l e R s m args below meth c sf N base D cA nL Q σ pc' lv (.int v :: st)) : cr_W p l e R s m args below meth c sf N base D cA nL Q σ pc lv (st) := by
  subst hp
  intro H locs ls hP hS hl
  exact lv_sipush C.1 C.2.1 hd hv (k H locs ls hP hS hl)
theorem g_lconst (C : cr_C p l e R s m args below meth c sf N base D cA cc nL own) {n : Fin 2} {v : Int64} (hd : decode cc pc = .ok (.lconst n, 1)) (hv : Int64.ofNat (n : Nat) = v) (hp : pc + 1 = pc') (k : cr_W p l e R s m args below meth c sf N base D cA nL Q σ pc' lv (.long v :: st)) : cr_W p l e R s m args below meth c sf N base D cA nL Q σ pc lv (st) := by
  subst hp
  intro H locs ls hP hS hl
  exact lv_lconst C.1 C.2.1 hd hv (k H locs ls hP hS hl)
theorem g_ldc (C : cr_C p l e R s m args below meth c sf N base D cA cc nL own) {index : Nat} {v : Int32} (hd : decode cc pc = .ok (.ldc index, 2)) (hw : Cond.constant own index v ∈ cr_T) (hp : pc + 2 = pc') (k : cr_W p l e R s m args below meth c sf N base D cA nL Q σ pc' lv (.int v :: st)) : cr_W p l e R s m args below meth c sf N base D cA nL Q σ pc lv (st) := by
  subst hp
  intro H locs ls hP hS hl
  exact lv_ldc C.1 C.2.1 C.2.2.2.1 (C.2.2.2.2.1 _ hw) hd (k H locs ls hP hS hl)
theorem g_ldcw (C : cr_C p l e R s m args below meth c sf N base D cA cc nL own) {index : Nat} {v : Int32} (hd : decode cc pc = .ok (.ldc_w index, 3)) (hw : Cond.constant own index v ∈ cr_T) (hp : pc + 3 = pc') (k : cr_W p l e R s m args below meth c sf N base D cA nL Q σ pc' lv (.int v :: st)) : cr_W p l e R s m args below meth c sf N base D cA nL Q σ pc lv (st) := by
  subst hp
  intro H locs ls hP hS hl
  exact lv_ldcw C.1 C.2.1 C.2.2.2.1 (C.2.2.2.2.1 _ hw) hd (k H locs ls hP hS hl)
theorem g_ldc2 (C : cr_C p l e R s m args below meth c sf N base D cA cc nL own) {index : Nat} {v : Int64} (hd : decode cc pc = .ok (.ldc2_w index, 3)) (hw : Cond.constantLong own index v ∈ cr_T) (hp : pc + 3 = pc') (k : cr_W p l e R s m args below meth c sf N base D cA nL Q σ pc' lv (.long v :: st)) : cr_W p l e R s m args below meth c sf N base D cA nL Q σ pc lv (st) := by
  subst hp
  intro H locs ls hP hS hl
  exact lv_ldc2 C.1 C.2.1 C.2.2.2.1 (C.2.2.2.2.1 _ hw) hd (k H locs ls hP hS hl)
theorem g_iadd (C : cr_C p l e R s m args below meth c sf N base D cA cc nL own) {x y : Int32} (hd : decode cc pc = .ok (.iadd, 1))  (hp : pc + 1 = pc') (k : cr_W p l e R s m args below meth c sf N base D cA nL Q σ pc' lv (.int (x + y) :: st)) : cr_W p l e R s m args below meth c sf N base D cA nL Q σ pc lv (.int y :: .int x :: st) := by
  subst hp
  intro H locs ls hP hS hl
  exact lv_iadd C.1 C.2.1 hd (k H locs ls hP hS hl)
theorem g_isub (C : cr_C p l e R s m args below meth c sf N base D cA cc nL own) {x y : Int32} (hd : decode cc pc = .ok (.isub, 1))  (hp : pc + 1 = pc') (k : cr_W p l e R s m args below meth c sf N base D cA nL Q σ pc' lv (.int (x - y) :: st)) : cr_W p l e R s m args below meth c sf N base D cA nL Q σ pc lv (.int y :: .int x :: st) := by
  subst hp
  intro H locs ls hP hS hl
  exact lv_isub C.1 C.2.1 hd (k H locs ls hP hS hl)
theorem g_imul (C : cr_C p l e R s m args below meth c sf N base D cA cc nL own) {x y : Int32} (hd : decode cc pc = .ok (.imul, 1))  (hp : pc + 1 = pc') (k : cr_W p l e R s m args below meth c sf N base D cA nL Q σ pc' lv (.int (x * y) :: st)) : cr_W p l e R s m args below meth c sf N base D cA nL Q σ pc lv (.int y :: .int x :: st) := by
  subst hp
  intro H locs ls hP hS hl
  exact lv_imul C.1 C.2.1 hd (k H locs ls hP hS hl)
theorem g_iand (C : cr_C p l e R s m args below meth c sf N base D cA cc nL own) {x y : Int32} (hd : decode cc pc = .ok (.iand, 1))  (hp : pc + 1 = pc') (k : cr_W p l e R s m args below meth c sf N base D cA nL Q σ pc' lv (.int (x &&& y) :: st)) : cr_W p l e R s m args below meth c sf N base D cA nL Q σ pc lv (.int y :: .int x :: st) := by
  subst hp
  intro H locs ls hP hS hl
  exact lv_iand C.1 C.2.1 hd (k H locs ls hP hS hl)
theorem g_ior (C : cr_C p l e R s m args below meth c sf N base D cA cc nL own) {x y : Int32} (hd : decode cc pc = .ok (.ior, 1))  (hp : pc + 1 = pc') (k : cr_W p l e R s m args below meth c sf N base D cA nL Q σ pc' lv (.int (x ||| y) :: st)) : cr_W p l e R s m args below meth c sf N base D cA nL Q σ pc lv (.int y :: .int x :: st) := by
  subst hp
  intro H locs ls hP hS hl
  exact lv_ior C.1 C.2.1 hd (k H locs ls hP hS hl)
theorem g_ixor (C : cr_C p l e R s m args below meth c sf N base D cA cc nL own) {x y : Int32} (hd : decode cc pc = .ok (.ixor, 1))  (hp : pc + 1 = pc') (k : cr_W p l e R s m args below meth c sf N base D cA nL Q σ pc' lv (.int (x ^^^ y) :: st)) : cr_W p l e R s m args below meth c sf N base D cA nL Q σ pc lv (.int y :: .int x :: st) := by
  subst hp
  intro H locs ls hP hS hl
  exact lv_ixor C.1 C.2.1 hd (k H locs ls hP hS hl)
theorem g_ishl (C : cr_C p l e R s m args below meth c sf N base D cA cc nL own) {x y : Int32} (hd : decode cc pc = .ok (.ishl, 1))  (hp : pc + 1 = pc') (k : cr_W p l e R s m args below meth c sf N base D cA nL Q σ pc' lv (.int (x <<< (y &&& 31)) :: st)) : cr_W p l e R s m args below meth c sf N base D cA nL Q σ pc lv (.int y :: .int x :: st) := by
  subst hp
  intro H locs ls hP hS hl
  exact lv_ishl C.1 C.2.1 hd (k H locs ls hP hS hl)
theorem g_ishr (C : cr_C p l e R s m args below meth c sf N base D cA cc nL own) {x y : Int32} (hd : decode cc pc = .ok (.ishr, 1))  (hp : pc + 1 = pc') (k : cr_W p l e R s m args below meth c sf N base D cA nL Q σ pc' lv (.int (x >>> (y &&& 31)) :: st)) : cr_W p l e R s m args below meth c sf N base D cA nL Q σ pc lv (.int y :: .int x :: st) := by
  subst hp
  intro H locs ls hP hS hl
  exact lv_ishr C.1 C.2.1 hd (k H locs ls hP hS hl)
theorem g_idiv (C : cr_C p l e R s m args below meth c sf N base D cA cc nL own) {x y : Int32} (hd : decode cc pc = .ok (.idiv, 1)) (hne : ¬ y = 0) (hp : pc + 1 = pc') (k : cr_W p l e R s m args below meth c sf N base D cA nL Q σ pc' lv (.int (x / y) :: st)) : cr_W p l e R s m args below meth c sf N base D cA nL Q σ pc lv (.int y :: .int x :: st) := by
  subst hp
  intro H locs ls hP hS hl
  exact lv_idiv C.1 C.2.1 hd hne (k H locs ls hP hS hl)
theorem g_irem (C : cr_C p l e R s m args below meth c sf N base D cA cc nL own) {x y : Int32} (hd : decode cc pc = .ok (.irem, 1)) (hne : ¬ y = 0) (hp : pc + 1 = pc') (k : cr_W p l e R s m args below meth c sf N base D cA nL Q σ pc' lv (.int (x - x / y * y) :: st)) : cr_W p l e R s m args below meth c sf N base D cA nL Q σ pc lv (.int y :: .int x :: st) := by
  subst hp
  intro H locs ls hP hS hl
  exact lv_irem C.1 C.2.1 hd hne (k H locs ls hP hS hl)
theorem g_ineg (C : cr_C p l e R s m args below meth c sf N base D cA cc nL own) {x : Int32} (hd : decode cc pc = .ok (.ineg, 1))  (hp : pc + 1 = pc') (k : cr_W p l e R s m args below meth c sf N base D cA nL Q σ pc' lv (.int (-x) :: st)) : cr_W p l e R s m args below meth c sf N base D cA nL Q σ pc lv (.int x :: st) := by
  subst hp
  intro H locs ls hP hS hl
  exact lv_ineg C.1 C.2.1 hd (k H locs ls hP hS hl)
theorem g_iushr (C : cr_C p l e R s m args below meth c sf N base D cA cc nL own) {x y : Int32} (hd : decode cc pc = .ok (.iushr, 1))  (hp : pc + 1 = pc') (k : cr_W p l e R s m args below meth c sf N base D cA nL Q σ pc' lv (.int ((x.toUInt32 >>> (y.toUInt32 &&& Int32.toUInt32 31)).toInt32) :: st)) : cr_W p l e R s m args below meth c sf N base D cA nL Q σ pc lv (.int y :: .int x :: st) := by
  subst hp
  intro H locs ls hP hS hl
  exact lv_iushr C.1 C.2.1 hd rfl (k H locs ls hP hS hl)
theorem g_i2l (C : cr_C p l e R s m args below meth c sf N base D cA cc nL own) {x : Int32} (hd : decode cc pc = .ok (.i2l, 1))  (hp : pc + 1 = pc') (k : cr_W p l e R s m args below meth c sf N base D cA nL Q σ pc' lv (.long x.toInt64 :: st)) : cr_W p l e R s m args below meth c sf N base D cA nL Q σ pc lv (.int x :: st) := by
  subst hp
  intro H locs ls hP hS hl
  exact lv_i2l C.1 C.2.1 hd rfl (k H locs ls hP hS hl)
theorem g_l2i (C : cr_C p l e R s m args below meth c sf N base D cA cc nL own) {x : Int64} (hd : decode cc pc = .ok (.l2i, 1))  (hp : pc + 1 = pc') (k : cr_W p l e R s m args below meth c sf N base D cA nL Q σ pc' lv (.int x.toInt32 :: st)) : cr_W p l e R s m args below meth c sf N base D cA nL Q σ pc lv (.long x :: st) := by
  subst hp
  intro H locs ls hP hS hl
  exact lv_l2i C.1 C.2.1 hd rfl (k H locs ls hP hS hl)
theorem g_i2b (C : cr_C p l e R s m args below meth c sf N base D cA cc nL own) {x : Int32} (hd : decode cc pc = .ok (.i2b, 1))  (hp : pc + 1 = pc') (k : cr_W p l e R s m args below meth c sf N base D cA nL Q σ pc' lv (.int x.toInt8.toInt32 :: st)) : cr_W p l e R s m args below meth c sf N base D cA nL Q σ pc lv (.int x :: st) := by
  subst hp
  intro H locs ls hP hS hl
  exact lv_i2b C.1 C.2.1 hd rfl (k H locs ls hP hS hl)
theorem g_i2s (C : cr_C p l e R s m args below meth c sf N base D cA cc nL own) {x : Int32} (hd : decode cc pc = .ok (.i2s, 1))  (hp : pc + 1 = pc') (k : cr_W p l e R s m args below meth c sf N base D cA nL Q σ pc' lv (.int x.toInt16.toInt32 :: st)) : cr_W p l e R s m args below meth c sf N base D cA nL Q σ pc lv (.int x :: st) := by
  subst hp
  intro H locs ls hP hS hl
  exact lv_i2s C.1 C.2.1 hd rfl (k H locs ls hP hS hl)
theorem g_i2c (C : cr_C p l e R s m args below meth c sf N base D cA cc nL own) {x : Int32} (hd : decode cc pc = .ok (.i2c, 1))  (hp : pc + 1 = pc') (k : cr_W p l e R s m args below meth c sf N base D cA nL Q σ pc' lv (.int ((x.toUInt32 % 65536).toInt32) :: st)) : cr_W p l e R s m args below meth c sf N base D cA nL Q σ pc lv (.int x :: st) := by
  subst hp
  intro H locs ls hP hS hl
  exact lv_i2c C.1 C.2.1 hd rfl (k H locs ls hP hS hl)
theorem g_ladd (C : cr_C p l e R s m args below meth c sf N base D cA cc nL own) {x y : Int64} (hd : decode cc pc = .ok (.ladd, 1))  (hp : pc + 1 = pc') (k : cr_W p l e R s m args below meth c sf N base D cA nL Q σ pc' lv (.long (x + y) :: st)) : cr_W p l e R s m args below meth c sf N base D cA nL Q σ pc lv (.long y :: .long x :: st) := by
  subst hp
  intro H locs ls hP hS hl
  exact lv_ladd C.1 C.2.1 hd (k H locs ls hP hS hl)
theorem g_land (C : cr_C p l e R s m args below meth c sf N base D cA cc nL own) {x y : Int64} (hd : decode cc pc = .ok (.land, 1))  (hp : pc + 1 = pc') (k : cr_W p l e R s m args below meth c sf N base D cA nL Q σ pc' lv (.long (x &&& y) :: st)) : cr_W p l e R s m args below meth c sf N base D cA nL Q σ pc lv (.long y :: .long x :: st) := by
  subst hp
  intro H locs ls hP hS hl
  exact lv_land C.1 C.2.1 hd (k H locs ls hP hS hl)
theorem g_lor (C : cr_C p l e R s m args below meth c sf N base D cA cc nL own) {x y : Int64} (hd : decode cc pc = .ok (.lor, 1))  (hp : pc + 1 = pc') (k : cr_W p l e R s m args below meth c sf N base D cA nL Q σ pc' lv (.long (x ||| y) :: st)) : cr_W p l e R s m args below meth c sf N base D cA nL Q σ pc lv (.long y :: .long x :: st) := by
  subst hp
  intro H locs ls hP hS hl
  exact lv_lor C.1 C.2.1 hd (k H locs ls hP hS hl)
theorem g_lshl (C : cr_C p l e R s m args below meth c sf N base D cA cc nL own) {x : Int64} {y : Int32} (hd : decode cc pc = .ok (.lshl, 1))  (hp : pc + 1 = pc') (k : cr_W p l e R s m args below meth c sf N base D cA nL Q σ pc' lv (.long (x <<< (y.toInt64 &&& 63)) :: st)) : cr_W p l e R s m args below meth c sf N base D cA nL Q σ pc lv (.int y :: .long x :: st) := by
  subst hp
  intro H locs ls hP hS hl
  exact lv_lshl C.1 C.2.1 hd rfl (k H locs ls hP hS hl)
theorem g_lcmp (C : cr_C p l e R s m args below meth c sf N base D cA cc nL own) {x y : Int64} (hd : decode cc pc = .ok (.lcmp, 1))  (hp : pc + 1 = pc') (k : cr_W p l e R s m args below meth c sf N base D cA nL Q σ pc' lv (.int (lg_cmp x y) :: st)) : cr_W p l e R s m args below meth c sf N base D cA nL Q σ pc lv (.long y :: .long x :: st) := by
  subst hp
  intro H locs ls hP hS hl
  exact W.lcmp C.1 C.2.1 hd (k H locs ls hP hS hl)
theorem g_dup (C : cr_C p l e R s m args below meth c sf N base D cA cc nL own) {va : Value} (hd : decode cc pc = .ok (.dup, 1)) (hc : va.category = 1) (hp : pc + 1 = pc') (k : cr_W p l e R s m args below meth c sf N base D cA nL Q σ pc' lv (va :: va :: st)) : cr_W p l e R s m args below meth c sf N base D cA nL Q σ pc lv (va :: st) := by
  subst hp
  intro H locs ls hP hS hl
  exact lv_dup C.1 C.2.1 hd hc (k H locs ls hP hS hl)
theorem g_pop (C : cr_C p l e R s m args below meth c sf N base D cA cc nL own) {va : Value} (hd : decode cc pc = .ok (.pop, 1)) (hc : va.category = 1) (hp : pc + 1 = pc') (k : cr_W p l e R s m args below meth c sf N base D cA nL Q σ pc' lv (st)) : cr_W p l e R s m args below meth c sf N base D cA nL Q σ pc lv (va :: st) := by
  subst hp
  intro H locs ls hP hS hl
  exact lv_pop C.1 C.2.1 hd hc (k H locs ls hP hS hl)
theorem g_dup_x1 (C : cr_C p l e R s m args below meth c sf N base D cA cc nL own) {va vb : Value} (hd : decode cc pc = .ok (.dup_x1, 1)) (hc : va.category = 1) (hc2 : vb.category = 1) (hp : pc + 1 = pc') (k : cr_W p l e R s m args below meth c sf N base D cA nL Q σ pc' lv (va :: vb :: va :: st)) : cr_W p l e R s m args below meth c sf N base D cA nL Q σ pc lv (va :: vb :: st) := by
  subst hp
  intro H locs ls hP hS hl
  exact lv_dup_x1 C.1 C.2.1 hd hc hc2 (k H locs ls hP hS hl)
theorem g_dup2 (C : cr_C p l e R s m args below meth c sf N base D cA cc nL own) {va vb : Value} (hd : decode cc pc = .ok (.dup2, 1)) (hc : va.category = 1) (hc2 : vb.category = 1) (hp : pc + 1 = pc') (k : cr_W p l e R s m args below meth c sf N base D cA nL Q σ pc' lv (va :: vb :: va :: vb :: st)) : cr_W p l e R s m args below meth c sf N base D cA nL Q σ pc lv (va :: vb :: st) := by
  subst hp
  intro H locs ls hP hS hl
  exact lv_dup2_11 C.1 C.2.1 hd hc hc2 (k H locs ls hP hS hl)
theorem g_iload (C : cr_C p l e R s m args below meth c sf N base D cA cc nL own) {i : Nat} {x : Int32} (hd : decode cc pc = .ok (.iload i, 2)) (n : Nat) (hk : lv[n]? = some (i, .int x)) (hp : pc + 2 = pc') (k : cr_W p l e R s m args below meth c sf N base D cA nL Q σ pc' lv (.int x :: st)) : cr_W p l e R s m args below meth c sf N base D cA nL Q σ pc lv (st) := by
  subst hp
  intro H locs ls hP hS hl
  exact lv_iload C.1 C.2.1 hd (lv_at hl n hk) (k H locs ls hP hS hl)
theorem g_iload_n (C : cr_C p l e R s m args below meth c sf N base D cA cc nL own) {j : Fin 4} {x : Int32} (hd : decode cc pc = .ok (.iload_n j, 1)) (n : Nat) (hk : lv[n]? = some ((j : Nat), .int x)) (hp : pc + 1 = pc') (k : cr_W p l e R s m args below meth c sf N base D cA nL Q σ pc' lv (.int x :: st)) : cr_W p l e R s m args below meth c sf N base D cA nL Q σ pc lv (st) := by
  subst hp
  intro H locs ls hP hS hl
  exact lv_iload_n C.1 C.2.1 hd rfl (lv_at hl n hk) (k H locs ls hP hS hl)
theorem g_lload (C : cr_C p l e R s m args below meth c sf N base D cA cc nL own) {i : Nat} {x : Int64} (hd : decode cc pc = .ok (.lload i, 2)) (n : Nat) (hk : lv[n]? = some (i, .long x)) (hp : pc + 2 = pc') (k : cr_W p l e R s m args below meth c sf N base D cA nL Q σ pc' lv (.long x :: st)) : cr_W p l e R s m args below meth c sf N base D cA nL Q σ pc lv (st) := by
  subst hp
  intro H locs ls hP hS hl
  exact lv_lload C.1 C.2.1 hd (lv_at hl n hk) (k H locs ls hP hS hl)
theorem g_lload_n (C : cr_C p l e R s m args below meth c sf N base D cA cc nL own) {j : Fin 4} {x : Int64} (hd : decode cc pc = .ok (.lload_n j, 1)) (n : Nat) (hk : lv[n]? = some ((j : Nat), .long x)) (hp : pc + 1 = pc') (k : cr_W p l e R s m args below meth c sf N base D cA nL Q σ pc' lv (.long x :: st)) : cr_W p l e R s m args below meth c sf N base D cA nL Q σ pc lv (st) := by
  subst hp
  intro H locs ls hP hS hl
  exact lv_lload_n C.1 C.2.1 hd rfl (lv_at hl n hk) (k H locs ls hP hS hl)
theorem g_aload (C : cr_C p l e R s m args below meth c sf N base D cA cc nL own) {i : Nat} {x : Nat} (hd : decode cc pc = .ok (.aload i, 2)) (n : Nat) (hk : lv[n]? = some (i, .ref x)) (hp : pc + 2 = pc') (k : cr_W p l e R s m args below meth c sf N base D cA nL Q σ pc' lv (.ref x :: st)) : cr_W p l e R s m args below meth c sf N base D cA nL Q σ pc lv (st) := by
  subst hp
  intro H locs ls hP hS hl
  exact lv_aload C.1 C.2.1 hd (lv_at hl n hk) (k H locs ls hP hS hl)
theorem g_aload_n (C : cr_C p l e R s m args below meth c sf N base D cA cc nL own) {j : Fin 4} {x : Nat} (hd : decode cc pc = .ok (.aload_n j, 1)) (n : Nat) (hk : lv[n]? = some ((j : Nat), .ref x)) (hp : pc + 1 = pc') (k : cr_W p l e R s m args below meth c sf N base D cA nL Q σ pc' lv (.ref x :: st)) : cr_W p l e R s m args below meth c sf N base D cA nL Q σ pc lv (st) := by
  subst hp
  intro H locs ls hP hS hl
  exact lv_aload_n C.1 C.2.1 hd rfl (lv_at hl n hk) (k H locs ls hP hS hl)
theorem g_istore (C : cr_C p l e R s m args below meth c sf N base D cA cc nL own) {i : Nat} {x : Int32} (hd : decode cc pc = .ok (.istore i, 2))  (hn : i < nL) (hv : (i, Value.int x) :: lv.filter (fun q => !(q.1 == i) && !(q.1 + 1 == i && q.2.category == 2)) = lv') (hp : pc + 2 = pc') (k : cr_W p l e R s m args below meth c sf N base D cA nL Q σ pc' lv' st) : cr_W p l e R s m args below meth c sf N base D cA nL Q σ pc lv (Value.int x :: st) := by
  subst hp
  intro H locs ls hP hS hl
  exact lv_istore C.1 C.2.1 hd hl hn hv (fun ls' hl' => k H locs ls' hP hS hl')
theorem g_istore_n (C : cr_C p l e R s m args below meth c sf N base D cA cc nL own) {j : Fin 4} {i : Nat} {x : Int32} (hd : decode cc pc = .ok (.istore_n j, 1)) (hi : (j : Nat) = i) (hn : i < nL) (hv : (i, Value.int x) :: lv.filter (fun q => !(q.1 == i) && !(q.1 + 1 == i && q.2.category == 2)) = lv') (hp : pc + 1 = pc') (k : cr_W p l e R s m args below meth c sf N base D cA nL Q σ pc' lv' st) : cr_W p l e R s m args below meth c sf N base D cA nL Q σ pc lv (Value.int x :: st) := by
  subst hp
  intro H locs ls hP hS hl
  exact lv_istore_n C.1 C.2.1 hd hi hl hn hv (fun ls' hl' => k H locs ls' hP hS hl')
theorem g_lstore (C : cr_C p l e R s m args below meth c sf N base D cA cc nL own) {i : Nat} {x : Int64} (hd : decode cc pc = .ok (.lstore i, 2))  (hn : i + 1 < nL) (hv : (i, Value.long x) :: lv.filter (fun q => !(q.1 == i) && (!(q.1 == i + 1) && !(q.1 + 1 == i && q.2.category == 2))) = lv') (hp : pc + 2 = pc') (k : cr_W p l e R s m args below meth c sf N base D cA nL Q σ pc' lv' st) : cr_W p l e R s m args below meth c sf N base D cA nL Q σ pc lv (Value.long x :: st) := by
  subst hp
  intro H locs ls hP hS hl
  exact lv_lstore C.1 C.2.1 hd hl hn hv (fun ls' hl' => k H locs ls' hP hS hl')
theorem g_lstore_n (C : cr_C p l e R s m args below meth c sf N base D cA cc nL own) {j : Fin 4} {i : Nat} {x : Int64} (hd : decode cc pc = .ok (.lstore_n j, 1)) (hi : (j : Nat) = i) (hn : i + 1 < nL) (hv : (i, Value.long x) :: lv.filter (fun q => !(q.1 == i) && (!(q.1 == i + 1) && !(q.1 + 1 == i && q.2.category == 2))) = lv') (hp : pc + 1 = pc') (k : cr_W p l e R s m args below meth c sf N base D cA nL Q σ pc' lv' st) : cr_W p l e R s m args below meth c sf N base D cA nL Q σ pc lv (Value.long x :: st) := by
  subst hp
  intro H locs ls hP hS hl
  exact lv_lstore_n C.1 C.2.1 hd hi hl hn hv (fun ls' hl' => k H locs ls' hP hS hl')
theorem g_astore (C : cr_C p l e R s m args below meth c sf N base D cA cc nL own) {i : Nat} {x : Nat} (hd : decode cc pc = .ok (.astore i, 2))  (hn : i < nL) (hv : (i, Value.ref x) :: lv.filter (fun q => !(q.1 == i) && !(q.1 + 1 == i && q.2.category == 2)) = lv') (hp : pc + 2 = pc') (k : cr_W p l e R s m args below meth c sf N base D cA nL Q σ pc' lv' st) : cr_W p l e R s m args below meth c sf N base D cA nL Q σ pc lv (Value.ref x :: st) := by
  subst hp
  intro H locs ls hP hS hl
  exact lv_astore C.1 C.2.1 hd hl hn hv (fun ls' hl' => k H locs ls' hP hS hl')
theorem g_astore_n (C : cr_C p l e R s m args below meth c sf N base D cA cc nL own) {j : Fin 4} {i : Nat} {x : Nat} (hd : decode cc pc = .ok (.astore_n j, 1)) (hi : (j : Nat) = i) (hn : i < nL) (hv : (i, Value.ref x) :: lv.filter (fun q => !(q.1 == i) && !(q.1 + 1 == i && q.2.category == 2)) = lv') (hp : pc + 1 = pc') (k : cr_W p l e R s m args below meth c sf N base D cA nL Q σ pc' lv' st) : cr_W p l e R s m args below meth c sf N base D cA nL Q σ pc lv (Value.ref x :: st) := by
  subst hp
  intro H locs ls hP hS hl
  exact lv_astore_n C.1 C.2.1 hd hi hl hn hv (fun ls' hl' => k H locs ls' hP hS hl')
theorem g_iinc (C : cr_C p l e R s m args below meth c sf N base D cA cc nL own) {i : Nat} {d : Int} {x v : Int32} (hd : decode cc pc = .ok (.iinc i d, 3)) (n : Nat) (hk : lv[n]? = some (i, .int x)) (hw : x + Int32.ofInt d = v) (hn : i < nL) (hv : (i, Value.int v) :: lv.filter (fun q => !(q.1 == i) && !(q.1 + 1 == i && q.2.category == 2)) = lv') (hp : pc + 3 = pc') (k : cr_W p l e R s m args below meth c sf N base D cA nL Q σ pc' lv' st) : cr_W p l e R s m args below meth c sf N base D cA nL Q σ pc lv st := by
  subst hp
  intro H locs ls hP hS hl
  exact lv_iinc C.1 C.2.1 hd hl hk hw hn hv (fun ls' hl' => k H locs ls' hP hS hl')
theorem g_if_eq (C : cr_C p l e R s m args below meth c sf N base D cA cc nL own) {x : Int32} {off : Int} {tgt : Nat} (hd : decode cc pc = .ok (.ifCond .eq off, 3)) (ht : (pc : Int) + off = (tgt : Int)) (hp : pc + 3 = pc') (kt : x = 0 → cr_W p l e R s m args below meth c sf N base D cA nL Q σ tgt lv st) (kf : ¬ x = 0 → cr_W p l e R s m args below meth c sf N base D cA nL Q σ pc' lv st) : cr_W p l e R s m args below meth c sf N base D cA nL Q σ pc lv (.int x :: st) := by
  subst hp
  intro H locs ls hP hS hl
  exact lv_if_eq C.1 C.2.1 hd ht (fun q => kt q H locs ls hP hS hl) (fun q => kf q H locs ls hP hS hl)
theorem g_icmp_eq (C : cr_C p l e R s m args below meth c sf N base D cA cc nL own) {x y : Int32} {off : Int} {tgt : Nat} (hd : decode cc pc = .ok (.if_icmp .eq off, 3)) (ht : (pc : Int) + off = (tgt : Int)) (hp : pc + 3 = pc') (kt : x = y → cr_W p l e R s m args below meth c sf N base D cA nL Q σ tgt lv st) (kf : ¬ x = y → cr_W p l e R s m args below meth c sf N base D cA nL Q σ pc' lv st) : cr_W p l e R s m args below meth c sf N base D cA nL Q σ pc lv (.int y :: .int x :: st) := by
  subst hp
  intro H locs ls hP hS hl
  exact lv_icmp_eq C.1 C.2.1 hd ht (fun q => kt q H locs ls hP hS hl) (fun q => kf q H locs ls hP hS hl)
theorem g_if_ne (C : cr_C p l e R s m args below meth c sf N base D cA cc nL own) {x : Int32} {off : Int} {tgt : Nat} (hd : decode cc pc = .ok (.ifCond .ne off, 3)) (ht : (pc : Int) + off = (tgt : Int)) (hp : pc + 3 = pc') (kt : ¬ x = 0 → cr_W p l e R s m args below meth c sf N base D cA nL Q σ tgt lv st) (kf : x = 0 → cr_W p l e R s m args below meth c sf N base D cA nL Q σ pc' lv st) : cr_W p l e R s m args below meth c sf N base D cA nL Q σ pc lv (.int x :: st) := by
  subst hp
  intro H locs ls hP hS hl
  exact lv_if_ne C.1 C.2.1 hd ht (fun q => kt q H locs ls hP hS hl) (fun q => kf q H locs ls hP hS hl)
theorem g_icmp_ne (C : cr_C p l e R s m args below meth c sf N base D cA cc nL own) {x y : Int32} {off : Int} {tgt : Nat} (hd : decode cc pc = .ok (.if_icmp .ne off, 3)) (ht : (pc : Int) + off = (tgt : Int)) (hp : pc + 3 = pc') (kt : ¬ x = y → cr_W p l e R s m args below meth c sf N base D cA nL Q σ tgt lv st) (kf : x = y → cr_W p l e R s m args below meth c sf N base D cA nL Q σ pc' lv st) : cr_W p l e R s m args below meth c sf N base D cA nL Q σ pc lv (.int y :: .int x :: st) := by
  subst hp
  intro H locs ls hP hS hl
  exact lv_icmp_ne C.1 C.2.1 hd ht (fun q => kt q H locs ls hP hS hl) (fun q => kf q H locs ls hP hS hl)
theorem g_if_lt (C : cr_C p l e R s m args below meth c sf N base D cA cc nL own) {x : Int32} {off : Int} {tgt : Nat} (hd : decode cc pc = .ok (.ifCond .lt off, 3)) (ht : (pc : Int) + off = (tgt : Int)) (hp : pc + 3 = pc') (kt : x < 0 → cr_W p l e R s m args below meth c sf N base D cA nL Q σ tgt lv st) (kf : ¬ x < 0 → cr_W p l e R s m args below meth c sf N base D cA nL Q σ pc' lv st) : cr_W p l e R s m args below meth c sf N base D cA nL Q σ pc lv (.int x :: st) := by
  subst hp
  intro H locs ls hP hS hl
  exact lv_if_lt C.1 C.2.1 hd ht (fun q => kt q H locs ls hP hS hl) (fun q => kf q H locs ls hP hS hl)
theorem g_icmp_lt (C : cr_C p l e R s m args below meth c sf N base D cA cc nL own) {x y : Int32} {off : Int} {tgt : Nat} (hd : decode cc pc = .ok (.if_icmp .lt off, 3)) (ht : (pc : Int) + off = (tgt : Int)) (hp : pc + 3 = pc') (kt : x < y → cr_W p l e R s m args below meth c sf N base D cA nL Q σ tgt lv st) (kf : ¬ x < y → cr_W p l e R s m args below meth c sf N base D cA nL Q σ pc' lv st) : cr_W p l e R s m args below meth c sf N base D cA nL Q σ pc lv (.int y :: .int x :: st) := by
  subst hp
  intro H locs ls hP hS hl
  exact lv_icmp_lt C.1 C.2.1 hd ht (fun q => kt q H locs ls hP hS hl) (fun q => kf q H locs ls hP hS hl)
theorem g_if_ge (C : cr_C p l e R s m args below meth c sf N base D cA cc nL own) {x : Int32} {off : Int} {tgt : Nat} (hd : decode cc pc = .ok (.ifCond .ge off, 3)) (ht : (pc : Int) + off = (tgt : Int)) (hp : pc + 3 = pc') (kt : 0 ≤ x → cr_W p l e R s m args below meth c sf N base D cA nL Q σ tgt lv st) (kf : ¬ 0 ≤ x → cr_W p l e R s m args below meth c sf N base D cA nL Q σ pc' lv st) : cr_W p l e R s m args below meth c sf N base D cA nL Q σ pc lv (.int x :: st) := by
  subst hp
  intro H locs ls hP hS hl
  exact lv_if_ge C.1 C.2.1 hd ht (fun q => kt q H locs ls hP hS hl) (fun q => kf q H locs ls hP hS hl)
theorem g_icmp_ge (C : cr_C p l e R s m args below meth c sf N base D cA cc nL own) {x y : Int32} {off : Int} {tgt : Nat} (hd : decode cc pc = .ok (.if_icmp .ge off, 3)) (ht : (pc : Int) + off = (tgt : Int)) (hp : pc + 3 = pc') (kt : y ≤ x → cr_W p l e R s m args below meth c sf N base D cA nL Q σ tgt lv st) (kf : ¬ y ≤ x → cr_W p l e R s m args below meth c sf N base D cA nL Q σ pc' lv st) : cr_W p l e R s m args below meth c sf N base D cA nL Q σ pc lv (.int y :: .int x :: st) := by
  subst hp
  intro H locs ls hP hS hl
  exact lv_icmp_ge C.1 C.2.1 hd ht (fun q => kt q H locs ls hP hS hl) (fun q => kf q H locs ls hP hS hl)
theorem g_if_gt (C : cr_C p l e R s m args below meth c sf N base D cA cc nL own) {x : Int32} {off : Int} {tgt : Nat} (hd : decode cc pc = .ok (.ifCond .gt off, 3)) (ht : (pc : Int) + off = (tgt : Int)) (hp : pc + 3 = pc') (kt : 0 < x → cr_W p l e R s m args below meth c sf N base D cA nL Q σ tgt lv st) (kf : ¬ 0 < x → cr_W p l e R s m args below meth c sf N base D cA nL Q σ pc' lv st) : cr_W p l e R s m args below meth c sf N base D cA nL Q σ pc lv (.int x :: st) := by
  subst hp
  intro H locs ls hP hS hl
  exact lv_if_gt C.1 C.2.1 hd ht (fun q => kt q H locs ls hP hS hl) (fun q => kf q H locs ls hP hS hl)
theorem g_icmp_gt (C : cr_C p l e R s m args below meth c sf N base D cA cc nL own) {x y : Int32} {off : Int} {tgt : Nat} (hd : decode cc pc = .ok (.if_icmp .gt off, 3)) (ht : (pc : Int) + off = (tgt : Int)) (hp : pc + 3 = pc') (kt : y < x → cr_W p l e R s m args below meth c sf N base D cA nL Q σ tgt lv st) (kf : ¬ y < x → cr_W p l e R s m args below meth c sf N base D cA nL Q σ pc' lv st) : cr_W p l e R s m args below meth c sf N base D cA nL Q σ pc lv (.int y :: .int x :: st) := by
  subst hp
  intro H locs ls hP hS hl
  exact lv_icmp_gt C.1 C.2.1 hd ht (fun q => kt q H locs ls hP hS hl) (fun q => kf q H locs ls hP hS hl)
theorem g_if_le (C : cr_C p l e R s m args below meth c sf N base D cA cc nL own) {x : Int32} {off : Int} {tgt : Nat} (hd : decode cc pc = .ok (.ifCond .le off, 3)) (ht : (pc : Int) + off = (tgt : Int)) (hp : pc + 3 = pc') (kt : x ≤ 0 → cr_W p l e R s m args below meth c sf N base D cA nL Q σ tgt lv st) (kf : ¬ x ≤ 0 → cr_W p l e R s m args below meth c sf N base D cA nL Q σ pc' lv st) : cr_W p l e R s m args below meth c sf N base D cA nL Q σ pc lv (.int x :: st) := by
  subst hp
  intro H locs ls hP hS hl
  exact lv_if_le C.1 C.2.1 hd ht (fun q => kt q H locs ls hP hS hl) (fun q => kf q H locs ls hP hS hl)
theorem g_icmp_le (C : cr_C p l e R s m args below meth c sf N base D cA cc nL own) {x y : Int32} {off : Int} {tgt : Nat} (hd : decode cc pc = .ok (.if_icmp .le off, 3)) (ht : (pc : Int) + off = (tgt : Int)) (hp : pc + 3 = pc') (kt : x ≤ y → cr_W p l e R s m args below meth c sf N base D cA nL Q σ tgt lv st) (kf : ¬ x ≤ y → cr_W p l e R s m args below meth c sf N base D cA nL Q σ pc' lv st) : cr_W p l e R s m args below meth c sf N base D cA nL Q σ pc lv (.int y :: .int x :: st) := by
  subst hp
  intro H locs ls hP hS hl
  exact lv_icmp_le C.1 C.2.1 hd ht (fun q => kt q H locs ls hP hS hl) (fun q => kf q H locs ls hP hS hl)
theorem g_goto (C : cr_C p l e R s m args below meth c sf N base D cA cc nL own) {off : Int} {tgt : Nat} (hd : decode cc pc = .ok (.goto off, 3)) (ht : (pc : Int) + off = (tgt : Int)) (k : cr_W p l e R s m args below meth c sf N base D cA nL Q σ tgt lv st) : cr_W p l e R s m args below meth c sf N base D cA nL Q σ pc lv st := by
  intro H locs ls hP hS hl
  exact lv_goto C.1 C.2.1 hd ht (k H locs ls hP hS hl)
theorem g_tableIn (C : cr_C p l e R s m args below meth c sf N base D cA cc nL own) {dflt lo hi : Int} {offs : Array Int} {len : Nat} {x : Int32} {off : Int} {tgt : Nat} (hd : decode cc pc = .ok (.tableswitch dflt lo hi offs, len)) (h1 : ¬ x.toInt < lo) (h2 : ¬ hi < x.toInt) (ho : offs[(x.toInt - lo).toNat]? = some off) (ht : (pc : Int) + off = (tgt : Int)) (k : cr_W p l e R s m args below meth c sf N base D cA nL Q σ tgt lv st) : cr_W p l e R s m args below meth c sf N base D cA nL Q σ pc lv (.int x :: st) := by
  intro H locs ls hP hS hl
  exact lv_tableIn C.1 C.2.1 hd h1 h2 ho ht (k H locs ls hP hS hl)
theorem g_tableOut (C : cr_C p l e R s m args below meth c sf N base D cA cc nL own) {dflt lo hi : Int} {offs : Array Int} {len : Nat} {x : Int32} {tgt : Nat} (hd : decode cc pc = .ok (.tableswitch dflt lo hi offs, len)) (h1 : x.toInt < lo ∨ hi < x.toInt) (ht : (pc : Int) + dflt = (tgt : Int)) (k : cr_W p l e R s m args below meth c sf N base D cA nL Q σ tgt lv st) : cr_W p l e R s m args below meth c sf N base D cA nL Q σ pc lv (.int x :: st) := by
  intro H locs ls hP hS hl
  exact lv_tableOut C.1 C.2.1 hd h1 ht (k H locs ls hP hS hl)
theorem g_sub (C : cr_C p l e R s m args below meth c sf N base D cA cc nL own) (ks : List Nat) (hv : lv_pick lv ks = lv') (k : cr_W p l e R s m args below meth c sf N base D cA nL Q σ pc lv' st) : cr_W p l e R s m args below meth c sf N base D cA nL Q σ pc lv st := fun H locs ls hP hS hl => k H locs ls hP hS (lv_sub hl ks hv)
theorem g_getI (C : cr_C p l e R s m args below meth c sf N base D cA cc nL own) {ref : String} {index ci : Nat} {cn : String} {T : u_T} {nf : Nat} {sl : List (Option Nat)} {o : Nat} (hc : vwCl[ci]? = some (cn, T, nf)) (hin : ∀ w ∈ u_ws cn T nf, w ∈ cr_T) (ho : o < N) (hs : sf o = .inl (ci, sl)) (f : Nat) (hf : f < nf) (hsl : sl[f]? = some none) (hw : Cond.fieldLink own index (T f).1 (T f).2.1 (T f).2.2.1 ∈ cr_T) (hd : decode cc pc = .ok (.getfield index, 3)) (hp : pc + 3 = pc') (k : cr_W p l e R s m args below meth c sf N base D cA nL Q σ pc' lv (.int (rF σ o f) :: st)) : cr_W p l e R s m args below meth c sf N base D cA nL Q σ pc lv (.ref (base + o) :: st) := by
  subst hp
  intro H locs ls hP hS hl
  have he := cr_L_at (sf := sf) (base := base) (cA := cA) (σ := σ) ho
  rw [hs] at he
  refine va_get (D := D) (ci := ci) C.1 C.2.1 C.2.2.2.2.1 hin C.2.2.2.1 C.2.2.2.2.2.2.1 hP o he hc f hf (C.2.2.2.2.1 _ hw) (fun _ h9 => h9) (v := .int (rF σ o f)) ?_ hd (k H locs ls hP hS hl)
  have := cr_fs_i (base := base) (f := σ.1 o) (sl := sl) (j := 0) (k := f) hsl
  rwa [Nat.zero_add] at this
theorem g_getR (C : cr_C p l e R s m args below meth c sf N base D cA cc nL own) {index ci : Nat} {cn : String} {T : u_T} {nf : Nat} {sl : List (Option Nat)} {o r : Nat} (hc : vwCl[ci]? = some (cn, T, nf)) (hin : ∀ w ∈ u_ws cn T nf, w ∈ cr_T) (ho : o < N) (hs : sf o = .inl (ci, sl)) (f : Nat) (hf : f < nf) (hsl : sl[f]? = some (some r)) (hw : Cond.fieldLink own index (T f).1 (T f).2.1 (T f).2.2.1 ∈ cr_T) (hd : decode cc pc = .ok (.getfield index, 3)) (hp : pc + 3 = pc') (k : cr_W p l e R s m args below meth c sf N base D cA nL Q σ pc' lv (.ref (base + r) :: st)) : cr_W p l e R s m args below meth c sf N base D cA nL Q σ pc lv (.ref (base + o) :: st) := by
  subst hp
  intro H locs ls hP hS hl
  have he := cr_L_at (sf := sf) (base := base) (cA := cA) (σ := σ) ho
  rw [hs] at he
  exact va_get (D := D) (ci := ci) C.1 C.2.1 C.2.2.2.2.1 hin C.2.2.2.1 C.2.2.2.2.2.2.1 hP o he hc f hf (C.2.2.2.2.1 _ hw) (fun _ h9 => h9) (v := .ref (base + r)) (cr_fs_r hsl) hd (k H locs ls hP hS hl)
theorem g_putI (C : cr_C p l e R s m args below meth c sf N base D cA cc nL own) {σ' : cr_S} {index ci : Nat} {cn : String} {T : u_T} {nf : Nat} {sl : List (Option Nat)} {o : Nat} {v : Int32} {ty : FieldType} (hc : vwCl[ci]? = some (cn, T, nf)) (hin : ∀ w ∈ u_ws cn T nf, w ∈ cr_T) (ty0 : Nat → FieldType) (hty : ∀ k, k < nf → parseFieldDescriptor (T k).2.2.1 = some (ty0 k)) (hnm : ∀ a, a < nf → ∀ b, b < nf → a ≠ b → (T a).2.1 ≠ (T b).2.1) (ho : o < N) (hs : sf o = .inl (ci, sl)) (f : Nat) (hf : f < nf) (hsl : sl[f]? = some none) (hfin : (T f).2.2.2 = false) (hw : Cond.fieldLink own index (T f).1 (T f).2.1 (T f).2.2.1 ∈ cr_T) (htf : ty0 f = ty) (hn : narrow ty (.int v) = .int v) (hfit : fits ty (.int v) = true) (hd : decode cc pc = .ok (.putfield index, 3)) (hp : pc + 3 = pc') (hσ : σ' = sF σ o f v) (k : cr_W p l e R s m args below meth c sf N base D cA nL Q σ' pc' lv st) : cr_W p l e R s m args below meth c sf N base D cA nL Q σ pc lv (.int v :: .ref (base + o) :: st) := by
  subst hp
  subst hσ
  intro H locs ls hP hS hl
  have he := cr_L_at (sf := sf) (base := base) (cA := cA) (σ := σ) ho
  rw [hs] at he
  have hlt : f < (cr_fs base (σ.1 o) 0 sl).length := by
    rw [cr_fs_n]
    exact (List.getElem?_eq_some_iff.mp hsl).1
  refine va_put (D := D) (ci := ci) (ty := ty) C.1 C.2.1 C.2.2.2.2.1 hin ty0 hty hnm C.2.2.2.1 C.2.2.2.2.2.2.1 hP cr_L_D hS o he hc f hf (C.2.2.2.2.1 _ hw) (fun _ h9 => h9) hfin (by rw [hty f hf, htf]) hn hfit hlt hd (fun H1 locs1 hP1 _ hS1 => ?_)
  rw [cr_L_set (σ' := sF σ o f v) ho (by
    rw [hs]
    have := cr_fs_s (base := base) (f := σ.1 o) (v := v) (sl := sl) (j := 0) (k := f) hsl
    rw [Nat.zero_add] at this
    rw [this]
    simp only [cr_E, sF, va_up_self]) (fun j hj x => cr_E_sF j hj x)] at hP1
  exact k H1 locs1 ls hP1 hS1 hl
theorem g_iald (C : cr_C p l e R s m args below meth c sf N base D cA cc nL own) {o n : Nat} {i : Int32} (ho : o < N) (hs : sf o = .inr (.inl (0, n))) (hi : vp_in i n) (hd : decode cc pc = .ok (.iaload, 1)) (hp : pc + 1 = pc') (k : cr_W p l e R s m args below meth c sf N base D cA nL Q σ pc' lv (.int (rA σ o i) :: st)) : cr_W p l e R s m args below meth c sf N base D cA nL Q σ pc lv (.int i :: .ref (base + o) :: st) := by
  subst hp
  intro H locs ls hP hS hl
  have he := cr_L_at (sf := sf) (base := base) (cA := cA) (σ := σ) ho
  rw [hs] at he
  exact va_iald (D := D) C.1 C.2.1 C.2.2.2.2.2.2.1 hP o 0 he rfl hi hd (k H locs ls hP hS hl)
theorem g_cald (C : cr_C p l e R s m args below meth c sf N base D cA cc nL own) {o n : Nat} {i : Int32} (ho : o < N) (hs : sf o = .inr (.inl (1, n))) (hi : vp_in i n) (hd : decode cc pc = .ok (.caload, 1)) (hp : pc + 1 = pc') (k : cr_W p l e R s m args below meth c sf N base D cA nL Q σ pc' lv (.int (rA σ o i) :: st)) : cr_W p l e R s m args below meth c sf N base D cA nL Q σ pc lv (.int i :: .ref (base + o) :: st) := by
  subst hp
  intro H locs ls hP hS hl
  have he := cr_L_at (sf := sf) (base := base) (cA := cA) (σ := σ) ho
  rw [hs] at he
  exact va_cald (D := D) C.1 C.2.1 C.2.2.2.2.2.2.1 hP o 1 he rfl hi hd (k H locs ls hP hS hl)
theorem g_lald (C : cr_C p l e R s m args below meth c sf N base D cA cc nL own) {o n : Nat} {i : Int32} (ho : o < N) (hs : sf o = .inr (.inr (.inl n))) (hi : vp_in i n) (hd : decode cc pc = .ok (.laload, 1)) (hp : pc + 1 = pc') (k : cr_W p l e R s m args below meth c sf N base D cA nL Q σ pc' lv (.long (rL σ o i) :: st)) : cr_W p l e R s m args below meth c sf N base D cA nL Q σ pc lv (.int i :: .ref (base + o) :: st) := by
  subst hp
  intro H locs ls hP hS hl
  have he := cr_L_at (sf := sf) (base := base) (cA := cA) (σ := σ) ho
  rw [hs] at he
  exact va_lald (D := D) C.1 C.2.1 C.2.2.2.2.2.2.1 hP o 2 he rfl hi hd (k H locs ls hP hS hl)
theorem g_iast (C : cr_C p l e R s m args below meth c sf N base D cA cc nL own) {σ' : cr_S} {o n : Nat} {i v : Int32} (ho : o < N) (hs : sf o = .inr (.inl (0, n))) (hi : vp_in i n) (hd : decode cc pc = .ok (.iastore, 1)) (hp : pc + 1 = pc') (hσ : σ' = sA σ o i v) (k : cr_W p l e R s m args below meth c sf N base D cA nL Q σ' pc' lv st) : cr_W p l e R s m args below meth c sf N base D cA nL Q σ pc lv (.int v :: .int i :: .ref (base + o) :: st) := by
  subst hp
  subst hσ
  intro H locs ls hP hS hl
  have he := cr_L_at (sf := sf) (base := base) (cA := cA) (σ := σ) ho
  rw [hs] at he
  refine va_iast (D := D) C.1 C.2.1 C.2.2.2.2.2.2.1 hP cr_L_D hS o 0 he rfl hi hd (fun H1 locs1 hP1 _ hS1 => ?_)
  rw [cr_L_set (σ' := sA σ o i v) ho (by
    rw [hs]
    simp only [cr_E, sA, va_up_self]) (fun j hj x => cr_E_sA j hj x)] at hP1
  exact k H1 locs1 ls hP1 hS1 hl
theorem g_cast (C : cr_C p l e R s m args below meth c sf N base D cA cc nL own) {σ' : cr_S} {o n : Nat} {i v : Int32} (ho : o < N) (hs : sf o = .inr (.inl (1, n))) (hi : vp_in i n) (hd : decode cc pc = .ok (.castore, 1)) (hp : pc + 1 = pc') (hσ : σ' = sA σ o i (vp_nar .char v)) (k : cr_W p l e R s m args below meth c sf N base D cA nL Q σ' pc' lv st) : cr_W p l e R s m args below meth c sf N base D cA nL Q σ pc lv (.int v :: .int i :: .ref (base + o) :: st) := by
  subst hp
  subst hσ
  intro H locs ls hP hS hl
  have he := cr_L_at (sf := sf) (base := base) (cA := cA) (σ := σ) ho
  rw [hs] at he
  refine va_cast (D := D) C.1 C.2.1 C.2.2.2.2.2.2.1 hP cr_L_D hS o 1 he rfl hi hd (fun H1 locs1 hP1 _ hS1 => ?_)
  rw [cr_L_set (σ' := sA σ o i (vp_nar .char v)) ho (by
    rw [hs]
    simp only [cr_E, sA, va_up_self]) (fun j hj x => cr_E_sA j hj x)] at hP1
  exact k H1 locs1 ls hP1 hS1 hl
theorem g_last (C : cr_C p l e R s m args below meth c sf N base D cA cc nL own) {σ' : cr_S} {o n : Nat} {i : Int32} {v : Int64} (ho : o < N) (hs : sf o = .inr (.inr (.inl n))) (hi : vp_in i n) (hd : decode cc pc = .ok (.lastore, 1)) (hp : pc + 1 = pc') (hσ : σ' = sL σ o i v) (k : cr_W p l e R s m args below meth c sf N base D cA nL Q σ' pc' lv st) : cr_W p l e R s m args below meth c sf N base D cA nL Q σ pc lv (.long v :: .int i :: .ref (base + o) :: st) := by
  subst hp
  subst hσ
  intro H locs ls hP hS hl
  have he := cr_L_at (sf := sf) (base := base) (cA := cA) (σ := σ) ho
  rw [hs] at he
  refine va_last (D := D) C.1 C.2.1 C.2.2.2.2.2.2.1 hP cr_L_D hS o 2 he rfl hi hd (fun H1 locs1 hP1 _ hS1 => ?_)
  rw [cr_L_set (σ' := sL σ o i v) ho (by
    rw [hs]
    simp only [cr_E, sL, va_up_self]) (fun j hj x => cr_E_sL j hj x)] at hP1
  exact k H1 locs1 ls hP1 hS1 hl
theorem g_aald (C : cr_C p l e R s m args below meth c sf N base D cA cc nL own) {o n t : Nat} {r : Nat → Nat} {cn : String} {i : Int32} (ho : o < N) (hs : sf o = .inr (.inr (.inr (t, n, r)))) (ht : (cr_tys cA)[t]? = some (cA t, .object cn)) (hi : vp_in i n) (hd : decode cc pc = .ok (.aaload, 1)) (hp : pc + 1 = pc') (k : cr_W p l e R s m args below meth c sf N base D cA nL Q σ pc' lv (.ref (base + r i.toNatClampNeg) :: st)) : cr_W p l e R s m args below meth c sf N base D cA nL Q σ pc lv (.int i :: .ref (base + o) :: st) := by
  subst hp
  intro H locs ls hP hS hl
  have he := cr_L_at (sf := sf) (base := base) (cA := cA) (σ := σ) ho
  rw [hs] at he
  exact va_aldq (D := D) C.1 C.2.1 C.2.2.2.2.2.2.1 hP o t he ht hi hd (k H locs ls hP hS hl)
theorem g_alenI (C : cr_C p l e R s m args below meth c sf N base D cA cc nL own) {o n t : Nat} {v : Int32} {ty : FieldType} (ho : o < N) (hs : sf o = .inr (.inl (t, n))) (ht : (cr_tys cA)[t]? = some (cA t, ty)) (hv : Int32.ofNat n = v) (hd : decode cc pc = .ok (.arraylength, 1)) (hp : pc + 1 = pc') (k : cr_W p l e R s m args below meth c sf N base D cA nL Q σ pc' lv (.int v :: st)) : cr_W p l e R s m args below meth c sf N base D cA nL Q σ pc lv (.ref (base + o) :: st) := by
  subst hp
  intro H locs ls hP hS hl
  have he := cr_L_at (sf := sf) (base := base) (cA := cA) (σ := σ) ho
  rw [hs] at he
  exact va_alen (D := D) C.1 C.2.1 C.2.2.2.2.2.2.1 hP o t he ht hv hd (k H locs ls hP hS hl)
theorem g_alenL (C : cr_C p l e R s m args below meth c sf N base D cA cc nL own) {o n : Nat} {v : Int32} (ho : o < N) (hs : sf o = .inr (.inr (.inl n))) (hv : Int32.ofNat n = v) (hd : decode cc pc = .ok (.arraylength, 1)) (hp : pc + 1 = pc') (k : cr_W p l e R s m args below meth c sf N base D cA nL Q σ pc' lv (.int v :: st)) : cr_W p l e R s m args below meth c sf N base D cA nL Q σ pc lv (.ref (base + o) :: st) := by
  subst hp
  intro H locs ls hP hS hl
  have he := cr_L_at (sf := sf) (base := base) (cA := cA) (σ := σ) ho
  rw [hs] at he
  exact va_alen (D := D) C.1 C.2.1 C.2.2.2.2.2.2.1 hP o 2 he rfl hv hd (k H locs ls hP hS hl)
theorem g_iret (C : cr_C p l e R s m args below meth c sf N base D cA cc nL own) {res : cr_S × Int32} {v : Int32} (hr : meth.sig.returnType = some .int)  (hd : decode cc pc = .ok (.ireturn, 1)) (h : (some (σ, v) : Option (cr_S × Int32)) = some res) : cr_W p l e R s m args below meth c sf N base D cA nL (MQ below (cr_Qi sf N base D cA res) args s 0 0 (cr_A N base)) σ pc lv [.int v] := by
  intro H locs ls hP hS hl
  have hlocks : meth.locks = false := C.2.2.2.2.2.2.2.1
  cases h
  exact W.iret (v := v) C.1 C.2.1 hr (fun t ht hW => ⟨⟨v, (), rfl, rfl, by show va_P _ _ _ t.heap; rw [ht]; exact hP⟩, hS.F ht⟩) hS.2.2 hd
theorem g_zret (C : cr_C p l e R s m args below meth c sf N base D cA cc nL own) {res : cr_S × Int32} {v : Int32} (hr : meth.sig.returnType = some .boolean) (hz : narrow .boolean (.int v) = .int v) (hd : decode cc pc = .ok (.ireturn, 1)) (h : (some (σ, v) : Option (cr_S × Int32)) = some res) : cr_W p l e R s m args below meth c sf N base D cA nL (MQ below (cr_Qi sf N base D cA res) args s 0 0 (cr_A N base)) σ pc lv [.int v] := by
  intro H locs ls hP hS hl
  have hlocks : meth.locks = false := C.2.2.2.2.2.2.2.1
  cases h
  exact W.zret (v := v) C.1 C.2.1 hr hz (fun t ht hW => ⟨⟨v, (), rfl, rfl, by show va_P _ _ _ t.heap; rw [ht]; exact hP⟩, hS.F ht⟩) hS.2.2 hd
theorem g_bret (C : cr_C p l e R s m args below meth c sf N base D cA cc nL own) {res : cr_S × Int32} {v : Int32} (hr : meth.sig.returnType = some .byte) (hz : narrow .byte (.int v) = .int v) (hd : decode cc pc = .ok (.ireturn, 1)) (h : (some (σ, v) : Option (cr_S × Int32)) = some res) : cr_W p l e R s m args below meth c sf N base D cA nL (MQ below (cr_Qi sf N base D cA res) args s 0 0 (cr_A N base)) σ pc lv [.int v] := by
  intro H locs ls hP hS hl
  have hlocks : meth.locks = false := C.2.2.2.2.2.2.2.1
  cases h
  exact W.zret (v := v) C.1 C.2.1 hr hz (fun t ht hW => ⟨⟨v, (), rfl, rfl, by show va_P _ _ _ t.heap; rw [ht]; exact hP⟩, hS.F ht⟩) hS.2.2 hd
theorem g_cret (C : cr_C p l e R s m args below meth c sf N base D cA cc nL own) {res : cr_S × Int32} {v : Int32} (hr : meth.sig.returnType = some .char) (hz : narrow .char (.int v) = .int v) (hd : decode cc pc = .ok (.ireturn, 1)) (h : (some (σ, v) : Option (cr_S × Int32)) = some res) : cr_W p l e R s m args below meth c sf N base D cA nL (MQ below (cr_Qi sf N base D cA res) args s 0 0 (cr_A N base)) σ pc lv [.int v] := by
  intro H locs ls hP hS hl
  have hlocks : meth.locks = false := C.2.2.2.2.2.2.2.1
  cases h
  exact W.zret (v := v) C.1 C.2.1 hr hz (fun t ht hW => ⟨⟨v, (), rfl, rfl, by show va_P _ _ _ t.heap; rw [ht]; exact hP⟩, hS.F ht⟩) hS.2.2 hd
theorem g_lret (C : cr_C p l e R s m args below meth c sf N base D cA cc nL own) {res : cr_S × Int64} {v : Int64} (hr : meth.sig.returnType = some .long) (hd : decode cc pc = .ok (.lreturn, 1)) (h : (some (σ, v) : Option (cr_S × Int64)) = some res) : cr_W p l e R s m args below meth c sf N base D cA nL (MQ below (cr_Ql sf N base D cA res) args s 0 0 (cr_A N base)) σ pc lv [.long v] := by
  intro H locs ls hP hS hl
  have hlocks : meth.locks = false := C.2.2.2.2.2.2.2.1
  cases h
  exact W.lret (v := v) C.1 C.2.1 hr (fun t ht hW => ⟨⟨v, (), rfl, rfl, by show va_P _ _ _ t.heap; rw [ht]; exact hP⟩, hS.F ht⟩) hS.2.2 hd
theorem g_vret (C : cr_C p l e R s m args below meth c sf N base D cA cc nL own) {res : cr_S} (hr : meth.sig.returnType = none) (hd : decode cc pc = .ok (.return_, 1)) (h : (some σ : Option cr_S) = some res) : cr_W p l e R s m args below meth c sf N base D cA nL (MQ below (cr_Qv sf N base D cA res) args s 0 0 (cr_A N base)) σ pc lv [] := by
  intro H locs ls hP hS hl
  have hlocks : meth.locks = false := C.2.2.2.2.2.2.2.1
  cases h
  exact W.vret C.1 C.2.1 hr (fun t ht hW => ⟨⟨(), rfl, trivial, by show va_P _ _ _ t.heap; rw [ht]; exact hP⟩, hS.F ht⟩) hS.2.2 hd
theorem cr_blind {av : List Value} : FrameBlind (va_Pc av (cr_H sf N base D cA σ)) := fun a U g mk q => by
  obtain ⟨q0, qP, qK, qN, qF⟩ := q
  exact ⟨q0, qP, va_K.moved (u := U) (U := U.calling g mk a) (Vm.Alike.refl U.vm) qK, cr_NW_same (u := U) (U := U.calling g mk a) rfl qN, cr_SF_same (u := U) (U := U.calling g mk a) rfl rfl qF⟩
theorem cr_pre (C : cr_C p l e R s m args below meth c sf N base D cA cc nL own) {av : List Value} {H : Heap} {locs : List Loc} (hS : va_S (cr_A N base) s.heap H locs) (hP : va_P D vwCl (cr_L sf N base cA σ) H) (U : State) (hU : U.heap = H) (hW : s.WarmedH U.vm) : va_Pc av (cr_H sf N base D cA σ) av.toArray U :=
  ⟨rfl, by rw [hU]; exact hP, va_K.moved hW.alike C.2.2.2.2.2.2.1, cr_NW_warm hW C.2.2.2.2.2.1, cr_SF_go hS hU hW C.2.2.2.2.2.2.2.2⟩
/-- what a call of y wants of the tables, wherever it stands -/
def cr_Y (y : MethodName) (bytes : ByteArray) (maxL n : Nat) (ret : Option FieldType) : Prop := Cond.code y bytes maxL ret ∈ cr_T ∧ Cond.initialized y.cls ∈ cr_T ∧ y.cls ≠ "java/lang/invoke/MethodHandle" ∧ y.cls ≠ "java/lang/invoke/VarHandle" ∧ (parseMethodDescriptor y.desc).map (fun d => d.parameters.length) = some n
theorem cr_callB (C : cr_C p l e R s m args below meth c sf N base D cA cc nL own) {y : MethodName} {bytes : ByteArray} {maxL n fr lo index : Nat} {ret : Option FieldType} (hY : cr_Y y bytes maxL n ret) (hl : Cond.methodLink own index y ∈ cr_T) (hR : fr + 1 ≤ R.frames ∧ 8 + (maxL + 11) + lo ≤ R.locals) : CallB R s args own index y bytes maxL ret (cr_w y bytes maxL ret) { frames := fr, cells := 0, slots := 0, locals := lo } 0 0 n :=
  callB_of n C.2.2.2.2.1 (cr_good (fun w h => (List.mem_cons.mp h).elim (fun q => by rw [q]; exact hY.1) id)) rfl rfl rfl (C.2.2.2.2.1 _ hY.2.1) (C.2.2.2.2.1 _ hl) hY.2.2 hR
theorem cr_callN (C : cr_C p l e R s m args below meth c sf N base D cA cc nL own) {y : MethodName} {bytes : ByteArray} {maxL n fr lo index : Nat} {host : String} {ret : Option FieldType} (hY : cr_Y y bytes maxL n ret) (hl : Cond.methodLinkNest own index y host ∈ cr_NW) (hR : fr + 1 ≤ R.frames ∧ 8 + (maxL + 11) + lo ≤ R.locals) : va_CN R s args own index y host bytes maxL ret (cr_w y bytes maxL ret) { frames := fr, cells := 0, slots := 0, locals := lo } 0 0 n :=
  va_cnB n C.2.2.2.2.1 (cr_good (fun w h => (List.mem_cons.mp h).elim (fun q => by rw [q]; exact hY.1) id)) rfl rfl rfl (C.2.2.2.2.2.1 _ hl) (C.2.2.2.2.1 _ hY.2.1) hY.2.2 hR
theorem g_ldcS (C : cr_C p l e R s m args below meth c sf N base D cA cc nL own) {index q : Nat} {tx : String} (hZ : vk_R own index tx q s) (hd : decode cc pc = .ok (.ldc index, 2)) (hp : pc + 2 = pc') (k : cr_W p l e R s m args below meth c sf N base D cA nL Q σ pc' lv (.ref q :: st)) : cr_W p l e R s m args below meth c sf N base D cA nL Q σ pc lv st := by
  subst hp
  intro H locs ls hP hS hl
  exact va_ldcS C.1 C.2.1 C.2.2.2.1 hZ hd (k H locs ls hP hS hl)
theorem g_strV (C : cr_C p l e R s m args below meth c sf N base D cA cc nL own) {index : Nat} (i : Nat) (hi : i < 2) (hw : Cond.fieldLink own index "java/lang/String" "value" "[B" ∈ cr_T) (hd : decode cc pc = .ok (.getfield index, 3)) (hp : pc + 3 = pc') (k : cr_W p l e R s m args below meth c sf N base D cA nL Q σ pc' lv (.ref (cA (200 + i)) :: st)) : cr_W p l e R s m args below meth c sf N base D cA nL Q σ pc lv (.ref (cA (100 + i)) :: st) := by
  subst hp
  intro H locs ls hP hS hl
  exact vk_getf C.1 C.2.1 (C.2.2.2.2.2.2.2.2.1.1 i hi).2.2.1 hS C.2.2.2.1 (C.2.2.2.2.1 _ hw) (fun _ h9 => h9) hd (k H locs ls hP hS hl)
theorem g_strC (C : cr_C p l e R s m args below meth c sf N base D cA cc nL own) {index : Nat} (i : Nat) (hi : i < 2) (hw : Cond.fieldLink own index "java/lang/String" "coder" "B" ∈ cr_T) (hd : decode cc pc = .ok (.getfield index, 3)) (hp : pc + 3 = pc') (k : cr_W p l e R s m args below meth c sf N base D cA nL Q σ pc' lv (.int 0 :: st)) : cr_W p l e R s m args below meth c sf N base D cA nL Q σ pc lv (.ref (cA (100 + i)) :: st) := by
  subst hp
  intro H locs ls hP hS hl
  exact vk_getf C.1 C.2.1 (C.2.2.2.2.2.2.2.2.1.1 i hi).2.1 hS C.2.2.2.1 (C.2.2.2.2.1 _ hw) (fun _ h9 => h9) hd (k H locs ls hP hS hl)
theorem g_cmpS (C : cr_C p l e R s m args below meth c sf N base D cA cc nL own) {index : Nat} (hw : Cond.fieldLink own index "java/lang/String" "COMPACT_STRINGS" "Z" ∈ cr_T) (hd : decode cc pc = .ok (.getstatic index, 3)) (hp : pc + 3 = pc') (k : cr_W p l e R s m args below meth c sf N base D cA nL Q σ pc' lv (.int 1 :: st)) : cr_W p l e R s m args below meth c sf N base D cA nL Q σ pc lv st := by
  subst hp
  intro H locs ls hP hS hl
  exact va_gets C.1 C.2.1 C.2.2.2.2.2.2.2.2.2.2.2 hS C.2.2.2.1 (C.2.2.2.2.1 _ hw) (fun _ h9 => h9) hd (k H locs ls hP hS hl)
theorem g_tb (C : cr_C p l e R s m args below meth c sf N base D cA cc nL own) (i : Nat) (hi : i < 2) {j : Int32} (hj : vp_in j 4) (hd : decode cc pc = .ok (.baload, 1)) (hp : pc + 1 = pc') (k : cr_W p l e R s m args below meth c sf N base D cA nL Q σ pc' lv (.int (stB i j) :: st)) : cr_W p l e R s m args below meth c sf N base D cA nL Q σ pc lv (.int j :: .ref (cA (200 + i)) :: st) := by
  subst hp
  intro H locs ls hP hS hl
  have h4 : ([4, 4] : List Nat).getD i 0 = 4 := by
    rcases (show i = 0 ∨ i = 1 by omega) with rfl | rfl <;> rfl
  have hT := (C.2.2.2.2.2.2.2.2.1.1 i hi).2.2.2
  rw [h4] at hT
  exact va_tb C.1 C.2.1 hT hS hj rfl hd (k H locs ls hP hS hl)
theorem g_tlen (C : cr_C p l e R s m args below meth c sf N base D cA cc nL own) (i : Nat) (hi : i < 2) (hd : decode cc pc = .ok (.arraylength, 1)) (hp : pc + 1 = pc') (k : cr_W p l e R s m args below meth c sf N base D cA nL Q σ pc' lv (.int 4 :: st)) : cr_W p l e R s m args below meth c sf N base D cA nL Q σ pc lv (.ref (cA (200 + i)) :: st) := by
  subst hp
  intro H locs ls hP hS hl
  have h4 : ([4, 4] : List Nat).getD i 0 = 4 := by
    rcases (show i = 0 ∨ i = 1 by omega) with rfl | rfl <;> rfl
  have hT := (C.2.2.2.2.2.2.2.2.1.1 i hi).2.2.2
  rw [h4] at hT
  exact va_tlen C.1 C.2.1 hT hS (by decide) hd (k H locs ls hP hS hl)
theorem g_callTi (C : cr_C p l e R s m args below meth c sf N base D cA cc nL own) {y : MethodName} {bytes : ByteArray} {maxL n fr lo index : Nat} {ret : Option FieldType} {res : cr_S × Int32} (As : List Value) {stk : List Value} (i : Nat) (hi : i < 2) (hY : cr_Y y bytes maxL n ret) (hv : Cond.instanceMethod y ∈ cr_T ∧ Cond.selects "java/lang/String" y y ∈ cr_T) (hl : Cond.methodLink own index y ∈ cr_T) (hR : fr + 1 ≤ R.frames ∧ 8 + (maxL + 11) + lo ≤ R.locals) (hn : As.length = n) (hm : (st.map fun v => v.category).sum ≤ 8) (hk : stk = As.reverse ++ .ref (cA (100 + i)) :: st) (hd : decode cc pc = .ok (.invokevirtual index, 3)) (hM : cr_M l y bytes maxL ret fr lo sf N base D cA (.ref (cA (100 + i)) :: As) σ (cr_Qi sf N base D cA res)) (hp : pc + 3 = pc') (k : cr_W p l e R s m args below meth c sf N base D cA nL Q res.1 pc' lv (.int res.2 :: st)) : cr_W p l e R s m args below meth c sf N base D cA nL Q σ pc lv stk := by
  subst hp
  subst hk
  intro H locs ls hP hS hl9
  refine va_calli (va_runV (C := "java/lang/String") (As := As) (rest := st) ⟨C.1, C.2.1, C.2.2.1, C.2.2.2.1, C.2.2.2.2.1⟩ hM ⟨cr_callB C hY hl hR, C.2.2.2.2.1 _ hv.1, C.2.2.2.2.1 _ hv.2⟩ ⟨cr_blind, vk_recv C.2.2.2.2.2.2.2.2.1 hi hS, fun U hU hW => cr_pre C hS hP U hU hW⟩ rfl hn hl9.1 rfl (lv_room hm) hd ⟨Nat.zero_le _, Nat.zero_le _⟩) hS (fun q _ h => h) (fun q h => h) (fun r u t H1 locs1 ht hvm hw hB hz1 hk1 hS1 => ?_)
  cases hw
  rw [ht] at hB
  exact k H1 locs1 ls hB hS1 hl9
theorem g_callVi (C : cr_C p l e R s m args below meth c sf N base D cA cc nL own) {y : MethodName} {bytes : ByteArray} {maxL n fr lo index : Nat} {ret : Option FieldType} {res : cr_S × Int32} (As : List Value) {stk : List Value} {ci : Nat} {cn : String} {T : u_T} {nf : Nat} {sl : List (Option Nat)} {o : Nat} (hY : cr_Y y bytes maxL n ret) (hc : vwCl[ci]? = some (cn, T, nf)) (ho : o < N) (hs : sf o = .inl (ci, sl)) (hv : Cond.instanceMethod y ∈ cr_T ∧ Cond.selects cn y y ∈ cr_T) (hl : Cond.methodLink own index y ∈ cr_T) (hR : fr + 1 ≤ R.frames ∧ 8 + (maxL + 11) + lo ≤ R.locals) (hn : As.length = n) (hm : (st.map fun v => v.category).sum ≤ 8) (hk : stk = As.reverse ++ .ref (base + o) :: st) (hd : decode cc pc = .ok (.invokevirtual index, 3)) (hM : cr_M l y bytes maxL ret fr lo sf N base D cA (.ref (base + o) :: As) σ (cr_Qi sf N base D cA res)) (hp : pc + 3 = pc') (k : cr_W p l e R s m args below meth c sf N base D cA nL Q res.1 pc' lv (.int res.2 :: st)) : cr_W p l e R s m args below meth c sf N base D cA nL Q σ pc lv stk := by
  subst hp
  subst hk
  intro H locs ls hP hS hl9
  have he := cr_L_at (sf := sf) (base := base) (cA := cA) (σ := σ) ho
  rw [hs] at he
  refine va_calli (va_runV (C := cn) (As := As) (rest := st) ⟨C.1, C.2.1, C.2.2.1, C.2.2.2.1, C.2.2.2.2.1⟩ hM ⟨cr_callB C hY hl hR, C.2.2.2.2.1 _ hv.1, C.2.2.2.2.1 _ hv.2⟩ ⟨cr_blind, va_recv C.2.2.2.2.2.2.1 hP hc he, fun U hU hW => cr_pre C hS hP U hU hW⟩ rfl hn hl9.1 rfl (lv_room hm) hd ⟨Nat.zero_le _, Nat.zero_le _⟩) hS (fun q _ h => h) (fun q h => h) (fun r u t H1 locs1 ht hvm hw hB hz1 hk1 hS1 => ?_)
  cases hw
  rw [ht] at hB
  exact k H1 locs1 ls hB hS1 hl9
theorem g_callVl (C : cr_C p l e R s m args below meth c sf N base D cA cc nL own) {y : MethodName} {bytes : ByteArray} {maxL n fr lo index : Nat} {ret : Option FieldType} {res : cr_S × Int64} (As : List Value) {stk : List Value} {ci : Nat} {cn : String} {T : u_T} {nf : Nat} {sl : List (Option Nat)} {o : Nat} (hY : cr_Y y bytes maxL n ret) (hc : vwCl[ci]? = some (cn, T, nf)) (ho : o < N) (hs : sf o = .inl (ci, sl)) (hv : Cond.instanceMethod y ∈ cr_T ∧ Cond.selects cn y y ∈ cr_T) (hl : Cond.methodLink own index y ∈ cr_T) (hR : fr + 1 ≤ R.frames ∧ 8 + (maxL + 11) + lo ≤ R.locals) (hn : As.length = n) (hm : (st.map fun v => v.category).sum ≤ 8) (hk : stk = As.reverse ++ .ref (base + o) :: st) (hd : decode cc pc = .ok (.invokevirtual index, 3)) (hM : cr_M l y bytes maxL ret fr lo sf N base D cA (.ref (base + o) :: As) σ (cr_Ql sf N base D cA res)) (hp : pc + 3 = pc') (k : cr_W p l e R s m args below meth c sf N base D cA nL Q res.1 pc' lv (.long res.2 :: st)) : cr_W p l e R s m args below meth c sf N base D cA nL Q σ pc lv stk := by
  subst hp
  subst hk
  intro H locs ls hP hS hl9
  have he := cr_L_at (sf := sf) (base := base) (cA := cA) (σ := σ) ho
  rw [hs] at he
  refine va_calll (va_runV (C := cn) (As := As) (rest := st) ⟨C.1, C.2.1, C.2.2.1, C.2.2.2.1, C.2.2.2.2.1⟩ hM ⟨cr_callB C hY hl hR, C.2.2.2.2.1 _ hv.1, C.2.2.2.2.1 _ hv.2⟩ ⟨cr_blind, va_recv C.2.2.2.2.2.2.1 hP hc he, fun U hU hW => cr_pre C hS hP U hU hW⟩ rfl hn hl9.1 rfl (lv_room hm) hd ⟨Nat.zero_le _, Nat.zero_le _⟩) hS (fun q _ h => h) (fun q h => h) (fun r u t H1 locs1 ht hvm hw hB hz1 hk1 hS1 => ?_)
  cases hw
  rw [ht] at hB
  exact k H1 locs1 ls hB hS1 hl9
theorem g_callVv (C : cr_C p l e R s m args below meth c sf N base D cA cc nL own) {y : MethodName} {bytes : ByteArray} {maxL n fr lo index : Nat} {ret : Option FieldType} {res : cr_S} (As : List Value) {stk : List Value} {ci : Nat} {cn : String} {T : u_T} {nf : Nat} {sl : List (Option Nat)} {o : Nat} (hY : cr_Y y bytes maxL n ret) (hc : vwCl[ci]? = some (cn, T, nf)) (ho : o < N) (hs : sf o = .inl (ci, sl)) (hv : Cond.instanceMethod y ∈ cr_T ∧ Cond.selects cn y y ∈ cr_T) (hl : Cond.methodLink own index y ∈ cr_T) (hR : fr + 1 ≤ R.frames ∧ 8 + (maxL + 11) + lo ≤ R.locals) (hn : As.length = n) (hm : (st.map fun v => v.category).sum ≤ 8) (hk : stk = As.reverse ++ .ref (base + o) :: st) (hd : decode cc pc = .ok (.invokevirtual index, 3)) (hM : cr_M l y bytes maxL ret fr lo sf N base D cA (.ref (base + o) :: As) σ (cr_Qv sf N base D cA res)) (hp : pc + 3 = pc') (k : cr_W p l e R s m args below meth c sf N base D cA nL Q res pc' lv (st)) : cr_W p l e R s m args below meth c sf N base D cA nL Q σ pc lv stk := by
  subst hp
  subst hk
  intro H locs ls hP hS hl9
  have he := cr_L_at (sf := sf) (base := base) (cA := cA) (σ := σ) ho
  rw [hs] at he
  refine va_callv (va_runV (C := cn) (As := As) (rest := st) ⟨C.1, C.2.1, C.2.2.1, C.2.2.2.1, C.2.2.2.2.1⟩ hM ⟨cr_callB C hY hl hR, C.2.2.2.2.1 _ hv.1, C.2.2.2.2.1 _ hv.2⟩ ⟨cr_blind, va_recv C.2.2.2.2.2.2.1 hP hc he, fun U hU hW => cr_pre C hS hP U hU hW⟩ rfl hn hl9.1 rfl (lv_room hm) hd ⟨Nat.zero_le _, Nat.zero_le _⟩) hS (fun q _ h => h) (fun q h => h) (fun u t H1 locs1 ht hvm hw hB hz1 hk1 hS1 => ?_)
  rw [ht] at hB
  exact k H1 locs1 ls hB hS1 hl9
theorem g_callSi (C : cr_C p l e R s m args below meth c sf N base D cA cc nL own) {y : MethodName} {bytes : ByteArray} {maxL n fr lo index : Nat} {ret : Option FieldType} {res : cr_S × Int32} (As : List Value) {stk : List Value}  (hY : cr_Y y bytes maxL n ret) (hv : Cond.static y ∈ cr_T) (hl : Cond.methodLink own index y ∈ cr_T) (hR : fr + 1 ≤ R.frames ∧ 8 + (maxL + 11) + lo ≤ R.locals) (hn : As.length = n) (hm : (st.map fun v => v.category).sum ≤ 8) (hk : stk = As.reverse ++ st) (hd : decode cc pc = .ok (.invokestatic index, 3)) (hM : cr_M l y bytes maxL ret fr lo sf N base D cA As σ (cr_Qi sf N base D cA res)) (hp : pc + 3 = pc') (k : cr_W p l e R s m args below meth c sf N base D cA nL Q res.1 pc' lv (.int res.2 :: st)) : cr_W p l e R s m args below meth c sf N base D cA nL Q σ pc lv stk := by
  subst hp
  subst hk
  intro H locs ls hP hS hl9
  refine va_calli (va_runS (As := As) (rest := st) ⟨C.1, C.2.1, C.2.2.1, C.2.2.2.1, C.2.2.2.2.1⟩ hM ⟨cr_callB C hY hl hR, C.2.2.2.2.1 _ hv⟩ ⟨cr_blind, fun U hU hW => cr_pre C hS hP U hU hW⟩ rfl hn hl9.1 rfl (lv_room hm) hd ⟨Nat.zero_le _, Nat.zero_le _⟩) hS (fun q _ h => h) (fun q h => h) (fun r u t H1 locs1 ht hvm hw hB hz1 hk1 hS1 => ?_)
  cases hw
  rw [ht] at hB
  exact k H1 locs1 ls hB hS1 hl9
theorem g_callSl (C : cr_C p l e R s m args below meth c sf N base D cA cc nL own) {y : MethodName} {bytes : ByteArray} {maxL n fr lo index : Nat} {ret : Option FieldType} {res : cr_S × Int64} (As : List Value) {stk : List Value}  (hY : cr_Y y bytes maxL n ret) (hv : Cond.static y ∈ cr_T) (hl : Cond.methodLink own index y ∈ cr_T) (hR : fr + 1 ≤ R.frames ∧ 8 + (maxL + 11) + lo ≤ R.locals) (hn : As.length = n) (hm : (st.map fun v => v.category).sum ≤ 8) (hk : stk = As.reverse ++ st) (hd : decode cc pc = .ok (.invokestatic index, 3)) (hM : cr_M l y bytes maxL ret fr lo sf N base D cA As σ (cr_Ql sf N base D cA res)) (hp : pc + 3 = pc') (k : cr_W p l e R s m args below meth c sf N base D cA nL Q res.1 pc' lv (.long res.2 :: st)) : cr_W p l e R s m args below meth c sf N base D cA nL Q σ pc lv stk := by
  subst hp
  subst hk
  intro H locs ls hP hS hl9
  refine va_calll (va_runS (As := As) (rest := st) ⟨C.1, C.2.1, C.2.2.1, C.2.2.2.1, C.2.2.2.2.1⟩ hM ⟨cr_callB C hY hl hR, C.2.2.2.2.1 _ hv⟩ ⟨cr_blind, fun U hU hW => cr_pre C hS hP U hU hW⟩ rfl hn hl9.1 rfl (lv_room hm) hd ⟨Nat.zero_le _, Nat.zero_le _⟩) hS (fun q _ h => h) (fun q h => h) (fun r u t H1 locs1 ht hvm hw hB hz1 hk1 hS1 => ?_)
  cases hw
  rw [ht] at hB
  exact k H1 locs1 ls hB hS1 hl9
theorem g_callSv (C : cr_C p l e R s m args below meth c sf N base D cA cc nL own) {y : MethodName} {bytes : ByteArray} {maxL n fr lo index : Nat} {ret : Option FieldType} {res : cr_S} (As : List Value) {stk : List Value}  (hY : cr_Y y bytes maxL n ret) (hv : Cond.static y ∈ cr_T) (hl : Cond.methodLink own index y ∈ cr_T) (hR : fr + 1 ≤ R.frames ∧ 8 + (maxL + 11) + lo ≤ R.locals) (hn : As.length = n) (hm : (st.map fun v => v.category).sum ≤ 8) (hk : stk = As.reverse ++ st) (hd : decode cc pc = .ok (.invokestatic index, 3)) (hM : cr_M l y bytes maxL ret fr lo sf N base D cA As σ (cr_Qv sf N base D cA res)) (hp : pc + 3 = pc') (k : cr_W p l e R s m args below meth c sf N base D cA nL Q res pc' lv (st)) : cr_W p l e R s m args below meth c sf N base D cA nL Q σ pc lv stk := by
  subst hp
  subst hk
  intro H locs ls hP hS hl9
  refine va_callv (va_runS (As := As) (rest := st) ⟨C.1, C.2.1, C.2.2.1, C.2.2.2.1, C.2.2.2.2.1⟩ hM ⟨cr_callB C hY hl hR, C.2.2.2.2.1 _ hv⟩ ⟨cr_blind, fun U hU hW => cr_pre C hS hP U hU hW⟩ rfl hn hl9.1 rfl (lv_room hm) hd ⟨Nat.zero_le _, Nat.zero_le _⟩) hS (fun q _ h => h) (fun q h => h) (fun u t H1 locs1 ht hvm hw hB hz1 hk1 hS1 => ?_)
  rw [ht] at hB
  exact k H1 locs1 ls hB hS1 hl9
theorem g_callNi (C : cr_C p l e R s m args below meth c sf N base D cA cc nL own) {y : MethodName} {bytes : ByteArray} {maxL n fr lo index : Nat} {ret : Option FieldType} {res : cr_S × Int32} (As : List Value) {stk : List Value} {host : String} (hY : cr_Y y bytes maxL n ret) (hv : Cond.static y ∈ cr_T) (hl : Cond.methodLinkNest own index y host ∈ cr_NW) (hR : fr + 1 ≤ R.frames ∧ 8 + (maxL + 11) + lo ≤ R.locals) (hn : As.length = n) (hm : (st.map fun v => v.category).sum ≤ 8) (hk : stk = As.reverse ++ st) (hd : decode cc pc = .ok (.invokestatic index, 3)) (hM : cr_M l y bytes maxL ret fr lo sf N base D cA As σ (cr_Qi sf N base D cA res)) (hp : pc + 3 = pc') (k : cr_W p l e R s m args below meth c sf N base D cA nL Q res.1 pc' lv (.int res.2 :: st)) : cr_W p l e R s m args below meth c sf N base D cA nL Q σ pc lv stk := by
  subst hp
  subst hk
  intro H locs ls hP hS hl9
  refine va_calli (va_runSN (As := As) (rest := st) ⟨C.1, C.2.1, C.2.2.1, C.2.2.2.1, C.2.2.2.2.1⟩ hM ⟨cr_callN C hY hl hR, C.2.2.2.2.1 _ hv, trivial⟩ ⟨cr_blind, fun U hU hW => cr_pre C hS hP U hU hW⟩ rfl hn hl9.1 rfl (lv_room hm) hd ⟨Nat.zero_le _, Nat.zero_le _⟩) hS (fun q _ h => h) (fun q h => h) (fun r u t H1 locs1 ht hvm hw hB hz1 hk1 hS1 => ?_)
  cases hw
  rw [ht] at hB
  exact k H1 locs1 ls hB hS1 hl9
theorem g_callNl (C : cr_C p l e R s m args below meth c sf N base D cA cc nL own) {y : MethodName} {bytes : ByteArray} {maxL n fr lo index : Nat} {ret : Option FieldType} {res : cr_S × Int64} (As : List Value) {stk : List Value} {host : String} (hY : cr_Y y bytes maxL n ret) (hv : Cond.static y ∈ cr_T) (hl : Cond.methodLinkNest own index y host ∈ cr_NW) (hR : fr + 1 ≤ R.frames ∧ 8 + (maxL + 11) + lo ≤ R.locals) (hn : As.length = n) (hm : (st.map fun v => v.category).sum ≤ 8) (hk : stk = As.reverse ++ st) (hd : decode cc pc = .ok (.invokestatic index, 3)) (hM : cr_M l y bytes maxL ret fr lo sf N base D cA As σ (cr_Ql sf N base D cA res)) (hp : pc + 3 = pc') (k : cr_W p l e R s m args below meth c sf N base D cA nL Q res.1 pc' lv (.long res.2 :: st)) : cr_W p l e R s m args below meth c sf N base D cA nL Q σ pc lv stk := by
  subst hp
  subst hk
  intro H locs ls hP hS hl9
  refine va_calll (va_runSN (As := As) (rest := st) ⟨C.1, C.2.1, C.2.2.1, C.2.2.2.1, C.2.2.2.2.1⟩ hM ⟨cr_callN C hY hl hR, C.2.2.2.2.1 _ hv, trivial⟩ ⟨cr_blind, fun U hU hW => cr_pre C hS hP U hU hW⟩ rfl hn hl9.1 rfl (lv_room hm) hd ⟨Nat.zero_le _, Nat.zero_le _⟩) hS (fun q _ h => h) (fun q h => h) (fun r u t H1 locs1 ht hvm hw hB hz1 hk1 hS1 => ?_)
  cases hw
  rw [ht] at hB
  exact k H1 locs1 ls hB hS1 hl9
theorem g_callNv (C : cr_C p l e R s m args below meth c sf N base D cA cc nL own) {y : MethodName} {bytes : ByteArray} {maxL n fr lo index : Nat} {ret : Option FieldType} {res : cr_S} (As : List Value) {stk : List Value} {host : String} (hY : cr_Y y bytes maxL n ret) (hv : Cond.static y ∈ cr_T) (hl : Cond.methodLinkNest own index y host ∈ cr_NW) (hR : fr + 1 ≤ R.frames ∧ 8 + (maxL + 11) + lo ≤ R.locals) (hn : As.length = n) (hm : (st.map fun v => v.category).sum ≤ 8) (hk : stk = As.reverse ++ st) (hd : decode cc pc = .ok (.invokestatic index, 3)) (hM : cr_M l y bytes maxL ret fr lo sf N base D cA As σ (cr_Qv sf N base D cA res)) (hp : pc + 3 = pc') (k : cr_W p l e R s m args below meth c sf N base D cA nL Q res pc' lv (st)) : cr_W p l e R s m args below meth c sf N base D cA nL Q σ pc lv stk := by
  subst hp
  subst hk
  intro H locs ls hP hS hl9
  refine va_callv (va_runSN (As := As) (rest := st) ⟨C.1, C.2.1, C.2.2.1, C.2.2.2.1, C.2.2.2.2.1⟩ hM ⟨cr_callN C hY hl hR, C.2.2.2.2.1 _ hv, trivial⟩ ⟨cr_blind, fun U hU hW => cr_pre C hS hP U hU hW⟩ rfl hn hl9.1 rfl (lv_room hm) hd ⟨Nat.zero_le _, Nat.zero_le _⟩) hS (fun q _ h => h) (fun q h => h) (fun u t H1 locs1 ht hvm hw hB hz1 hk1 hS1 => ?_)
  rw [ht] at hB
  exact k H1 locs1 ls hB hS1 hl9
end
/-- a contract out of a walk from the entry -/
theorem cr_enter {l : Launch} {y : MethodName} {bytes : ByteArray} {maxL fr lo : Nat} {ret : Option FieldType} {sf : Nat → cr_Sh} {N base : Nat} {D : va_G} {cA : Nat → ClassId} {σ : cr_S} {Qc : Array Value → State → Outcome → State → Prop} (av : List Value) (lv : List (Nat × Value)) (hy : plainName y.cls = true) (hn : (lg_sl av).length ≤ maxL) (hlv : lv_args 0 av = lv)
    (k : ∀ (p : Program) (e : Env) (R : Room) (s : State) (m : MethodId) (below : List Frame) (meth : Method) (c : Code), cr_C p l e R s m av.toArray below meth c sf N base D cA bytes maxL y.cls → meth.sig.returnType = ret → (fr ≤ R.frames ∧ lo ≤ R.locals) → cr_W p l e R s m av.toArray below meth c sf N base D cA maxL (MQ below Qc av.toArray s 0 0 (cr_A N base)) σ 0 lv []) : cr_M l y bytes maxL ret fr lo sf N base D cA av σ Qc := by
  refine Met.ofW (cc := bytes) (maxL := maxL) (ret := ret) hy rfl ?_
  intro p e s m args below meth c s₁ B hml hv
  obtain ⟨rfl, hP, hK, hN, hF⟩ := hv
  have hts := atoms_spec (ws := cr_w y bytes maxL ret) B.pre
  have hown : s.vm.findClass y.cls = some m.cls := findClass_of_methodNamed B.named
  have hl := lv_entry av (n := maxL) hn
  rw [lg_entry_eq]
  rw [hlv] at hl
  exact k p e _ s m below meth c ⟨B.exec, B.bytes, hml, hown, fun w h => hts w (List.mem_cons_of_mem _ h), hN, hK, B.notSynchronized, hF⟩ B.returns ⟨Nat.le_refl _, Nat.le_refl _⟩ s.heap [] _ hP va_S.rf hl

/-! the law: both worlds side by side, the class's from the first new cell on, the reference's behind it -/
def ly_A (s : State) : Nat → Prop := fun q => s.heap.size ≤ q
def ly_C (p : Program) (s : State) (m : MethodId) (b L : Nat) (xs : Nat → Int32) (meth : Method) (c : Code) (D : va_G) (cA : Nat → ClassId) : Prop :=
  p.tables.exec = Jvm.exec ∧ c.code = cL_law ∧ c.maxLocals = 4 ∧ s.vm.findClass "ClashRocksLaw" = some m.cls ∧ (∀ w ∈ cr_T, w.before #[Value.ref b] s = true) ∧ (∀ w ∈ cr_NW, va_Nw w s) ∧ va_K D vwCl (cr_tys cA) s ∧ meth.locks = false ∧ cr_SF cA (ly_A s) s ∧ va_X b L xs s s.heap ∧ b < s.heap.size ∧ L ≤ 448
def ly_W (p : Program) (l : Launch) (e : Env) (s : State) (m : MethodId) (b : Nat) (below : List Frame) (meth : Method) (c : Code) (D : va_G) (cA : Nat → ClassId) (Q : State → Prop) (σ τ : cr_S) (pc : Nat) (lv : List (Nat × Value)) (st : List Value) : Prop :=
  ∀ (H : Heap) (locs : List Loc) (ls : Array Slot), va_P D vwCl (cr_L sfC 97 s.heap.size cA σ) H → va_P D vwCl (cr_L sfM 17 (s.heap.size + 97) cA τ) H → va_S (ly_A s) s.heap H locs → lv_has ls 4 lv → W p l e room_1 s m #[Value.ref b] below meth c H locs 114 6717 Q (F0 m pc ls st)
theorem cr_SF_narrow {cA : Nat → ClassId} {A B : Nat → Prop} {U : State} (h : cr_SF cA A U) (hAB : ∀ q, B q → A q) : cr_SF cA B U := ⟨vk_S.narrow h.1 hAB, h.2.1, h.2.2.1, va_Z.narrow h.2.2.2 hAB⟩
section
variable {p : Program} {l : Launch} {e : Env} {s : State} {m : MethodId} {b L : Nat} {xs : Nat → Int32} {below : List Frame} {meth : Method} {c : Code} {D : va_G} {cA : Nat → ClassId} {Q : State → Prop} {σ τ : cr_S} {pc pc' : Nat} {lv lv' : List (Nat × Value)} {st : List Value}
theorem y_iconst (C : ly_C p s m b L xs meth c D cA) {n : Int} {v : Int32} (hd : decode cL_law pc = .ok (.iconst n, 1)) (hv : Int32.ofInt n = v) (hp : pc + 1 = pc') (k : ly_W p l e s m b below meth c D cA Q σ τ pc' lv (.int v :: st)) : ly_W p l e s m b below meth c D cA Q σ τ pc lv (st) := by
  subst hp
  intro H locs ls hP hP2 hS hl
  exact lv_iconst C.1 C.2.1 hd hv (k H locs ls hP hP2 hS hl)
theorem y_bipush (C : ly_C p s m b L xs meth c D cA) {n : Int} {v : Int32} (hd : decode cL_law pc = .ok (.bipush n, 2)) (hv : (Int8.ofInt n).toInt32 = v) (hp : pc + 2 = pc') (k : ly_W p l e s m b below meth c D cA Q σ τ pc' lv (.int v :: st)) : ly_W p l e s m b below meth c D cA Q σ τ pc lv (st) := by
  subst hp
  intro H locs ls hP hP2 hS hl
  exact lv_bipush C.1 C.2.1 hd hv (k H locs ls hP hP2 hS hl)
theorem y_ldc2 (C : ly_C p s m b L xs meth c D cA) {index : Nat} {v : Int64} (hd : decode cL_law pc = .ok (.ldc2_w index, 3)) (hw : Cond.constantLong "ClashRocksLaw" index v ∈ cr_T) (hp : pc + 3 = pc') (k : ly_W p l e s m b below meth c D cA Q σ τ pc' lv (.long v :: st)) : ly_W p l e s m b below meth c D cA Q σ τ pc lv (st) := by
  subst hp
  intro H locs ls hP hP2 hS hl
  exact lv_ldc2 C.1 C.2.1 C.2.2.2.1 (C.2.2.2.2.1 _ hw) hd (k H locs ls hP hP2 hS hl)
theorem y_iadd (C : ly_C p s m b L xs meth c D cA) {x y : Int32} (hd : decode cL_law pc = .ok (.iadd, 1))  (hp : pc + 1 = pc') (k : ly_W p l e s m b below meth c D cA Q σ τ pc' lv (.int (x + y) :: st)) : ly_W p l e s m b below meth c D cA Q σ τ pc lv (.int y :: .int x :: st) := by
  subst hp
  intro H locs ls hP hP2 hS hl
  exact lv_iadd C.1 C.2.1 hd (k H locs ls hP hP2 hS hl)
theorem y_isub (C : ly_C p s m b L xs meth c D cA) {x y : Int32} (hd : decode cL_law pc = .ok (.isub, 1))  (hp : pc + 1 = pc') (k : ly_W p l e s m b below meth c D cA Q σ τ pc' lv (.int (x - y) :: st)) : ly_W p l e s m b below meth c D cA Q σ τ pc lv (.int y :: .int x :: st) := by
  subst hp
  intro H locs ls hP hP2 hS hl
  exact lv_isub C.1 C.2.1 hd (k H locs ls hP hP2 hS hl)
theorem y_iand (C : ly_C p s m b L xs meth c D cA) {x y : Int32} (hd : decode cL_law pc = .ok (.iand, 1))  (hp : pc + 1 = pc') (k : ly_W p l e s m b below meth c D cA Q σ τ pc' lv (.int (x &&& y) :: st)) : ly_W p l e s m b below meth c D cA Q σ τ pc lv (.int y :: .int x :: st) := by
  subst hp
  intro H locs ls hP hP2 hS hl
  exact lv_iand C.1 C.2.1 hd (k H locs ls hP hP2 hS hl)
theorem y_i2l (C : ly_C p s m b L xs meth c D cA) {x : Int32} (hd : decode cL_law pc = .ok (.i2l, 1))  (hp : pc + 1 = pc') (k : ly_W p l e s m b below meth c D cA Q σ τ pc' lv (.long x.toInt64 :: st)) : ly_W p l e s m b below meth c D cA Q σ τ pc lv (.int x :: st) := by
  subst hp
  intro H locs ls hP hP2 hS hl
  exact lv_i2l C.1 C.2.1 hd rfl (k H locs ls hP hP2 hS hl)
theorem y_lshl (C : ly_C p s m b L xs meth c D cA) {x : Int64} {y : Int32} (hd : decode cL_law pc = .ok (.lshl, 1))  (hp : pc + 1 = pc') (k : ly_W p l e s m b below meth c D cA Q σ τ pc' lv (.long (x <<< (y.toInt64 &&& 63)) :: st)) : ly_W p l e s m b below meth c D cA Q σ τ pc lv (.int y :: .long x :: st) := by
  subst hp
  intro H locs ls hP hP2 hS hl
  exact lv_lshl C.1 C.2.1 hd rfl (k H locs ls hP hP2 hS hl)
theorem y_land (C : ly_C p s m b L xs meth c D cA) {x y : Int64} (hd : decode cL_law pc = .ok (.land, 1))  (hp : pc + 1 = pc') (k : ly_W p l e s m b below meth c D cA Q σ τ pc' lv (.long (x &&& y) :: st)) : ly_W p l e s m b below meth c D cA Q σ τ pc lv (.long y :: .long x :: st) := by
  subst hp
  intro H locs ls hP hP2 hS hl
  exact lv_land C.1 C.2.1 hd (k H locs ls hP hP2 hS hl)
theorem y_lor (C : ly_C p s m b L xs meth c D cA) {x y : Int64} (hd : decode cL_law pc = .ok (.lor, 1))  (hp : pc + 1 = pc') (k : ly_W p l e s m b below meth c D cA Q σ τ pc' lv (.long (x ||| y) :: st)) : ly_W p l e s m b below meth c D cA Q σ τ pc lv (.long y :: .long x :: st) := by
  subst hp
  intro H locs ls hP hP2 hS hl
  exact lv_lor C.1 C.2.1 hd (k H locs ls hP hP2 hS hl)
theorem y_iload_n (C : ly_C p s m b L xs meth c D cA) {j : Fin 4} {x : Int32} (hd : decode cL_law pc = .ok (.iload_n j, 1)) (n : Nat) (hk : lv[n]? = some ((j : Nat), .int x)) (hp : pc + 1 = pc') (k : ly_W p l e s m b below meth c D cA Q σ τ pc' lv (.int x :: st)) : ly_W p l e s m b below meth c D cA Q σ τ pc lv (st) := by
  subst hp
  intro H locs ls hP hP2 hS hl
  exact lv_iload_n C.1 C.2.1 hd rfl (lv_at hl n hk) (k H locs ls hP hP2 hS hl)
theorem y_aload_n (C : ly_C p s m b L xs meth c D cA) {j : Fin 4} {x : Nat} (hd : decode cL_law pc = .ok (.aload_n j, 1)) (n : Nat) (hk : lv[n]? = some ((j : Nat), .ref x)) (hp : pc + 1 = pc') (k : ly_W p l e s m b below meth c D cA Q σ τ pc' lv (.ref x :: st)) : ly_W p l e s m b below meth c D cA Q σ τ pc lv (st) := by
  subst hp
  intro H locs ls hP hP2 hS hl
  exact lv_aload_n C.1 C.2.1 hd rfl (lv_at hl n hk) (k H locs ls hP hP2 hS hl)
theorem y_istore_n (C : ly_C p s m b L xs meth c D cA) {j : Fin 4} {i : Nat} {x : Int32} (hd : decode cL_law pc = .ok (.istore_n j, 1)) (hi : (j : Nat) = i) (hn : i < 4) (hv : (i, Value.int x) :: lv.filter (fun q => !(q.1 == i) && !(q.1 + 1 == i && q.2.category == 2)) = lv') (hp : pc + 1 = pc') (k : ly_W p l e s m b below meth c D cA Q σ τ pc' lv' st) : ly_W p l e s m b below meth c D cA Q σ τ pc lv (Value.int x :: st) := by
  subst hp
  intro H locs ls hP hP2 hS hl
  exact lv_istore_n C.1 C.2.1 hd hi hl hn hv (fun ls' hl' => k H locs ls' hP hP2 hS hl')
theorem y_iinc (C : ly_C p s m b L xs meth c D cA) {i : Nat} {d : Int} {x v : Int32} (hd : decode cL_law pc = .ok (.iinc i d, 3)) (n : Nat) (hk : lv[n]? = some (i, .int x)) (hw : x + Int32.ofInt d = v) (hn : i < 4) (hv : (i, Value.int v) :: lv.filter (fun q => !(q.1 == i) && !(q.1 + 1 == i && q.2.category == 2)) = lv') (hp : pc + 3 = pc') (k : ly_W p l e s m b below meth c D cA Q σ τ pc' lv' st) : ly_W p l e s m b below meth c D cA Q σ τ pc lv st := by
  subst hp
  intro H locs ls hP hP2 hS hl
  exact lv_iinc C.1 C.2.1 hd hl hk hw hn hv (fun ls' hl' => k H locs ls' hP hP2 hS hl')
theorem y_icmp_gt (C : ly_C p s m b L xs meth c D cA) {x y : Int32} {off : Int} {tgt : Nat} (hd : decode cL_law pc = .ok (.if_icmp .gt off, 3)) (ht : (pc : Int) + off = (tgt : Int)) (hp : pc + 3 = pc') (kt : y < x → ly_W p l e s m b below meth c D cA Q σ τ tgt lv st) (kf : ¬ y < x → ly_W p l e s m b below meth c D cA Q σ τ pc' lv st) : ly_W p l e s m b below meth c D cA Q σ τ pc lv (.int y :: .int x :: st) := by
  subst hp
  intro H locs ls hP hP2 hS hl
  exact lv_icmp_gt C.1 C.2.1 hd ht (fun q => kt q H locs ls hP hP2 hS hl) (fun q => kf q H locs ls hP hP2 hS hl)
theorem y_icmp_eq (C : ly_C p s m b L xs meth c D cA) {x y : Int32} {off : Int} {tgt : Nat} (hd : decode cL_law pc = .ok (.if_icmp .eq off, 3)) (ht : (pc : Int) + off = (tgt : Int)) (hp : pc + 3 = pc') (kt : x = y → ly_W p l e s m b below meth c D cA Q σ τ tgt lv st) (kf : ¬ x = y → ly_W p l e s m b below meth c D cA Q σ τ pc' lv st) : ly_W p l e s m b below meth c D cA Q σ τ pc lv (.int y :: .int x :: st) := by
  subst hp
  intro H locs ls hP hP2 hS hl
  exact lv_icmp_eq C.1 C.2.1 hd ht (fun q => kt q H locs ls hP hP2 hS hl) (fun q => kf q H locs ls hP hP2 hS hl)
theorem y_goto (C : ly_C p s m b L xs meth c D cA) {off : Int} {tgt : Nat} (hd : decode cL_law pc = .ok (.goto off, 3)) (ht : (pc : Int) + off = (tgt : Int)) (k : ly_W p l e s m b below meth c D cA Q σ τ tgt lv st) : ly_W p l e s m b below meth c D cA Q σ τ pc lv st := by
  intro H locs ls hP hP2 hS hl
  exact lv_goto C.1 C.2.1 hd ht (k H locs ls hP hP2 hS hl)
theorem y_tableIn (C : ly_C p s m b L xs meth c D cA) {dflt lo hi : Int} {offs : Array Int} {len : Nat} {x : Int32} {off : Int} {tgt : Nat} (hd : decode cL_law pc = .ok (.tableswitch dflt lo hi offs, len)) (h1 : ¬ x.toInt < lo) (h2 : ¬ hi < x.toInt) (ho : offs[(x.toInt - lo).toNat]? = some off) (ht : (pc : Int) + off = (tgt : Int)) (k : ly_W p l e s m b below meth c D cA Q σ τ tgt lv st) : ly_W p l e s m b below meth c D cA Q σ τ pc lv (.int x :: st) := by
  intro H locs ls hP hP2 hS hl
  exact lv_tableIn C.1 C.2.1 hd h1 h2 ho ht (k H locs ls hP hP2 hS hl)
theorem y_tableOut (C : ly_C p s m b L xs meth c D cA) {dflt lo hi : Int} {offs : Array Int} {len : Nat} {x : Int32} {tgt : Nat} (hd : decode cL_law pc = .ok (.tableswitch dflt lo hi offs, len)) (h1 : x.toInt < lo ∨ hi < x.toInt) (ht : (pc : Int) + dflt = (tgt : Int)) (k : ly_W p l e s m b below meth c D cA Q σ τ tgt lv st) : ly_W p l e s m b below meth c D cA Q σ τ pc lv (.int x :: st) := by
  intro H locs ls hP hP2 hS hl
  exact lv_tableOut C.1 C.2.1 hd h1 ht (k H locs ls hP hP2 hS hl)
theorem y_sld (C : ly_C p s m b L xs meth c D cA) {x : Int32} (hin : vp_in x L) (hd : decode cL_law pc = .ok (.iaload, 1)) (hp : pc + 1 = pc') (k : ly_W p l e s m b below meth c D cA Q σ τ pc' lv (.int (xs x.toNatClampNeg) :: st)) : ly_W p l e s m b below meth c D cA Q σ τ pc lv (.int x :: .ref b :: st) := by
  subst hp
  intro H locs ls hP hP2 hS hl
  exact va_sld C.1 C.2.1 C.2.2.2.2.2.2.2.2.2.1 C.2.2.2.2.2.2.2.2.2.2.1 (Nat.not_le.mpr C.2.2.2.2.2.2.2.2.2.2.1) hS hin hd (k H locs ls hP hP2 hS hl)
theorem y_slen (C : ly_C p s m b L xs meth c D cA) (hd : decode cL_law pc = .ok (.arraylength, 1)) (hp : pc + 1 = pc') (k : ly_W p l e s m b below meth c D cA Q σ τ pc' lv (.int (Int32.ofNat L) :: st)) : ly_W p l e s m b below meth c D cA Q σ τ pc lv (.ref b :: st) := by
  subst hp
  intro H locs ls hP hP2 hS hl
  exact va_slen C.1 C.2.1 C.2.2.2.2.2.2.2.2.2.1 C.2.2.2.2.2.2.2.2.2.2.1 (Nat.not_le.mpr C.2.2.2.2.2.2.2.2.2.2.1) hS hd (k H locs ls hP hP2 hS hl)
theorem y_cw (C : ly_C p s m b L xs meth c D cA) {y : MethodName} {bytes : ByteArray} {maxL n fr lo index : Nat} {ret : Option FieldType} (hY : cr_Y y bytes maxL n ret) (hl : Cond.methodLink "ClashRocksLaw" index y ∈ cr_T) (hR : fr + 1 ≤ room_1.frames ∧ 8 + (maxL + 11) + lo ≤ room_1.locals) : CallB room_1 s #[Value.ref b] "ClashRocksLaw" index y bytes maxL ret (cr_w y bytes maxL ret) { frames := fr, cells := 0, slots := 0, locals := lo } 0 0 n :=
  callB_of n C.2.2.2.2.1 (cr_good (fun w h => (List.mem_cons.mp h).elim (fun q => by rw [q]; exact hY.1) id)) rfl rfl rfl (C.2.2.2.2.1 _ hY.2.1) (C.2.2.2.2.1 _ hl) hY.2.2 hR
theorem y_pre (C : ly_C p s m b L xs meth c D cA) {sf : Nat → cr_Sh} {N base : Nat} {σ : cr_S} (hb : s.heap.size ≤ base) {av : List Value} {H : Heap} {locs : List Loc} (hS : va_S (ly_A s) s.heap H locs) (hP : va_P D vwCl (cr_L sf N base cA σ) H) (U : State) (hU : U.heap = H) (hW : s.WarmedH U.vm) : va_Pc av (cr_H sf N base D cA σ) av.toArray U :=
  ⟨rfl, by rw [hU]; exact hP, va_K.moved hW.alike C.2.2.2.2.2.2.1, cr_NW_warm hW C.2.2.2.2.2.1, cr_SF_narrow (cr_SF_go hS hU hW C.2.2.2.2.2.2.2.2.1) (fun q h => Nat.le_trans hb h.1)⟩
theorem y_keep {sf : Nat → cr_Sh} {N base N2 base2 : Nat} {σ : cr_S} {H H1 : Heap} (hP : va_P D vwCl (cr_L sf N base cA σ) H) (hk : ∀ q : Nat, q < H.size → ¬ cr_A N2 base2 q → H1[q]? = H[q]?) (hd : base + N ≤ base2 ∨ base2 + N2 ≤ base) : va_P D vwCl (cr_L sf N base cA σ) H1 := hP.kept (fun k q hq => by
  refine hk q.1 (hP k q hq).lt (fun h => ?_)
  obtain ⟨h1, rfl⟩ := cr_L_in hq
  have h2 := h.1
  have h3 := h.2
  dsimp only at h2 h3
  omega)
theorem y_callC (C : ly_C p s m b L xs meth c D cA) {y : MethodName} {bytes : ByteArray} {maxL n fr lo index : Nat} {ret : Option FieldType} {res : cr_S × Int32} (As : List Value) {stk : List Value} (hY : cr_Y y bytes maxL n ret) (hv : Cond.instanceMethod y ∈ cr_T ∧ Cond.selects RX10 y y ∈ cr_T) (hl : Cond.methodLink "ClashRocksLaw" index y ∈ cr_T) (hR : fr + 1 ≤ room_1.frames ∧ 8 + (maxL + 11) + lo ≤ room_1.locals) (hn : As.length = n) (hm : (st.map fun v => v.category).sum ≤ 8) (hk : stk = As.reverse ++ .ref (s.heap.size + 0) :: st) (hd : decode cL_law pc = .ok (.invokevirtual index, 3)) (hM : cr_M l y bytes maxL ret fr lo sfC 97 s.heap.size D cA (.ref (s.heap.size + 0) :: As) σ (cr_Qi sfC 97 s.heap.size D cA res)) (hp : pc + 3 = pc') (k : ly_W p l e s m b below meth c D cA Q res.1 τ pc' lv (.int res.2 :: st)) : ly_W p l e s m b below meth c D cA Q σ τ pc lv stk := by
  subst hp
  subst hk
  intro H locs ls hP hP2 hS hl9
  have he := cr_L_at (sf := sfC) (N := 97) (o := 0) (base := s.heap.size) (cA := cA) (σ := σ) (by decide)
  rw [sfC_10 (by decide)] at he
  have hA : ∀ q, cr_A 97 s.heap.size q → ly_A s q := fun q h => h.1
  refine va_calli (va_runV (C := RX10) (As := As) (rest := st) ⟨C.1, C.2.1, C.2.2.1, C.2.2.2.1, C.2.2.2.2.1⟩ hM ⟨y_cw C hY hl hR, C.2.2.2.2.1 _ hv.1, C.2.2.2.2.1 _ hv.2⟩ ⟨cr_blind, va_recv C.2.2.2.2.2.2.1 hP (ci := 10) rfl he, fun U hU hW => y_pre C (Nat.le_refl _) hS hP U hU hW⟩ rfl hn hl9.1 rfl (lv_room hm) hd ⟨Nat.le_of_ble_eq_true rfl, Nat.le_of_ble_eq_true rfl⟩) hS (fun q _ h => hA q h) hA (fun r u t H1 locs1 ht hvm hw hB hz1 hk1 hS1 => ?_)
  cases hw
  rw [ht] at hB
  exact k H1 locs1 ls hB (y_keep hP2 hk1 (Or.inr (Nat.le_refl _))) hS1 hl9
theorem y_callM (C : ly_C p s m b L xs meth c D cA) {y : MethodName} {bytes : ByteArray} {maxL n fr lo index : Nat} {ret : Option FieldType} {res : cr_S × Int32} (As : List Value) {stk : List Value} (hY : cr_Y y bytes maxL n ret) (hv : Cond.instanceMethod y ∈ cr_T ∧ Cond.selects RX11 y y ∈ cr_T) (hl : Cond.methodLink "ClashRocksLaw" index y ∈ cr_T) (hR : fr + 1 ≤ room_1.frames ∧ 8 + (maxL + 11) + lo ≤ room_1.locals) (hn : As.length = n) (hm : (st.map fun v => v.category).sum ≤ 8) (hk : stk = As.reverse ++ .ref (s.heap.size + 97 + 0) :: st) (hd : decode cL_law pc = .ok (.invokevirtual index, 3)) (hM : cr_M l y bytes maxL ret fr lo sfM 17 (s.heap.size + 97) D cA (.ref (s.heap.size + 97 + 0) :: As) τ (cr_Qi sfM 17 (s.heap.size + 97) D cA res)) (hp : pc + 3 = pc') (k : ly_W p l e s m b below meth c D cA Q σ res.1 pc' lv (.int res.2 :: st)) : ly_W p l e s m b below meth c D cA Q σ τ pc lv stk := by
  subst hp
  subst hk
  intro H locs ls hP hP2 hS hl9
  have he := cr_L_at (sf := sfM) (N := 17) (o := 0) (base := s.heap.size + 97) (cA := cA) (σ := τ) (by decide)
  have hA : ∀ q, cr_A 17 (s.heap.size + 97) q → ly_A s q := fun q h => Nat.le_trans (Nat.le_add_right _ _) h.1
  refine va_calli (va_runV (C := RX11) (As := As) (rest := st) ⟨C.1, C.2.1, C.2.2.1, C.2.2.2.1, C.2.2.2.2.1⟩ hM ⟨y_cw C hY hl hR, C.2.2.2.2.1 _ hv.1, C.2.2.2.2.1 _ hv.2⟩ ⟨cr_blind, va_recv C.2.2.2.2.2.2.1 hP2 (ci := 11) rfl he, fun U hU hW => y_pre C (Nat.le_add_right _ _) hS hP2 U hU hW⟩ rfl hn hl9.1 rfl (lv_room hm) hd ⟨Nat.le_of_ble_eq_true rfl, Nat.le_of_ble_eq_true rfl⟩) hS (fun q _ h => hA q h) hA (fun r u t H1 locs1 ht hvm hw hB hz1 hk1 hS1 => ?_)
  cases hw
  rw [ht] at hB
  exact k H1 locs1 ls (y_keep hP hk1 (Or.inl (Nat.le_refl _))) hB hS1 hl9
end

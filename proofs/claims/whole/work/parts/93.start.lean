theorem bo_Pair : Cond.arrayOver (.object "ClashRocks$Pair") ∈ lw_tbl := List.mem_of_getElem? (i := 92) (by decide +kernel)
theorem bo_Ship : Cond.arrayOver (.object "ClashRocks$Ship") ∈ lw_tbl := List.mem_of_getElem? (i := 94) (by decide +kernel)
theorem bo_Voyage : Cond.arrayOver (.object "ClashRocks$Voyage") ∈ lw_tbl := List.mem_of_getElem? (i := 118) (by decide +kernel)
theorem bo_Row : Cond.arrayOver (.object "ClashRocks$Row") ∈ lw_tbl := List.mem_of_getElem? (i := 353) (by decide +kernel)
theorem bo_A : Cond.arrayOver (.array .int) ∈ lw_tbl := List.mem_of_getElem? (i := 304) (by decide +kernel)
theorem bo_s1 : Cond.stringRef "ClashRocks$Tape" 62 "pstf" ∈ lw_tbl := List.mem_of_getElem? (i := 494) (by decide +kernel)
theorem bo_s2 : Cond.stringRef "ClashRocks$Tape" 79 "PTBL" ∈ lw_tbl := List.mem_of_getElem? (i := 608) (by decide +kernel)
theorem bo_z : Cond.laysStatic "java/lang/String" "COMPACT_STRINGS" "Z" ∈ lw_tbl := List.mem_of_getElem? (i := 516) (by decide +kernel)
theorem bo_i : Cond.initialized "java/lang/String" ∈ lw_tbl := List.mem_of_getElem? (i := 68) (by decide +kernel)
theorem bc_7 : Cond.classLink "ClashRocksLaw" 7 RX10 ∈ cr_T := cr_T_mem (List.mem_of_getElem? (i := 77) (by decide +kernel)) (by decide +kernel)
theorem bc_10 : Cond.classLink "ClashRocksLaw" 10 RX11 ∈ cr_T := cr_T_mem (List.mem_of_getElem? (i := 936) (by decide +kernel)) (by decide +kernel)
/-- the classes -/
theorem b_D {s : State} {b : Nat} (hT : ∀ w ∈ cr_T, w.before #[Value.ref b] s = true) : ∃ D : va_G, ∀ (k : Nat) (q : vw_C), vwCl[k]? = some q → u_Kn s q.1 q.2.1 q.2.2 (D.1 k) (D.2 k) := by
  obtain ⟨c0, i0, hK0⟩ := u_known (C := RX0) (T := TX0) (N := 6) (n := 6) hT iX0 (hT _ zn_X0)
  obtain ⟨c1, i1, hK1⟩ := u_known (C := RX1) (T := TX1) (N := 6) (n := 6) hT iX1 (hT _ zn_X1)
  obtain ⟨c2, i2, hK2⟩ := u_known (C := RX2) (T := TX2) (N := 3) (n := 3) hT iX2 (hT _ zn_X2)
  obtain ⟨c3, i3, hK3⟩ := u_known (C := RX3) (T := TX3) (N := 5) (n := 5) hT iX3 (hT _ zn_X3)
  obtain ⟨c4, i4, hK4⟩ := u_known (C := RX4) (T := TX4) (N := 4) (n := 4) hT iX4 (hT _ zn_X4)
  obtain ⟨c5, i5, hK5⟩ := u_known (C := RX5) (T := TX5) (N := 5) (n := 5) hT iX5 (hT _ zn_X5)
  obtain ⟨c6, i6, hK6⟩ := u_known (C := RX6) (T := TX6) (N := 3) (n := 3) hT iX6 (hT _ zn_X6)
  obtain ⟨c7, i7, hK7⟩ := u_known (C := RX7) (T := TX7) (N := 7) (n := 7) hT iX7 (hT _ zn_X7)
  obtain ⟨c8, i8, hK8⟩ := u_known (C := RX8) (T := TX8) (N := 4) (n := 4) hT iX8 (hT _ zn_X8)
  obtain ⟨c9, i9, hK9⟩ := u_known (C := RX9) (T := TX9) (N := 9) (n := 9) hT iX9 (hT _ zn_X9)
  obtain ⟨c10, i10, hK10⟩ := u_known (C := RX10) (T := TX10) (N := 8) (n := 8) hT iX10 (hT _ zn_X10)
  obtain ⟨c11, i11, hK11⟩ := u_known (C := RX11) (T := TX11) (N := 34) (n := 34) hT iX11 (hT _ zn_X11)
  refine ⟨(fun k => [c0, c1, c2, c3, c4, c5, c6, c7, c8, c9, c10, c11].getD k 0, fun k => [i0, i1, i2, i3, i4, i5, i6, i7, i8, i9, i10, i11].getD k id), fun k q hq => ?_⟩
  match k, hq with
    | 0, hq => cases hq; exact hK0
    | 1, hq => cases hq; exact hK1
    | 2, hq => cases hq; exact hK2
    | 3, hq => cases hq; exact hK3
    | 4, hq => cases hq; exact hK4
    | 5, hq => cases hq; exact hK5
    | 6, hq => cases hq; exact hK6
    | 7, hq => cases hq; exact hK7
    | 8, hq => cases hq; exact hK8
    | 9, hq => cases hq; exact hK9
    | 10, hq => cases hq; exact hK10
    | 11, hq => cases hq; exact hK11
    | k + 12, hq => simp [vwCl] at hq
theorem b_prim {s : State} {b : Nat} {ty : FieldType} (h : (Cond.arrayClass ty).before #[Value.ref b] s = true) (hra : ∀ cy, s.vm.findClass ("[" ++ ty.toString) = some cy → va_RA s cy ty) : ∃ cy : ClassId, ArrOfT s cy ty ∧ va_RA s cy ty := by
  obtain ⟨cy, k, comp, h1, h2, h3⟩ := Cond.arrayClass_spec h
  exact ⟨cy, fun n z => ⟨fun k h => (by cases h), k, h2, comp, h3⟩, hra cy h1⟩
theorem b_obj {s : State} {b : Nat} {cn : String} (h : (Cond.arrayOver (.object cn)).before #[Value.ref b] s = true) : ∃ cy : ClassId, ArrOfT s cy (.object cn) ∧ va_RA s cy (.object cn) := by
  obtain ⟨comp, cy, k, h1, h2, h3, h4, h5⟩ := Cond.arrayOver_spec h
  exact ⟨cy, fun n z => ⟨fun k h => (by cases h), k, h3, comp, h4⟩, k, comp, h3, h4, h1, h5⟩
theorem b_arr {s : State} {b : Nat} (h : (Cond.arrayOver (.array .int)).before #[Value.ref b] s = true) : ∃ cy : ClassId, ArrOfT s cy (.array .int) ∧ va_RA s cy (.array .int) := by
  obtain ⟨comp, cy, k, h1, h2, h3, h4, h5⟩ := arrayOverA_spec h
  exact ⟨cy, fun n z => ⟨fun k h => (by cases h), k, h3, comp, h4⟩, h5⟩
def tmS (i : Nat) : Term := if i = 0 then .string "ClashRocks$Tape" 62 else .string "ClashRocks$Tape" 79
theorem i2 {i : Nat} (h : i < 2) : i = 0 ∨ i = 1 := by omega
theorem i4 {i : Nat} (h : i < 4) : i = 0 ∨ i = 1 ∨ i = 2 ∨ i = 3 := by omega
set_option maxRecDepth 100000 in
set_option maxHeartbeats 4000000 in
theorem b_str {s : State} {b : Nat} (hgv : (Jvm.Cond.and given_1 narrow_1).before #[Value.ref b] s = true) : ∃ adK adV : Nat → Nat, vk_S 2 [4, 4] bytS adK adV (ly_A s) s s.heap ∧ ∀ i : Nat, i < 2 → (tmS i).eval #[Value.ref b] s none [] s = some (.ref (adK i)) := by
  have hs := flat_of_before _ hgv
  refine vk_Sof (tm := tmS) (fun i hi => ?_) (fun i hi => ?_) (fun i hi => ?_) (fun i hi => ?_) (fun i hi => ?_) (fun i hi j hj => ?_) (fun i j hi hj hne => ?_) (fun a ha => Nat.not_le.mpr ha)
  · rcases i2 hi with rfl | rfl <;> decide
  · rcases i2 hi with rfl | rfl <;> exact hs _ (by decide +kernel)
  · rcases i2 hi with rfl | rfl <;> exact hs _ (by decide +kernel)
  · rcases i2 hi with rfl | rfl <;> exact hs _ (by decide +kernel)
  · rcases i2 hi with rfl | rfl <;> exact hs _ (by decide +kernel)
  · rcases i2 hi with rfl | rfl <;> rcases i4 hj with rfl | rfl | rfl | rfl <;> exact hs _ (by decide +kernel)
  · rcases i2 hi with rfl | rfl <;> rcases i2 hj with rfl | rfl
    · exact absurd rfl hne
    · exact Or.inl (hs _ (by decide +kernel))
    · exact Or.inr (hs _ (by decide +kernel))
    · exact absurd rfl hne
theorem b_ly {p : Program} {l : Launch} {e : Env} {s : State} {m : MethodId} {b : Nat} {below : List Frame} {meth : Method} {c : Code} {D : va_G} {cA : Nat → ClassId} {Q : State → Prop} {pc : Nat} {lv : List (Nat × Value)} {st : List Value} (k : ly_W p l e s m b below meth c D cA Q gC0 gM0 pc lv st) : zz_W p l e room_1 s m #[Value.ref b] below meth c D cA 4 Q s.heap.size 114 6717 (rX10 cA s.heap.size ++ rX11 cA (s.heap.size + 97)) pc lv st := by
  intro H locs ls hz hco hP hS hl
  refine k H locs ls ?_ ?_ hS hl
  · rw [← rC_eq]
    intro j q hq
    exact hP j q (by rw [List.getElem?_append_left (List.getElem?_eq_some_iff.mp hq).1]; exact hq)
  · rw [← rM_eq]
    intro j q hq
    refine hP (97 + j) q ?_
    rw [List.getElem?_append_right (by show 97 ≤ 97 + j; omega)]
    show (rX11 cA (s.heap.size + 97))[97 + j - 97]? = some q
    rw [Nat.add_sub_cancel_left]
    exact hq
set_option maxRecDepth 100000 in
set_option maxHeartbeats 4000000 in
/-- THE LAW, from its entry -/
theorem whole_start {p : Program} {e : Env} {s : State} {m : MethodId} {below : List Frame} {meth : Method} {c : Code} (l : Launch) {b L : Nat} {xs : Nat → Int32} (hL : L ≤ 448) (C0 : lw_At p s m meth c b L xs) : W p l e room_1 s m #[Value.ref b] below meth c s.heap [] 0 0 (lw_Z below #[Value.ref b] s) (entryFrame m ([Value.ref b] : List Value).toArray 4) := by
  obtain ⟨hx, hb, hr, hml, hown, hts, hX, hbl, hlocks, hgv⟩ := C0
  have hs := flat_of_before _ hgv
  have hT : ∀ w ∈ cr_T, w.before #[Value.ref b] s = true := fun w h => hts w (cr_T_sub h)
  have hN : ∀ w ∈ cr_NW, va_Nw w s := fun w h => by
    have h1 := hts w (List.mem_filter.mp h).1
    obtain ⟨x1, x2, x3, x4, rfl⟩ := cr_NW_is h
    exact va_Nw.of rfl h1
  obtain ⟨D, hD⟩ := b_D hT
  obtain ⟨g0, q0⟩ := b_prim (hT _ za_int) (fun _ h => h)
  obtain ⟨g1, q1⟩ := b_prim (hT _ za_char) (fun _ h => h)
  obtain ⟨g2, q2⟩ := b_prim (hT _ za_long) (fun _ h => h)
  obtain ⟨g3, q3⟩ := b_obj (hts _ bo_Pair)
  obtain ⟨g4, q4⟩ := b_obj (hts _ bo_Ship)
  obtain ⟨g5, q5⟩ := b_obj (hts _ bo_Voyage)
  obtain ⟨g6, q6⟩ := b_obj (hts _ bo_Row)
  obtain ⟨g7, q7⟩ := b_arr (hts _ bo_A)
  obtain ⟨adK, adV, hSt, hEv⟩ := b_str hgv
  obtain ⟨cA, e0, e1, e2, e3, e4, e5, e6, e7, eK0, eK1, eV0, eV1⟩ : ∃ cA : Nat → ClassId, cA 0 = g0 ∧ cA 1 = g1 ∧ cA 2 = g2 ∧ cA 3 = g3 ∧ cA 4 = g4 ∧ cA 5 = g5 ∧ cA 6 = g6 ∧ cA 7 = g7 ∧ cA 100 = adK 0 ∧ cA 101 = adK 1 ∧ cA 200 = adV 0 ∧ cA 201 = adV 1 := ⟨fun k => if k < 8 then [g0, g1, g2, g3, g4, g5, g6, g7].getD k 0 else if k < 150 then adK (k - 100) else adV (k - 200), rfl, rfl, rfl, rfl, rfl, rfl, rfl, rfl, rfl, rfl, rfl, rfl⟩
  subst e0 e1 e2 e3 e4 e5 e6 e7
  have hK : va_K D vwCl (cr_tys cA) s := by
    refine ⟨hD, fun k q hq => ?_⟩
    match k, hq with
    | 0, hq => cases hq; exact q0
    | 1, hq => cases hq; exact q1
    | 2, hq => cases hq; exact q2
    | 3, hq => cases hq; exact q3
    | 4, hq => cases hq; exact q4
    | 5, hq => cases hq; exact q5
    | 6, hq => cases hq; exact q6
    | 7, hq => cases hq; exact q7
    | k + 8, hq => simp [cr_tys] at hq
  have hSF : cr_SF cA (ly_A s) s := by
    refine ⟨⟨fun i hi => ?_, fun i j hi hj h => ?_⟩, ?_, ?_, va_Zof (hts _ bo_z) (hts _ bo_i) (va_eqi (hs _ (by decide +kernel))) (fun a ha => Nat.not_le.mpr ha)⟩
    · have := hSt.1 i hi
      rcases i2 hi with rfl | rfl
      · show va_O "java/lang/String" (cA 100) _ _ _ ∧ va_OF "java/lang/String" "coder" "B" (.int 0) (cA 100) _ _ _ ∧ va_OF "java/lang/String" "value" "[B" (.ref (cA 200)) (cA 100) _ _ _ ∧ va_T .byte (cA 200) _ _ _ _ _
        rw [eK0, eV0]
        exact this
      · show va_O "java/lang/String" (cA 101) _ _ _ ∧ va_OF "java/lang/String" "coder" "B" (.int 0) (cA 101) _ _ _ ∧ va_OF "java/lang/String" "value" "[B" (.ref (cA 201)) (cA 101) _ _ _ ∧ va_T .byte (cA 201) _ _ _ _ _
        rw [eK1, eV1]
        exact this
    · have h9 : cA (100 + i) = cA (100 + j) := h
      refine hSt.2 i j hi hj ?_
      rcases i2 hi with rfl | rfl <;> rcases i2 hj with rfl | rfl
      · rfl
      · rw [← eK0, ← eK1]; exact h9
      · rw [← eK0, ← eK1]; exact h9
      · rfl
    · rw [eK0]
      exact vk_R.of (hts _ bo_s1) (hEv 0 (by omega))
    · rw [eK1]
      exact vk_R.of (hts _ bo_s2) (hEv 1 (by omega))
  have CL : ly_C p s m b L xs meth c D cA := ⟨hx, hb, hml, hown, hT, hN, hK, hlocks, hSF, hX, hbl, hL⟩
  have C : zz_C p l e room_1 s m #[Value.ref b] below meth c D cA s.heap.size cL_law 4 "ClashRocksLaw" := ⟨hx, hb, hml, hown, hT, hN, hK, hlocks, fun h => absurd rfl h, ⟨va_AO.of (hts _ bo_Pair), va_AO.of (hts _ bo_Ship), va_AO.of (hts _ bo_Voyage), va_AO.of (hts _ bo_Row), hts _ bo_A⟩, Nat.le_refl _⟩
  have hl := lv_entry ([.ref b]) (n := 4) (Nat.le_of_ble_eq_true rfl)
  rw [lg_entry_eq]
  have hl : lv_has (lg_sl ([.ref b]) ++ List.replicate (4 - (lg_sl ([.ref b])).length) Slot.unset).toArray 4 [(0, .ref b)] := hl
  have GO : zz_W p l e room_1 s m #[Value.ref b] below meth c D cA 4 (lw_Z below #[Value.ref b] s) s.heap.size 0 0 [] 0 [(0, .ref b)] [] := by
    refine z_new (pc' := 3) (n := 0) (ci := 10) (fs := [.null, .null, .int 0, .null, .null, .null, .null, .null]) (ws' := [(s.heap.size + 0, .inr (10, [.null, .null, .int 0, .null, .null, .null, .null, .null]))]) C rfl iX10 tyX10 tyX10_ok bc_7 zn_X10 mi_X10 (fun j hj => by rcases (show j = 0 ∨ j = 1 ∨ j = 2 ∨ j = 3 ∨ j = 4 ∨ j = 5 ∨ j = 6 ∨ j = 7 by omega) with rfl | rfl | rfl | rfl | rfl | rfl | rfl | rfl <;> rfl) rfl ⟨Nat.le_of_ble_eq_true rfl, Nat.le_of_ble_eq_true rfl⟩ dL_law_0 rfl rfl ?_
    refine z_dup (pc' := 4) C dL_law_3 rfl rfl ?_
    refine z_callI (pc' := 7) (n := 0) (ws := []) (ws' := rX10 cA (s.heap.size + 0)) (r := rX10 cA (s.heap.size + 0)) C cY_X10_init rfl zi_X10 ml_9 ⟨Nat.le_of_ble_eq_true rfl, Nat.le_of_ble_eq_true rfl⟩ ⟨Nat.le_of_ble_eq_true rfl, Nat.le_of_ble_eq_true rfl⟩ (Nat.le_of_ble_eq_true rfl) dL_law_4 rfl rfl rfl (c_X10_init l D cA (s.heap.size + 0)) rX10_co rfl ?_
    refine z_astore_n (pc' := 8) (lv' := [(1, .ref (s.heap.size + 0)), (0, .ref b)]) C dL_law_7 (i := 1) rfl (by decide) rfl rfl ?_
    refine z_new (pc' := 11) (n := 97) (ci := 11) (fs := [.int 0, .int 0, .null, .null, .null, .int 0, .int 0, .int 0, .int 0, .int 0, .null, .null, .int 0, .int 0, .int 0, .null, .null, .int 0, .int 0, .null, .int 0, .null, .int 0, .null, .null, .int 0, .int 0, .int 0, .null, .int 0, .null, .null, .null, .null]) (ws' := rX10 cA (s.heap.size + 0) ++ [(s.heap.size + 97, .inr (11, [.int 0, .int 0, .null, .null, .null, .int 0, .int 0, .int 0, .int 0, .int 0, .null, .null, .int 0, .int 0, .int 0, .null, .null, .int 0, .int 0, .null, .int 0, .null, .int 0, .null, .null, .int 0, .int 0, .int 0, .null, .int 0, .null, .null, .null, .null]))]) C rfl iX11 tyX11 tyX11_ok bc_10 zn_X11 mi_X11 (fun j hj => by rcases (show j = 0 ∨ j = 1 ∨ j = 2 ∨ j = 3 ∨ j = 4 ∨ j = 5 ∨ j = 6 ∨ j = 7 ∨ j = 8 ∨ j = 9 ∨ j = 10 ∨ j = 11 ∨ j = 12 ∨ j = 13 ∨ j = 14 ∨ j = 15 ∨ j = 16 ∨ j = 17 ∨ j = 18 ∨ j = 19 ∨ j = 20 ∨ j = 21 ∨ j = 22 ∨ j = 23 ∨ j = 24 ∨ j = 25 ∨ j = 26 ∨ j = 27 ∨ j = 28 ∨ j = 29 ∨ j = 30 ∨ j = 31 ∨ j = 32 ∨ j = 33 by omega) with rfl | rfl | rfl | rfl | rfl | rfl | rfl | rfl | rfl | rfl | rfl | rfl | rfl | rfl | rfl | rfl | rfl | rfl | rfl | rfl | rfl | rfl | rfl | rfl | rfl | rfl | rfl | rfl | rfl | rfl | rfl | rfl | rfl | rfl <;> rfl) rfl ⟨Nat.le_of_ble_eq_true rfl, Nat.le_of_ble_eq_true rfl⟩ dL_law_8 rfl rfl ?_
    refine z_dup (pc' := 12) C dL_law_11 rfl rfl ?_
    refine z_callI (pc' := 15) (n := 97) (ws := rX10 cA (s.heap.size + 0)) (ws' := rX10 cA (s.heap.size + 0) ++ rX11 cA (s.heap.size + 97)) (r := rX11 cA (s.heap.size + 97)) C cY_X11_init rfl zi_X11 ml_12 ⟨Nat.le_of_ble_eq_true rfl, Nat.le_of_ble_eq_true rfl⟩ ⟨Nat.le_of_ble_eq_true rfl, Nat.le_of_ble_eq_true rfl⟩ (Nat.le_of_ble_eq_true rfl) dL_law_12 rfl rfl rfl (c_X11_init l D cA (s.heap.size + 97)) rX11_co rfl ?_
    refine z_astore_n (pc' := 16) (lv' := [(2, .ref (s.heap.size + 97)), (1, .ref (s.heap.size + 0)), (0, .ref b)]) C dL_law_15 (i := 2) rfl (by decide) rfl rfl ?_
    refine z_iconst (pc' := 17) (v := 0) C dL_law_16 (by decide) rfl ?_
    refine z_istore_n (pc' := 18) (lv' := [(3, .int 0), (2, .ref (s.heap.size + 97)), (1, .ref (s.heap.size + 0)), (0, .ref b)]) C dL_law_17 (i := 3) rfl (by decide) rfl rfl ?_
    exact b_ly (law_loop CL hr (L + 8) 0 gC0 gM0 (by omega) (by omega) Inv_0)
  exact GO s.heap [] _ rfl (fun k q h => by cases h) (fun k q h => by cases h) va_S.rf hl

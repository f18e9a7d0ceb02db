theorem zi_X11 : Cond.instanceMethod yX11_init ∈ cr_T := cr_T_mem (List.mem_of_getElem? (i := 939) (by decide +kernel)) (by decide +kernel)
theorem zn_X11 : Cond.instantiable RX11 34 ∈ cr_T := cr_T_mem (List.mem_of_getElem? (i := 937) (by decide +kernel)) (by decide +kernel)
theorem zo_X11 : Cond.methodLink RX11 1 Lib.objectInit ∈ cr_T := cr_T_mem (List.mem_of_getElem? (i := 941) (by decide +kernel)) (by decide +kernel)
theorem zi_X0 : Cond.instanceMethod yX0_init ∈ cr_T := cr_T_mem (List.mem_of_getElem? (i := 271) (by decide +kernel)) (by decide +kernel)
theorem zn_X0 : Cond.instantiable RX0 6 ∈ cr_T := cr_T_mem (List.mem_of_getElem? (i := 269) (by decide +kernel)) (by decide +kernel)
theorem zo_X0 : Cond.methodLink RX0 3 Lib.objectInit ∈ cr_T := cr_T_mem (List.mem_of_getElem? (i := 273) (by decide +kernel)) (by decide +kernel)
theorem zi_X1 : Cond.instanceMethod yX1_init ∈ cr_T := cr_T_mem (List.mem_of_getElem? (i := 327) (by decide +kernel)) (by decide +kernel)
theorem zn_X1 : Cond.instantiable RX1 6 ∈ cr_T := cr_T_mem (List.mem_of_getElem? (i := 325) (by decide +kernel)) (by decide +kernel)
theorem zo_X1 : Cond.methodLink RX1 3 Lib.objectInit ∈ cr_T := cr_T_mem (List.mem_of_getElem? (i := 329) (by decide +kernel)) (by decide +kernel)
theorem zi_X2 : Cond.instanceMethod yX2_init ∈ cr_T := cr_T_mem (List.mem_of_getElem? (i := 122) (by decide +kernel)) (by decide +kernel)
theorem zn_X2 : Cond.instantiable RX2 3 ∈ cr_T := cr_T_mem (List.mem_of_getElem? (i := 120) (by decide +kernel)) (by decide +kernel)
theorem zo_X2 : Cond.methodLink RX2 3 Lib.objectInit ∈ cr_T := cr_T_mem (List.mem_of_getElem? (i := 124) (by decide +kernel)) (by decide +kernel)
theorem zi_X3 : Cond.instanceMethod yX3_init ∈ cr_T := cr_T_mem (List.mem_of_getElem? (i := 142) (by decide +kernel)) (by decide +kernel)
theorem zn_X3 : Cond.instantiable RX3 5 ∈ cr_T := cr_T_mem (List.mem_of_getElem? (i := 140) (by decide +kernel)) (by decide +kernel)
theorem zo_X3 : Cond.methodLink RX3 3 Lib.objectInit ∈ cr_T := cr_T_mem (List.mem_of_getElem? (i := 144) (by decide +kernel)) (by decide +kernel)
theorem zi_X4 : Cond.instanceMethod yX4_init ∈ cr_T := cr_T_mem (List.mem_of_getElem? (i := 356) (by decide +kernel)) (by decide +kernel)
theorem zn_X4 : Cond.instantiable RX4 4 ∈ cr_T := cr_T_mem (List.mem_of_getElem? (i := 354) (by decide +kernel)) (by decide +kernel)
theorem zo_X4 : Cond.methodLink RX4 3 Lib.objectInit ∈ cr_T := cr_T_mem (List.mem_of_getElem? (i := 358) (by decide +kernel)) (by decide +kernel)
theorem zi_X5 : Cond.instanceMethod yX5_init ∈ cr_T := cr_T_mem (List.mem_of_getElem? (i := 300) (by decide +kernel)) (by decide +kernel)
theorem zn_X5 : Cond.instantiable RX5 5 ∈ cr_T := cr_T_mem (List.mem_of_getElem? (i := 298) (by decide +kernel)) (by decide +kernel)
theorem zo_X5 : Cond.methodLink RX5 3 Lib.objectInit ∈ cr_T := cr_T_mem (List.mem_of_getElem? (i := 302) (by decide +kernel)) (by decide +kernel)
theorem zi_X6 : Cond.instanceMethod yX6_init ∈ cr_T := cr_T_mem (List.mem_of_getElem? (i := 173) (by decide +kernel)) (by decide +kernel)
theorem zn_X6 : Cond.instantiable RX6 3 ∈ cr_T := cr_T_mem (List.mem_of_getElem? (i := 171) (by decide +kernel)) (by decide +kernel)
theorem zo_X6 : Cond.methodLink RX6 1 Lib.objectInit ∈ cr_T := cr_T_mem (List.mem_of_getElem? (i := 175) (by decide +kernel)) (by decide +kernel)
theorem zi_X7 : Cond.instanceMethod yX7_init ∈ cr_T := cr_T_mem (List.mem_of_getElem? (i := 232) (by decide +kernel)) (by decide +kernel)
theorem zn_X7 : Cond.instantiable RX7 7 ∈ cr_T := cr_T_mem (List.mem_of_getElem? (i := 230) (by decide +kernel)) (by decide +kernel)
theorem zo_X7 : Cond.methodLink RX7 3 Lib.objectInit ∈ cr_T := cr_T_mem (List.mem_of_getElem? (i := 234) (by decide +kernel)) (by decide +kernel)
theorem zi_X8 : Cond.instanceMethod yX8_init ∈ cr_T := cr_T_mem (List.mem_of_getElem? (i := 98) (by decide +kernel)) (by decide +kernel)
theorem zn_X8 : Cond.instantiable RX8 4 ∈ cr_T := cr_T_mem (List.mem_of_getElem? (i := 96) (by decide +kernel)) (by decide +kernel)
theorem zo_X8 : Cond.methodLink RX8 3 Lib.objectInit ∈ cr_T := cr_T_mem (List.mem_of_getElem? (i := 100) (by decide +kernel)) (by decide +kernel)
theorem zi_X9 : Cond.instanceMethod yX9_init ∈ cr_T := cr_T_mem (List.mem_of_getElem? (i := 88) (by decide +kernel)) (by decide +kernel)
theorem zn_X9 : Cond.instantiable RX9 9 ∈ cr_T := cr_T_mem (List.mem_of_getElem? (i := 86) (by decide +kernel)) (by decide +kernel)
theorem zo_X9 : Cond.methodLink RX9 3 Lib.objectInit ∈ cr_T := cr_T_mem (List.mem_of_getElem? (i := 90) (by decide +kernel)) (by decide +kernel)
theorem zi_X10 : Cond.instanceMethod yX10_init ∈ cr_T := cr_T_mem (List.mem_of_getElem? (i := 80) (by decide +kernel)) (by decide +kernel)
theorem zn_X10 : Cond.instantiable RX10 8 ∈ cr_T := cr_T_mem (List.mem_of_getElem? (i := 78) (by decide +kernel)) (by decide +kernel)
theorem zo_X10 : Cond.methodLink RX10 3 Lib.objectInit ∈ cr_T := cr_T_mem (List.mem_of_getElem? (i := 82) (by decide +kernel)) (by decide +kernel)
theorem zc_L_7 : Cond.classLink RL 7 RX10 ∈ cr_T := cr_T_mem (List.mem_of_getElem? (i := 77) (by decide +kernel)) (by decide +kernel)
theorem zc_X10_9 : Cond.classLink RX10 9 RX9 ∈ cr_T := cr_T_mem (List.mem_of_getElem? (i := 85) (by decide +kernel)) (by decide +kernel)
theorem zc_X9_9 : Cond.classLink RX9 9 RX3 ∈ cr_T := cr_T_mem (List.mem_of_getElem? (i := 91) (by decide +kernel)) (by decide +kernel)
theorem zc_X9_17 : Cond.classLink RX9 17 RX6 ∈ cr_T := cr_T_mem (List.mem_of_getElem? (i := 93) (by decide +kernel)) (by decide +kernel)
theorem zc_X9_23 : Cond.classLink RX9 23 RX8 ∈ cr_T := cr_T_mem (List.mem_of_getElem? (i := 95) (by decide +kernel)) (by decide +kernel)
theorem zc_X9_34 : Cond.classLink RX9 34 RX2 ∈ cr_T := cr_T_mem (List.mem_of_getElem? (i := 119) (by decide +kernel)) (by decide +kernel)
theorem zc_X10_19 : Cond.classLink RX10 19 RX7 ∈ cr_T := cr_T_mem (List.mem_of_getElem? (i := 229) (by decide +kernel)) (by decide +kernel)
theorem zc_X7_15 : Cond.classLink RX7 15 RX3 ∈ cr_T := cr_T_mem (List.mem_of_getElem? (i := 235) (by decide +kernel)) (by decide +kernel)
theorem zc_X7_21 : Cond.classLink RX7 21 RX6 ∈ cr_T := cr_T_mem (List.mem_of_getElem? (i := 236) (by decide +kernel)) (by decide +kernel)
theorem zc_X10_26 : Cond.classLink RX10 26 RX0 ∈ cr_T := cr_T_mem (List.mem_of_getElem? (i := 268) (by decide +kernel)) (by decide +kernel)
theorem zc_X10_33 : Cond.classLink RX10 33 RX5 ∈ cr_T := cr_T_mem (List.mem_of_getElem? (i := 297) (by decide +kernel)) (by decide +kernel)
theorem zc_X5_9 : Cond.classLink RX5 9 ("[" ++ (FieldType.array .int).toString) ∈ cr_T := cr_T_mem (List.mem_of_getElem? (i := 303) (by decide +kernel)) (by decide +kernel)
theorem zc_X10_40 : Cond.classLink RX10 40 RX1 ∈ cr_T := cr_T_mem (List.mem_of_getElem? (i := 324) (by decide +kernel)) (by decide +kernel)
theorem zc_X10_47 : Cond.classLink RX10 47 RX4 ∈ cr_T := cr_T_mem (List.mem_of_getElem? (i := 352) (by decide +kernel)) (by decide +kernel)
theorem zc_L_10 : Cond.classLink RL 10 RX11 ∈ cr_T := cr_T_mem (List.mem_of_getElem? (i := 936) (by decide +kernel)) (by decide +kernel)
theorem za_int : Cond.arrayClass .int ∈ cr_T := cr_T_mem (List.mem_of_getElem? (i := 139) (by decide +kernel)) (by decide +kernel)
theorem za_char : Cond.arrayClass .char ∈ cr_T := cr_T_mem (List.mem_of_getElem? (i := 267) (by decide +kernel)) (by decide +kernel)
theorem za_long : Cond.arrayClass .long ∈ cr_T := cr_T_mem (List.mem_of_getElem? (i := 376) (by decide +kernel)) (by decide +kernel)
theorem co_of {b : Nat} {ws : va_W} (h : ws.map Prod.fst = List.range' b ws.length) : co b ws := fun k q hk => by
  have e : (ws.map Prod.fst)[k]? = some q.1 := by rw [List.getElem?_map, hk]; rfl
  have hl := (List.getElem?_eq_some_iff.mp hk).1
  rw [h, List.getElem?_range' hl] at e
  have := Option.some.inj e
  omega
def rX8 (cA : Nat → ClassId) (a : Nat) : va_W := [(a, .inr (8, [.int 0, .int (-1), .int 0, .int 0]))]
theorem rX8_co {cA : Nat → ClassId} {a : Nat} : co a (rX8 cA a) := co_of rfl
set_option maxRecDepth 100000 in
set_option maxHeartbeats 4000000 in
theorem c_X8_init (l : Launch) (D : va_G) (cA : Nat → ClassId) (a : Nat) : zM l yX8_init cX8_init 1 1 20 0 0 D cA a 8 [.int 0, .int 0, .int 0, .int 0] (rX8 cA a) := by
  refine z_enter (by decide +kernel) rfl (by decide) ?_
  intro p e s m below meth c C hr
  refine z_aload_n (pc' := 1) C dX8_init_0 0 rfl rfl ?_
  refine z_obj (pc' := 4) C zo_X8 dX8_init_1 rfl ⟨by decide, by decide⟩ (by decide) ?_
  refine z_aload_n (pc' := 5) C dX8_init_4 0 rfl rfl ?_
  refine z_iconst (pc' := 6) (v := -1) C dX8_init_5 (by decide) rfl ?_
  refine z_put (pc' := 9) (ci := 8) (q0 := 0) (k0 := 1) (v := .int (-1)) (ty := .int) (ws' := [(a, .inr (8, [.int 0, .int (-1), .int 0, .int 0]))]) C rfl iX8 tyX8 tyX8_ok nmX8 rfl (by decide) mf_X8_9 rfl (by decide +kernel) (by decide +kernel) rfl rfl (Nat.le_of_ble_eq_true rfl) dX8_init_6 rfl rfl ?_
  exact z_ret C hr dX8_init_9
def rX3 (cA : Nat → ClassId) (a : Nat) : va_W := [(a, .inr (3, [.int 0, .int (1), .int (2), .int (1), .int 0]))]
theorem rX3_co {cA : Nat → ClassId} {a : Nat} : co a (rX3 cA a) := co_of rfl
set_option maxRecDepth 100000 in
set_option maxHeartbeats 4000000 in
theorem c_X3_init (l : Launch) (D : va_G) (cA : Nat → ClassId) (a : Nat) : zM l yX3_init cX3_init 1 1 20 0 0 D cA a 3 [.int 0, .int 0, .int 0, .int 0, .int 0] (rX3 cA a) := by
  refine z_enter (by decide +kernel) rfl (by decide) ?_
  intro p e s m below meth c C hr
  refine z_aload_n (pc' := 1) C dX3_init_0 0 rfl rfl ?_
  refine z_obj (pc' := 4) C zo_X3 dX3_init_1 rfl ⟨by decide, by decide⟩ (by decide) ?_
  refine z_aload_n (pc' := 5) C dX3_init_4 0 rfl rfl ?_
  refine z_iconst (pc' := 6) (v := 1) C dX3_init_5 (by decide) rfl ?_
  refine z_put (pc' := 9) (ci := 3) (q0 := 0) (k0 := 1) (v := .int (1)) (ty := .int) (ws' := [(a, .inr (3, [.int 0, .int (1), .int 0, .int 0, .int 0]))]) C rfl iX3 tyX3 tyX3_ok nmX3 rfl (by decide) mf_X3_9 rfl (by decide +kernel) (by decide +kernel) rfl rfl (Nat.le_of_ble_eq_true rfl) dX3_init_6 rfl rfl ?_
  refine z_aload_n (pc' := 10) C dX3_init_9 0 rfl rfl ?_
  refine z_iconst (pc' := 11) (v := 2) C dX3_init_10 (by decide) rfl ?_
  refine z_put (pc' := 14) (ci := 3) (q0 := 0) (k0 := 2) (v := .int (2)) (ty := .int) (ws' := [(a, .inr (3, [.int 0, .int (1), .int (2), .int 0, .int 0]))]) C rfl iX3 tyX3 tyX3_ok nmX3 rfl (by decide) mf_X3_15 rfl (by decide +kernel) (by decide +kernel) rfl rfl (Nat.le_of_ble_eq_true rfl) dX3_init_11 rfl rfl ?_
  refine z_aload_n (pc' := 15) C dX3_init_14 0 rfl rfl ?_
  refine z_iconst (pc' := 16) (v := 1) C dX3_init_15 (by decide) rfl ?_
  refine z_put (pc' := 19) (ci := 3) (q0 := 0) (k0 := 3) (v := .int (1)) (ty := .int) (ws' := [(a, .inr (3, [.int 0, .int (1), .int (2), .int (1), .int 0]))]) C rfl iX3 tyX3 tyX3_ok nmX3 rfl (by decide) mf_X3_18 rfl (by decide +kernel) (by decide +kernel) rfl rfl (Nat.le_of_ble_eq_true rfl) dX3_init_16 rfl rfl ?_
  exact z_ret C hr dX3_init_19
def rX6 (cA : Nat → ClassId) (a : Nat) : va_W := [(a, .inr (6, [.int 0, .int (1), .int (1)]))]
theorem rX6_co {cA : Nat → ClassId} {a : Nat} : co a (rX6 cA a) := co_of rfl
set_option maxRecDepth 100000 in
set_option maxHeartbeats 4000000 in
theorem c_X6_init (l : Launch) (D : va_G) (cA : Nat → ClassId) (a : Nat) : zM l yX6_init cX6_init 1 1 20 0 0 D cA a 6 [.int 0, .int 0, .int 0] (rX6 cA a) := by
  refine z_enter (by decide +kernel) rfl (by decide) ?_
  intro p e s m below meth c C hr
  refine z_aload_n (pc' := 1) C dX6_init_0 0 rfl rfl ?_
  refine z_obj (pc' := 4) C zo_X6 dX6_init_1 rfl ⟨by decide, by decide⟩ (by decide) ?_
  refine z_aload_n (pc' := 5) C dX6_init_4 0 rfl rfl ?_
  refine z_iconst (pc' := 6) (v := 1) C dX6_init_5 (by decide) rfl ?_
  refine z_put (pc' := 9) (ci := 6) (q0 := 0) (k0 := 1) (v := .int (1)) (ty := .int) (ws' := [(a, .inr (6, [.int 0, .int (1), .int 0]))]) C rfl iX6 tyX6 tyX6_ok nmX6 rfl (by decide) mf_X6_7 rfl (by decide +kernel) (by decide +kernel) rfl rfl (Nat.le_of_ble_eq_true rfl) dX6_init_6 rfl rfl ?_
  refine z_aload_n (pc' := 10) C dX6_init_9 0 rfl rfl ?_
  refine z_iconst (pc' := 11) (v := 1) C dX6_init_10 (by decide) rfl ?_
  refine z_put (pc' := 14) (ci := 6) (q0 := 0) (k0 := 2) (v := .int (1)) (ty := .int) (ws' := [(a, .inr (6, [.int 0, .int (1), .int (1)]))]) C rfl iX6 tyX6 tyX6_ok nmX6 rfl (by decide) mf_X6_13 rfl (by decide +kernel) (by decide +kernel) rfl rfl (Nat.le_of_ble_eq_true rfl) dX6_init_11 rfl rfl ?_
  exact z_ret C hr dX6_init_14
def rX2 (cA : Nat → ClassId) (a : Nat) : va_W := [(a, .inr (2, [.ref (a + 1), .ref (a + 2), .int 0])), (a + 1, .inl (cA 0, 12, .inl (fun _ => 0))), (a + 2, .inl (cA 0, 12, .inl (fun _ => 0)))]
theorem rX2_co {cA : Nat → ClassId} {a : Nat} : co a (rX2 cA a) := co_of rfl
set_option maxRecDepth 100000 in
set_option maxHeartbeats 4000000 in
theorem c_X2_init (l : Launch) (D : va_G) (cA : Nat → ClassId) (a : Nat) : zM l yX2_init cX2_init 1 1 20 2 24 D cA a 2 [.null, .null, .int 0] (rX2 cA a) := by
  refine z_enter (by decide +kernel) rfl (by decide) ?_
  intro p e s m below meth c C hr
  refine z_aload_n (pc' := 1) C dX2_init_0 0 rfl rfl ?_
  refine z_obj (pc' := 4) C zo_X2 dX2_init_1 rfl ⟨by decide, by decide⟩ (by decide) ?_
  refine z_aload_n (pc' := 5) C dX2_init_4 0 rfl rfl ?_
  refine z_bipush (pc' := 7) (v := 12) C dX2_init_5 (by decide) rfl ?_
  refine z_newa (pc' := 9) (atype := .int) (ty := .int) (n := 1) (i := 12) (N' := 12) (arr := (12, .inl (fun _ => 0))) (ws' := [(a, .inr (2, [.null, .null, .int 0])), (a + 1, .inl (cA 0, 12, .inl (fun _ => 0)))]) C rfl (t := 0) rfl id za_int (fun _ => rfl) (by decide) (by decide) (Nat.le_of_ble_eq_true rfl) rfl ⟨Nat.le_of_ble_eq_true rfl, Nat.le_of_ble_eq_true rfl⟩ dX2_init_7 rfl rfl ?_
  refine z_put (pc' := 12) (ci := 2) (q0 := 0) (k0 := 0) (v := .ref (a + 1)) (ty := .array (.int)) (ws' := [(a, .inr (2, [.ref (a + 1), .null, .int 0])), (a + 1, .inl (cA 0, 12, .inl (fun _ => 0)))]) C rfl iX2 tyX2 tyX2_ok nmX2 rfl (by decide) mf_X2_9 rfl (by decide +kernel) (by decide +kernel) rfl rfl (Nat.le_of_ble_eq_true rfl) dX2_init_9 rfl rfl ?_
  refine z_aload_n (pc' := 13) C dX2_init_12 0 rfl rfl ?_
  refine z_bipush (pc' := 15) (v := 12) C dX2_init_13 (by decide) rfl ?_
  refine z_newa (pc' := 17) (atype := .int) (ty := .int) (n := 2) (i := 12) (N' := 12) (arr := (12, .inl (fun _ => 0))) (ws' := [(a, .inr (2, [.ref (a + 1), .null, .int 0])), (a + 1, .inl (cA 0, 12, .inl (fun _ => 0))), (a + 2, .inl (cA 0, 12, .inl (fun _ => 0)))]) C rfl (t := 0) rfl id za_int (fun _ => rfl) (by decide) (by decide) (Nat.le_of_ble_eq_true rfl) rfl ⟨Nat.le_of_ble_eq_true rfl, Nat.le_of_ble_eq_true rfl⟩ dX2_init_15 rfl rfl ?_
  refine z_put (pc' := 20) (ci := 2) (q0 := 0) (k0 := 1) (v := .ref (a + 2)) (ty := .array (.int)) (ws' := [(a, .inr (2, [.ref (a + 1), .ref (a + 2), .int 0])), (a + 1, .inl (cA 0, 12, .inl (fun _ => 0))), (a + 2, .inl (cA 0, 12, .inl (fun _ => 0)))]) C rfl iX2 tyX2 tyX2_ok nmX2 rfl (by decide) mf_X2_15 rfl (by decide +kernel) (by decide +kernel) rfl rfl (Nat.le_of_ble_eq_true rfl) dX2_init_17 rfl rfl ?_
  exact z_ret C hr dX2_init_20
def rX4 (cA : Nat → ClassId) (a : Nat) : va_W := [(a, .inr (4, [.ref (a + 1), .int 0, .int 0, .int 0])), (a + 1, .inl (cA 2, 16, .inr (.inl (fun _ => 0))))]
theorem rX4_co {cA : Nat → ClassId} {a : Nat} : co a (rX4 cA a) := co_of rfl
set_option maxRecDepth 100000 in
set_option maxHeartbeats 4000000 in
theorem c_X4_init (l : Launch) (D : va_G) (cA : Nat → ClassId) (a : Nat) : zM l yX4_init cX4_init 1 1 20 1 16 D cA a 4 [.null, .int 0, .int 0, .int 0] (rX4 cA a) := by
  refine z_enter (by decide +kernel) rfl (by decide) ?_
  intro p e s m below meth c C hr
  refine z_aload_n (pc' := 1) C dX4_init_0 0 rfl rfl ?_
  refine z_obj (pc' := 4) C zo_X4 dX4_init_1 rfl ⟨by decide, by decide⟩ (by decide) ?_
  refine z_aload_n (pc' := 5) C dX4_init_4 0 rfl rfl ?_
  refine z_bipush (pc' := 7) (v := 16) C dX4_init_5 (by decide) rfl ?_
  refine z_newa (pc' := 9) (atype := .long) (ty := .long) (n := 1) (i := 16) (N' := 16) (arr := (16, .inr (.inl (fun _ => 0)))) (ws' := [(a, .inr (4, [.null, .int 0, .int 0, .int 0])), (a + 1, .inl (cA 2, 16, .inr (.inl (fun _ => 0))))]) C rfl (t := 2) rfl id za_long (fun _ => rfl) (by decide) (by decide) (Nat.le_of_ble_eq_true rfl) rfl ⟨Nat.le_of_ble_eq_true rfl, Nat.le_of_ble_eq_true rfl⟩ dX4_init_7 rfl rfl ?_
  refine z_put (pc' := 12) (ci := 4) (q0 := 0) (k0 := 0) (v := .ref (a + 1)) (ty := .array (.long)) (ws' := [(a, .inr (4, [.ref (a + 1), .int 0, .int 0, .int 0])), (a + 1, .inl (cA 2, 16, .inr (.inl (fun _ => 0))))]) C rfl iX4 tyX4 tyX4_ok nmX4 rfl (by decide) mf_X4_9 rfl (by decide +kernel) (by decide +kernel) rfl rfl (Nat.le_of_ble_eq_true rfl) dX4_init_9 rfl rfl ?_
  exact z_ret C hr dX4_init_12
def rX0 (cA : Nat → ClassId) (a : Nat) : va_W := [(a, .inr (0, [.ref (a + 1), .ref (a + 2), .ref (a + 3), .int (-4), .int 0, .int 0])), (a + 1, .inl (cA 0, 6, .inl (fun _ => 0))), (a + 2, .inl (cA 0, 6, .inl (fun _ => 0))), (a + 3, .inl (cA 0, 6, .inl (fun _ => 0)))]
theorem rX0_co {cA : Nat → ClassId} {a : Nat} : co a (rX0 cA a) := co_of rfl
set_option maxRecDepth 100000 in
set_option maxHeartbeats 4000000 in
theorem c_X0_init (l : Launch) (D : va_G) (cA : Nat → ClassId) (a : Nat) : zM l yX0_init cX0_init 1 1 20 3 18 D cA a 0 [.null, .null, .null, .int 0, .int 0, .int 0] (rX0 cA a) := by
  refine z_enter (by decide +kernel) rfl (by decide) ?_
  intro p e s m below meth c C hr
  refine z_aload_n (pc' := 1) C dX0_init_0 0 rfl rfl ?_
  refine z_obj (pc' := 4) C zo_X0 dX0_init_1 rfl ⟨by decide, by decide⟩ (by decide) ?_
  refine z_aload_n (pc' := 5) C dX0_init_4 0 rfl rfl ?_
  refine z_bipush (pc' := 7) (v := 6) C dX0_init_5 (by decide) rfl ?_
  refine z_newa (pc' := 9) (atype := .int) (ty := .int) (n := 1) (i := 6) (N' := 6) (arr := (6, .inl (fun _ => 0))) (ws' := [(a, .inr (0, [.null, .null, .null, .int 0, .int 0, .int 0])), (a + 1, .inl (cA 0, 6, .inl (fun _ => 0)))]) C rfl (t := 0) rfl id za_int (fun _ => rfl) (by decide) (by decide) (Nat.le_of_ble_eq_true rfl) rfl ⟨Nat.le_of_ble_eq_true rfl, Nat.le_of_ble_eq_true rfl⟩ dX0_init_7 rfl rfl ?_
  refine z_put (pc' := 12) (ci := 0) (q0 := 0) (k0 := 0) (v := .ref (a + 1)) (ty := .array (.int)) (ws' := [(a, .inr (0, [.ref (a + 1), .null, .null, .int 0, .int 0, .int 0])), (a + 1, .inl (cA 0, 6, .inl (fun _ => 0)))]) C rfl iX0 tyX0 tyX0_ok nmX0 rfl (by decide) mf_X0_9 rfl (by decide +kernel) (by decide +kernel) rfl rfl (Nat.le_of_ble_eq_true rfl) dX0_init_9 rfl rfl ?_
  refine z_aload_n (pc' := 13) C dX0_init_12 0 rfl rfl ?_
  refine z_bipush (pc' := 15) (v := 6) C dX0_init_13 (by decide) rfl ?_
  refine z_newa (pc' := 17) (atype := .int) (ty := .int) (n := 2) (i := 6) (N' := 6) (arr := (6, .inl (fun _ => 0))) (ws' := [(a, .inr (0, [.ref (a + 1), .null, .null, .int 0, .int 0, .int 0])), (a + 1, .inl (cA 0, 6, .inl (fun _ => 0))), (a + 2, .inl (cA 0, 6, .inl (fun _ => 0)))]) C rfl (t := 0) rfl id za_int (fun _ => rfl) (by decide) (by decide) (Nat.le_of_ble_eq_true rfl) rfl ⟨Nat.le_of_ble_eq_true rfl, Nat.le_of_ble_eq_true rfl⟩ dX0_init_15 rfl rfl ?_
  refine z_put (pc' := 20) (ci := 0) (q0 := 0) (k0 := 1) (v := .ref (a + 2)) (ty := .array (.int)) (ws' := [(a, .inr (0, [.ref (a + 1), .ref (a + 2), .null, .int 0, .int 0, .int 0])), (a + 1, .inl (cA 0, 6, .inl (fun _ => 0))), (a + 2, .inl (cA 0, 6, .inl (fun _ => 0)))]) C rfl iX0 tyX0 tyX0_ok nmX0 rfl (by decide) mf_X0_15 rfl (by decide +kernel) (by decide +kernel) rfl rfl (Nat.le_of_ble_eq_true rfl) dX0_init_17 rfl rfl ?_
  refine z_aload_n (pc' := 21) C dX0_init_20 0 rfl rfl ?_
  refine z_bipush (pc' := 23) (v := 6) C dX0_init_21 (by decide) rfl ?_
  refine z_newa (pc' := 25) (atype := .int) (ty := .int) (n := 3) (i := 6) (N' := 6) (arr := (6, .inl (fun _ => 0))) (ws' := [(a, .inr (0, [.ref (a + 1), .ref (a + 2), .null, .int 0, .int 0, .int 0])), (a + 1, .inl (cA 0, 6, .inl (fun _ => 0))), (a + 2, .inl (cA 0, 6, .inl (fun _ => 0))), (a + 3, .inl (cA 0, 6, .inl (fun _ => 0)))]) C rfl (t := 0) rfl id za_int (fun _ => rfl) (by decide) (by decide) (Nat.le_of_ble_eq_true rfl) rfl ⟨Nat.le_of_ble_eq_true rfl, Nat.le_of_ble_eq_true rfl⟩ dX0_init_23 rfl rfl ?_
  refine z_put (pc' := 28) (ci := 0) (q0 := 0) (k0 := 2) (v := .ref (a + 3)) (ty := .array (.int)) (ws' := [(a, .inr (0, [.ref (a + 1), .ref (a + 2), .ref (a + 3), .int 0, .int 0, .int 0])), (a + 1, .inl (cA 0, 6, .inl (fun _ => 0))), (a + 2, .inl (cA 0, 6, .inl (fun _ => 0))), (a + 3, .inl (cA 0, 6, .inl (fun _ => 0)))]) C rfl iX0 tyX0 tyX0_ok nmX0 rfl (by decide) mf_X0_18 rfl (by decide +kernel) (by decide +kernel) rfl rfl (Nat.le_of_ble_eq_true rfl) dX0_init_25 rfl rfl ?_
  refine z_aload_n (pc' := 29) C dX0_init_28 0 rfl rfl ?_
  refine z_bipush (pc' := 31) (v := -4) C dX0_init_29 (by decide) rfl ?_
  refine z_put (pc' := 34) (ci := 0) (q0 := 0) (k0 := 3) (v := .int (-4)) (ty := .int) (ws' := [(a, .inr (0, [.ref (a + 1), .ref (a + 2), .ref (a + 3), .int (-4), .int 0, .int 0])), (a + 1, .inl (cA 0, 6, .inl (fun _ => 0))), (a + 2, .inl (cA 0, 6, .inl (fun _ => 0))), (a + 3, .inl (cA 0, 6, .inl (fun _ => 0)))]) C rfl iX0 tyX0 tyX0_ok nmX0 rfl (by decide) mf_X0_21 rfl (by decide +kernel) (by decide +kernel) rfl rfl (Nat.le_of_ble_eq_true rfl) dX0_init_31 rfl rfl ?_
  exact z_ret C hr dX0_init_34
def rX1 (cA : Nat → ClassId) (a : Nat) : va_W := [(a, .inr (1, [.ref (a + 1), .ref (a + 2), .int 0, .int 0, .int 0, .int 0])), (a + 1, .inl (cA 0, 24, .inl (fun _ => 0))), (a + 2, .inl (cA 0, 60, .inl (fun _ => 0)))]
theorem rX1_co {cA : Nat → ClassId} {a : Nat} : co a (rX1 cA a) := co_of rfl
set_option maxRecDepth 100000 in
set_option maxHeartbeats 4000000 in
theorem c_X1_init (l : Launch) (D : va_G) (cA : Nat → ClassId) (a : Nat) : zM l yX1_init cX1_init 1 1 20 2 84 D cA a 1 [.null, .null, .int 0, .int 0, .int 0, .int 0] (rX1 cA a) := by
  refine z_enter (by decide +kernel) rfl (by decide) ?_
  intro p e s m below meth c C hr
  refine z_aload_n (pc' := 1) C dX1_init_0 0 rfl rfl ?_
  refine z_obj (pc' := 4) C zo_X1 dX1_init_1 rfl ⟨by decide, by decide⟩ (by decide) ?_
  refine z_aload_n (pc' := 5) C dX1_init_4 0 rfl rfl ?_
  refine z_bipush (pc' := 7) (v := 24) C dX1_init_5 (by decide) rfl ?_
  refine z_newa (pc' := 9) (atype := .int) (ty := .int) (n := 1) (i := 24) (N' := 24) (arr := (24, .inl (fun _ => 0))) (ws' := [(a, .inr (1, [.null, .null, .int 0, .int 0, .int 0, .int 0])), (a + 1, .inl (cA 0, 24, .inl (fun _ => 0)))]) C rfl (t := 0) rfl id za_int (fun _ => rfl) (by decide) (by decide) (Nat.le_of_ble_eq_true rfl) rfl ⟨Nat.le_of_ble_eq_true rfl, Nat.le_of_ble_eq_true rfl⟩ dX1_init_7 rfl rfl ?_
  refine z_put (pc' := 12) (ci := 1) (q0 := 0) (k0 := 0) (v := .ref (a + 1)) (ty := .array (.int)) (ws' := [(a, .inr (1, [.ref (a + 1), .null, .int 0, .int 0, .int 0, .int 0])), (a + 1, .inl (cA 0, 24, .inl (fun _ => 0)))]) C rfl iX1 tyX1 tyX1_ok nmX1 rfl (by decide) mf_X1_9 rfl (by decide +kernel) (by decide +kernel) rfl rfl (Nat.le_of_ble_eq_true rfl) dX1_init_9 rfl rfl ?_
  refine z_aload_n (pc' := 13) C dX1_init_12 0 rfl rfl ?_
  refine z_bipush (pc' := 15) (v := 60) C dX1_init_13 (by decide) rfl ?_
  refine z_newa (pc' := 17) (atype := .int) (ty := .int) (n := 2) (i := 60) (N' := 60) (arr := (60, .inl (fun _ => 0))) (ws' := [(a, .inr (1, [.ref (a + 1), .null, .int 0, .int 0, .int 0, .int 0])), (a + 1, .inl (cA 0, 24, .inl (fun _ => 0))), (a + 2, .inl (cA 0, 60, .inl (fun _ => 0)))]) C rfl (t := 0) rfl id za_int (fun _ => rfl) (by decide) (by decide) (Nat.le_of_ble_eq_true rfl) rfl ⟨Nat.le_of_ble_eq_true rfl, Nat.le_of_ble_eq_true rfl⟩ dX1_init_15 rfl rfl ?_
  refine z_put (pc' := 20) (ci := 1) (q0 := 0) (k0 := 1) (v := .ref (a + 2)) (ty := .array (.int)) (ws' := [(a, .inr (1, [.ref (a + 1), .ref (a + 2), .int 0, .int 0, .int 0, .int 0])), (a + 1, .inl (cA 0, 24, .inl (fun _ => 0))), (a + 2, .inl (cA 0, 60, .inl (fun _ => 0)))]) C rfl iX1 tyX1 tyX1_ok nmX1 rfl (by decide) mf_X1_15 rfl (by decide +kernel) (by decide +kernel) rfl rfl (Nat.le_of_ble_eq_true rfl) dX1_init_17 rfl rfl ?_
  exact z_ret C hr dX1_init_20

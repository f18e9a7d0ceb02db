section
variable {p : Program} {l : Launch} {e : Env} {R : Room} {s : State} {m : MethodId} {args : Array Value} {below : List Frame} {meth : Method} {c : Code} {base : Nat} {D : va_G} {cA : Nat → ClassId}
noncomputable def f_X11_in (σ : cr_S) (a0 : Int64) (a1 : Int64) (a2 : Int64) : Option (cr_S × Int32) :=
  (if (lg_cmp a0 a1) < 0 then some (σ, 0) else (if 0 < (lg_cmp a0 a2) then some (σ, 0) else some (σ, 1)))
set_option maxRecDepth 100000 in
set_option maxHeartbeats 4000000 in
theorem w_X11_in (C : cr_C p l e R s m args below meth c sfM 17 base D cA cX11_in 6 RX11) (hr : meth.sig.returnType = some .boolean) (hR : 0 ≤ R.frames ∧ 0 ≤ R.locals) {res : cr_S × Int32} (σ : cr_S) (a0 : Int64) (a1 : Int64) (a2 : Int64) (h : f_X11_in σ a0 a1 a2 = some res) : cr_W p l e R s m args below meth c sfM 17 base D cA 6 (MQ below (cr_Qi sfM 17 base D cA res) args s 0 0 (cr_A 17 base)) σ 0 [(0, .long a0), (2, .long a1), (4, .long a2)] [] := by
  unfold f_X11_in at h
  refine g_lload_n (pc' := 1) C dX11_in_0 0 rfl rfl ?_
  refine g_lload_n (pc' := 2) C dX11_in_1 1 rfl rfl ?_
  refine g_lcmp (pc' := 3) C dX11_in_2 rfl ?_
  refine g_if_lt (pc' := 6) (tgt := 17) C dX11_in_3 (by decide) rfl (fun hc => ?_) (fun hc => ?_)
  · rw [if_pos hc] at h
    refine g_iconst (pc' := 18) (v := 0) C dX11_in_17 (by decide) rfl ?_
    exact g_zret C hr rfl dX11_in_18 h
  · rw [if_neg hc] at h
    refine g_lload_n (pc' := 7) C dX11_in_6 0 rfl rfl ?_
    refine g_lload (pc' := 9) C dX11_in_7 2 rfl rfl ?_
    refine g_lcmp (pc' := 10) C dX11_in_9 rfl ?_
    refine g_if_gt (pc' := 13) (tgt := 17) C dX11_in_10 (by decide) rfl (fun hc => ?_) (fun hc => ?_)
    · rw [if_pos hc] at h
      refine g_iconst (pc' := 18) (v := 0) C dX11_in_17 (by decide) rfl ?_
      exact g_zret C hr rfl dX11_in_18 h
    · rw [if_neg hc] at h
      refine g_iconst (pc' := 14) (v := 1) C dX11_in_13 (by decide) rfl ?_
      refine g_goto (tgt := 18) C dX11_in_14 (by decide) ?_
      exact g_zret C hr rfl dX11_in_18 h
theorem c_X11_in (l : Launch) (base : Nat) (D : va_G) (cA : Nat → ClassId) (σ : cr_S) (a0 : Int64) (a1 : Int64) (a2 : Int64) (res : cr_S × Int32) (h : f_X11_in σ a0 a1 a2 = some res) : cr_M l yX11_in cX11_in 6 (some .boolean) 0 0 sfM 17 base D cA [.long a0, .long a1, .long a2] σ (cr_Qi sfM 17 base D cA res) := by
  refine cr_enter [.long a0, .long a1, .long a2] [(0, .long a0), (2, .long a1), (4, .long a2)] (by decide) (Nat.le_of_ble_eq_true rfl) rfl ?_
  intro p e R s m below meth c C hr hR
  exact w_X11_in C hr hR σ a0 a1 a2 h
noncomputable def f_X11_isPair (σ : cr_S) (a1 : Int32) : Option (cr_S × Int32) :=
  Option.bind (f_X11_in σ (Int32.toInt64 a1) 0 (Int32.toInt64 ((rF σ 0 0) - 1))) (fun q1 => chk (isB q1.2) (some (q1.1, q1.2)))
set_option maxRecDepth 100000 in
set_option maxHeartbeats 4000000 in
theorem w_X11_isPair (C : cr_C p l e R s m args below meth c sfM 17 base D cA cX11_isPair 2 RX11) (hr : meth.sig.returnType = some .boolean) (hR : 1 ≤ R.frames ∧ 25 ≤ R.locals) {res : cr_S × Int32} (σ : cr_S) (a1 : Int32) (h : f_X11_isPair σ a1 = some res) : cr_W p l e R s m args below meth c sfM 17 base D cA 2 (MQ below (cr_Qi sfM 17 base D cA res) args s 0 0 (cr_A 17 base)) σ 0 [(0, .ref (base + 0)), (1, .int a1)] [] := by
  unfold f_X11_isPair at h
  refine g_iload_n (pc' := 1) C dX11_isPair_0 1 rfl rfl ?_
  refine g_i2l (pc' := 2) C dX11_isPair_1 rfl ?_
  refine g_lconst (pc' := 3) (v := 0) C dX11_isPair_2 (by decide) rfl ?_
  refine g_aload_n (pc' := 4) C dX11_isPair_3 0 rfl rfl ?_
  refine gg_X11_63 (pc' := 7) C dX11_isPair_4 rfl ?_
  refine g_iconst (pc' := 8) (v := 1) C dX11_isPair_7 (by decide) rfl ?_
  refine g_isub (pc' := 9) C dX11_isPair_8 rfl ?_
  refine g_i2l (pc' := 10) C dX11_isPair_9 rfl ?_
  obtain ⟨q1, h2, h⟩ := bind_some h
  refine g_callSi (pc' := 13) (res := q1) C [.long (Int32.toInt64 a1), .long 0, .long (Int32.toInt64 ((rF σ 0 0) - 1))] cY_X11_in mv_X11_in mm_X11_66 ⟨Nat.le_trans (by decide) hR.1, Nat.le_trans (by decide) hR.2⟩ rfl (Nat.le_of_ble_eq_true rfl) rfl dX11_isPair_10 (c_X11_in l base D cA σ (Int32.toInt64 a1) 0 (Int32.toInt64 ((rF σ 0 0) - 1)) q1 h2) rfl ?_
  obtain ⟨h3, h⟩ := chk_some h
  exact g_zret C hr (isB_n h3) dX11_isPair_13 h
theorem c_X11_isPair (l : Launch) (base : Nat) (D : va_G) (cA : Nat → ClassId) (σ : cr_S) (a1 : Int32) (res : cr_S × Int32) (h : f_X11_isPair σ a1 = some res) : cr_M l yX11_isPair cX11_isPair 2 (some .boolean) 1 25 sfM 17 base D cA [.ref (base + 0), .int a1] σ (cr_Qi sfM 17 base D cA res) := by
  refine cr_enter [.ref (base + 0), .int a1] [(0, .ref (base + 0)), (1, .int a1)] (by decide) (Nat.le_of_ble_eq_true rfl) rfl ?_
  intro p e R s m below meth c C hr hR
  exact w_X11_isPair C hr hR σ a1 h
noncomputable def f_X11_isShip (σ : cr_S) (a1 : Int32) : Option (cr_S × Int32) :=
  Option.bind (f_X11_in σ (Int32.toInt64 a1) 0 (Int32.toInt64 ((rF σ 0 1) - 1))) (fun q1 => chk (isB q1.2) (some (q1.1, q1.2)))
set_option maxRecDepth 100000 in
set_option maxHeartbeats 4000000 in
theorem w_X11_isShip (C : cr_C p l e R s m args below meth c sfM 17 base D cA cX11_isShip 2 RX11) (hr : meth.sig.returnType = some .boolean) (hR : 1 ≤ R.frames ∧ 25 ≤ R.locals) {res : cr_S × Int32} (σ : cr_S) (a1 : Int32) (h : f_X11_isShip σ a1 = some res) : cr_W p l e R s m args below meth c sfM 17 base D cA 2 (MQ below (cr_Qi sfM 17 base D cA res) args s 0 0 (cr_A 17 base)) σ 0 [(0, .ref (base + 0)), (1, .int a1)] [] := by
  unfold f_X11_isShip at h
  refine g_iload_n (pc' := 1) C dX11_isShip_0 1 rfl rfl ?_
  refine g_i2l (pc' := 2) C dX11_isShip_1 rfl ?_
  refine g_lconst (pc' := 3) (v := 0) C dX11_isShip_2 (by decide) rfl ?_
  refine g_aload_n (pc' := 4) C dX11_isShip_3 0 rfl rfl ?_
  refine gg_X11_70 (pc' := 7) C dX11_isShip_4 rfl ?_
  refine g_iconst (pc' := 8) (v := 1) C dX11_isShip_7 (by decide) rfl ?_
  refine g_isub (pc' := 9) C dX11_isShip_8 rfl ?_
  refine g_i2l (pc' := 10) C dX11_isShip_9 rfl ?_
  obtain ⟨q1, h2, h⟩ := bind_some h
  refine g_callSi (pc' := 13) (res := q1) C [.long (Int32.toInt64 a1), .long 0, .long (Int32.toInt64 ((rF σ 0 1) - 1))] cY_X11_in mv_X11_in mm_X11_66 ⟨Nat.le_trans (by decide) hR.1, Nat.le_trans (by decide) hR.2⟩ rfl (Nat.le_of_ble_eq_true rfl) rfl dX11_isShip_10 (c_X11_in l base D cA σ (Int32.toInt64 a1) 0 (Int32.toInt64 ((rF σ 0 1) - 1)) q1 h2) rfl ?_
  obtain ⟨h3, h⟩ := chk_some h
  exact g_zret C hr (isB_n h3) dX11_isShip_13 h
theorem c_X11_isShip (l : Launch) (base : Nat) (D : va_G) (cA : Nat → ClassId) (σ : cr_S) (a1 : Int32) (res : cr_S × Int32) (h : f_X11_isShip σ a1 = some res) : cr_M l yX11_isShip cX11_isShip 2 (some .boolean) 1 25 sfM 17 base D cA [.ref (base + 0), .int a1] σ (cr_Qi sfM 17 base D cA res) := by
  refine cr_enter [.ref (base + 0), .int a1] [(0, .ref (base + 0)), (1, .int a1)] (by decide) (Nat.le_of_ble_eq_true rfl) rfl ?_
  intro p e R s m below meth c C hr hR
  exact w_X11_isShip C hr hR σ a1 h
noncomputable def f_X11_isSecond (σ : cr_S) (a0 : Int32) : Option (cr_S × Int32) :=
  Option.bind (f_X11_in σ (Int32.toInt64 a0) 0 9999) (fun q1 => chk (isB q1.2) (some (q1.1, q1.2)))
set_option maxRecDepth 100000 in
set_option maxHeartbeats 4000000 in
theorem w_X11_isSecond (C : cr_C p l e R s m args below meth c sfM 17 base D cA cX11_isSecond 1 RX11) (hr : meth.sig.returnType = some .boolean) (hR : 1 ≤ R.frames ∧ 25 ≤ R.locals) {res : cr_S × Int32} (σ : cr_S) (a0 : Int32) (h : f_X11_isSecond σ a0 = some res) : cr_W p l e R s m args below meth c sfM 17 base D cA 1 (MQ below (cr_Qi sfM 17 base D cA res) args s 0 0 (cr_A 17 base)) σ 0 [(0, .int a0)] [] := by
  unfold f_X11_isSecond at h
  refine g_iload_n (pc' := 1) C dX11_isSecond_0 0 rfl rfl ?_
  refine g_i2l (pc' := 2) C dX11_isSecond_1 rfl ?_
  refine g_lconst (pc' := 3) (v := 0) C dX11_isSecond_2 (by decide) rfl ?_
  refine g_ldc2 (pc' := 6) (v := 9999) C dX11_isSecond_3 ml_X11_73 rfl ?_
  obtain ⟨q1, h2, h⟩ := bind_some h
  refine g_callSi (pc' := 9) (res := q1) C [.long (Int32.toInt64 a0), .long 0, .long 9999] cY_X11_in mv_X11_in mm_X11_66 ⟨Nat.le_trans (by decide) hR.1, Nat.le_trans (by decide) hR.2⟩ rfl (Nat.le_of_ble_eq_true rfl) rfl dX11_isSecond_6 (c_X11_in l base D cA σ (Int32.toInt64 a0) 0 9999 q1 h2) rfl ?_
  obtain ⟨h3, h⟩ := chk_some h
  exact g_zret C hr (isB_n h3) dX11_isSecond_9 h
theorem c_X11_isSecond (l : Launch) (base : Nat) (D : va_G) (cA : Nat → ClassId) (σ : cr_S) (a0 : Int32) (res : cr_S × Int32) (h : f_X11_isSecond σ a0 = some res) : cr_M l yX11_isSecond cX11_isSecond 1 (some .boolean) 1 25 sfM 17 base D cA [.int a0] σ (cr_Qi sfM 17 base D cA res) := by
  refine cr_enter [.int a0] [(0, .int a0)] (by decide) (Nat.le_of_ble_eq_true rfl) rfl ?_
  intro p e R s m below meth c C hr hR
  exact w_X11_isSecond C hr hR σ a0 h
noncomputable def f_X11_pairComes (σ : cr_S) (a1 : Int32) (a2 : Int32) (a3 : Int32) (a4 : Int32) (a5 : Int32) : Option (cr_S) :=
  cr_let (5 * (rF σ 0 0)) (fun v1 => chk (inb v1 30) (cr_let (sA σ 1 v1 a1) (fun s4 => chk (inb (v1 + 1) 30) (cr_let (sA s4 1 (v1 + 1) a2) (fun s7 => chk (inb (v1 + 2) 30) (cr_let (sA s7 1 (v1 + 2) a3) (fun s10 => chk (inb (v1 + 3) 30) (cr_let (sA s10 1 (v1 + 3) a4) (fun s13 => chk (inb (v1 + 4) 30) (cr_let (sA s13 1 (v1 + 4) a5) (fun s16 => cr_let (sF s16 0 0 ((rF s16 0 0) + 1)) (fun s18 => some s18))))))))))))
set_option maxRecDepth 100000 in
set_option maxHeartbeats 4000000 in
theorem w_X11_pairComes (C : cr_C p l e R s m args below meth c sfM 17 base D cA cX11_pairComes 7 RX11) (hr : meth.sig.returnType = none) (hR : 0 ≤ R.frames ∧ 0 ≤ R.locals) {res : cr_S} (σ : cr_S) (a1 : Int32) (a2 : Int32) (a3 : Int32) (a4 : Int32) (a5 : Int32) (h : f_X11_pairComes σ a1 a2 a3 a4 a5 = some res) : cr_W p l e R s m args below meth c sfM 17 base D cA 7 (MQ below (cr_Qv sfM 17 base D cA res) args s 0 0 (cr_A 17 base)) σ 0 [(0, .ref (base + 0)), (1, .int a1), (2, .int a2), (3, .int a3), (4, .int a4), (5, .int a5)] [] := by
  unfold f_X11_pairComes at h
  refine g_iconst (pc' := 1) (v := 5) C dX11_pairComes_0 (by decide) rfl ?_
  refine g_aload_n (pc' := 2) C dX11_pairComes_1 0 rfl rfl ?_
  refine gg_X11_63 (pc' := 5) C dX11_pairComes_2 rfl ?_
  refine g_imul (pc' := 6) C dX11_pairComes_5 rfl ?_
  obtain ⟨v1, e2, h⟩ := let_some h
  refine g_nameI e2 ?_
  refine g_istore (pc' := 8) (lv' := [(6, .int v1), (0, .ref (base + 0)), (1, .int a1), (2, .int a2), (3, .int a3), (4, .int a4), (5, .int a5)]) C dX11_pairComes_6 (by decide) rfl rfl ?_
  refine g_aload_n (pc' := 9) C dX11_pairComes_8 1 rfl rfl ?_
  refine gg_X11_7 (pc' := 12) C dX11_pairComes_9 rfl ?_
  refine g_iload (pc' := 14) C dX11_pairComes_12 0 rfl rfl ?_
  refine g_iload_n (pc' := 15) C dX11_pairComes_14 2 rfl rfl ?_
  obtain ⟨h3, h⟩ := chk_some h
  obtain ⟨s4, e5, h⟩ := let_some h
  refine g_iast (pc' := 16) C (o := 1) (by decide) rfl (inb_d h3) dX11_pairComes_15 rfl e5 ?_
  refine g_aload_n (pc' := 17) C dX11_pairComes_16 1 rfl rfl ?_
  refine gg_X11_7 (pc' := 20) C dX11_pairComes_17 rfl ?_
  refine g_iload (pc' := 22) C dX11_pairComes_20 0 rfl rfl ?_
  refine g_iconst (pc' := 23) (v := 1) C dX11_pairComes_22 (by decide) rfl ?_
  refine g_iadd (pc' := 24) C dX11_pairComes_23 rfl ?_
  refine g_iload_n (pc' := 25) C dX11_pairComes_24 3 rfl rfl ?_
  obtain ⟨h6, h⟩ := chk_some h
  obtain ⟨s7, e8, h⟩ := let_some h
  refine g_iast (pc' := 26) C (o := 1) (by decide) rfl (inb_d h6) dX11_pairComes_25 rfl e8 ?_
  refine g_aload_n (pc' := 27) C dX11_pairComes_26 1 rfl rfl ?_
  refine gg_X11_7 (pc' := 30) C dX11_pairComes_27 rfl ?_
  refine g_iload (pc' := 32) C dX11_pairComes_30 0 rfl rfl ?_
  refine g_iconst (pc' := 33) (v := 2) C dX11_pairComes_32 (by decide) rfl ?_
  refine g_iadd (pc' := 34) C dX11_pairComes_33 rfl ?_
  refine g_iload_n (pc' := 35) C dX11_pairComes_34 4 rfl rfl ?_
  obtain ⟨h9, h⟩ := chk_some h
  obtain ⟨s10, e11, h⟩ := let_some h
  refine g_iast (pc' := 36) C (o := 1) (by decide) rfl (inb_d h9) dX11_pairComes_35 rfl e11 ?_
  refine g_aload_n (pc' := 37) C dX11_pairComes_36 1 rfl rfl ?_
  refine gg_X11_7 (pc' := 40) C dX11_pairComes_37 rfl ?_
  refine g_iload (pc' := 42) C dX11_pairComes_40 0 rfl rfl ?_
  refine g_iconst (pc' := 43) (v := 3) C dX11_pairComes_42 (by decide) rfl ?_
  refine g_iadd (pc' := 44) C dX11_pairComes_43 rfl ?_
  refine g_iload (pc' := 46) C dX11_pairComes_44 5 rfl rfl ?_
  obtain ⟨h12, h⟩ := chk_some h
  obtain ⟨s13, e14, h⟩ := let_some h
  refine g_iast (pc' := 47) C (o := 1) (by decide) rfl (inb_d h12) dX11_pairComes_46 rfl e14 ?_
  refine g_aload_n (pc' := 48) C dX11_pairComes_47 1 rfl rfl ?_
  refine gg_X11_7 (pc' := 51) C dX11_pairComes_48 rfl ?_
  refine g_iload (pc' := 53) C dX11_pairComes_51 0 rfl rfl ?_
  refine g_iconst (pc' := 54) (v := 4) C dX11_pairComes_53 (by decide) rfl ?_
  refine g_iadd (pc' := 55) C dX11_pairComes_54 rfl ?_
  refine g_iload (pc' := 57) C dX11_pairComes_55 6 rfl rfl ?_
  obtain ⟨h15, h⟩ := chk_some h
  obtain ⟨s16, e17, h⟩ := let_some h
  refine g_iast (pc' := 58) C (o := 1) (by decide) rfl (inb_d h15) dX11_pairComes_57 rfl e17 ?_
  refine g_aload_n (pc' := 59) C dX11_pairComes_58 1 rfl rfl ?_
  refine g_dup (pc' := 60) C dX11_pairComes_59 rfl rfl ?_
  refine gg_X11_63 (pc' := 63) C dX11_pairComes_60 rfl ?_
  refine g_iconst (pc' := 64) (v := 1) C dX11_pairComes_63 (by decide) rfl ?_
  refine g_iadd (pc' := 65) C dX11_pairComes_64 rfl ?_
  obtain ⟨s18, e19, h⟩ := let_some h
  refine gp_X11_63 (pc' := 68) C dX11_pairComes_65 rfl e19 ?_
  exact g_vret C hr dX11_pairComes_68 h
theorem c_X11_pairComes (l : Launch) (base : Nat) (D : va_G) (cA : Nat → ClassId) (σ : cr_S) (a1 : Int32) (a2 : Int32) (a3 : Int32) (a4 : Int32) (a5 : Int32) (res : cr_S) (h : f_X11_pairComes σ a1 a2 a3 a4 a5 = some res) : cr_M l yX11_pairComes cX11_pairComes 7 none 0 0 sfM 17 base D cA [.ref (base + 0), .int a1, .int a2, .int a3, .int a4, .int a5] σ (cr_Qv sfM 17 base D cA res) := by
  refine cr_enter [.ref (base + 0), .int a1, .int a2, .int a3, .int a4, .int a5] [(0, .ref (base + 0)), (1, .int a1), (2, .int a2), (3, .int a3), (4, .int a4), (5, .int a5)] (by decide) (Nat.le_of_ble_eq_true rfl) rfl ?_
  intro p e R s m below meth c C hr hR
  exact w_X11_pairComes C hr hR σ a1 a2 a3 a4 a5 h
noncomputable def f_X11_pair (σ : cr_S) (a1 : Int32) (a2 : Int32) (a3 : Int32) (a4 : Int32) : Option (cr_S × Int32) :=
  Option.bind (f_X11_in σ (Int32.toInt64 a1) 0 3) (fun q1 => (if q1.2 = 0 then some (q1.1, (-1)) else Option.bind (f_X11_in q1.1 (Int32.toInt64 a2) 1 30) (fun q3 => (if q3.2 = 0 then some (q3.1, (-1)) else Option.bind (f_X11_in q3.1 (Int32.toInt64 a3) 2 24) (fun q5 => (if q5.2 = 0 then some (q5.1, (-1)) else Option.bind (f_X11_in q5.1 (Int32.toInt64 a4) 1 (Int32.toInt64 a3)) (fun q7 => (if q7.2 = 0 then some (q7.1, (-1)) else (if (rF q7.1 0 0) = 6 then some (q7.1, (-3)) else Option.bind (f_X11_pairComes q7.1 a1 a2 a3 a4 0) (fun q9 => some (q9, (rF q9 0 0) - 1)))))))))))
set_option maxRecDepth 100000 in
set_option maxHeartbeats 4000000 in
theorem w_X11_pair (C : cr_C p l e R s m args below meth c sfM 17 base D cA cX11_pair 5 RX11) (hr : meth.sig.returnType = some .int) (hR : 1 ≤ R.frames ∧ 26 ≤ R.locals) {res : cr_S × Int32} (σ : cr_S) (a1 : Int32) (a2 : Int32) (a3 : Int32) (a4 : Int32) (h : f_X11_pair σ a1 a2 a3 a4 = some res) : cr_W p l e R s m args below meth c sfM 17 base D cA 5 (MQ below (cr_Qi sfM 17 base D cA res) args s 0 0 (cr_A 17 base)) σ 0 [(0, .ref (base + 0)), (1, .int a1), (2, .int a2), (3, .int a3), (4, .int a4)] [] := by
  unfold f_X11_pair at h
  refine g_iload_n (pc' := 1) C dX11_pair_0 1 rfl rfl ?_
  refine g_i2l (pc' := 2) C dX11_pair_1 rfl ?_
  refine g_lconst (pc' := 3) (v := 0) C dX11_pair_2 (by decide) rfl ?_
  refine g_ldc2 (pc' := 6) (v := 3) C dX11_pair_3 ml_X11_75 rfl ?_
  obtain ⟨q1, h2, h⟩ := bind_some h
  refine g_callSi (pc' := 9) (res := q1) C [.long (Int32.toInt64 a1), .long 0, .long 3] cY_X11_in mv_X11_in mm_X11_66 ⟨Nat.le_trans (by decide) hR.1, Nat.le_trans (by decide) hR.2⟩ rfl (Nat.le_of_ble_eq_true rfl) rfl dX11_pair_6 (c_X11_in l base D cA σ (Int32.toInt64 a1) 0 3 q1 h2) rfl ?_
  refine g_if_eq (pc' := 12) (tgt := 50) C dX11_pair_9 (by decide) rfl (fun hc => ?_) (fun hc => ?_)
  · rw [if_pos hc] at h
    refine g_iconst (pc' := 51) (v := (-1)) C dX11_pair_50 (by decide) rfl ?_
    exact g_iret C hr dX11_pair_51 h
  · rw [if_neg hc] at h
    refine g_iload_n (pc' := 13) C dX11_pair_12 2 rfl rfl ?_
    refine g_i2l (pc' := 14) C dX11_pair_13 rfl ?_
    refine g_lconst (pc' := 15) (v := 1) C dX11_pair_14 (by decide) rfl ?_
    refine g_ldc2 (pc' := 18) (v := 30) C dX11_pair_15 ml_X11_77 rfl ?_
    obtain ⟨q3, h4, h⟩ := bind_some h
    refine g_callSi (pc' := 21) (res := q3) C [.long (Int32.toInt64 a2), .long 1, .long 30] cY_X11_in mv_X11_in mm_X11_66 ⟨Nat.le_trans (by decide) hR.1, Nat.le_trans (by decide) hR.2⟩ rfl (Nat.le_of_ble_eq_true rfl) rfl dX11_pair_18 (c_X11_in l base D cA q1.1 (Int32.toInt64 a2) 1 30 q3 h4) rfl ?_
    refine g_if_eq (pc' := 24) (tgt := 50) C dX11_pair_21 (by decide) rfl (fun hc => ?_) (fun hc => ?_)
    · rw [if_pos hc] at h
      refine g_iconst (pc' := 51) (v := (-1)) C dX11_pair_50 (by decide) rfl ?_
      exact g_iret C hr dX11_pair_51 h
    · rw [if_neg hc] at h
      refine g_iload_n (pc' := 25) C dX11_pair_24 3 rfl rfl ?_
      refine g_i2l (pc' := 26) C dX11_pair_25 rfl ?_
      refine g_ldc2 (pc' := 29) (v := 2) C dX11_pair_26 ml_X11_79 rfl ?_
      refine g_ldc2 (pc' := 32) (v := 24) C dX11_pair_29 ml_X11_81 rfl ?_
      obtain ⟨q5, h6, h⟩ := bind_some h
      refine g_callSi (pc' := 35) (res := q5) C [.long (Int32.toInt64 a3), .long 2, .long 24] cY_X11_in mv_X11_in mm_X11_66 ⟨Nat.le_trans (by decide) hR.1, Nat.le_trans (by decide) hR.2⟩ rfl (Nat.le_of_ble_eq_true rfl) rfl dX11_pair_32 (c_X11_in l base D cA q3.1 (Int32.toInt64 a3) 2 24 q5 h6) rfl ?_
      refine g_if_eq (pc' := 38) (tgt := 50) C dX11_pair_35 (by decide) rfl (fun hc => ?_) (fun hc => ?_)
      · rw [if_pos hc] at h
        refine g_iconst (pc' := 51) (v := (-1)) C dX11_pair_50 (by decide) rfl ?_
        exact g_iret C hr dX11_pair_51 h
      · rw [if_neg hc] at h
        refine g_iload (pc' := 40) C dX11_pair_38 4 rfl rfl ?_
        refine g_i2l (pc' := 41) C dX11_pair_40 rfl ?_
        refine g_lconst (pc' := 42) (v := 1) C dX11_pair_41 (by decide) rfl ?_
        refine g_iload_n (pc' := 43) C dX11_pair_42 3 rfl rfl ?_
        refine g_i2l (pc' := 44) C dX11_pair_43 rfl ?_
        obtain ⟨q7, h8, h⟩ := bind_some h
        refine g_callSi (pc' := 47) (res := q7) C [.long (Int32.toInt64 a4), .long 1, .long (Int32.toInt64 a3)] cY_X11_in mv_X11_in mm_X11_66 ⟨Nat.le_trans (by decide) hR.1, Nat.le_trans (by decide) hR.2⟩ rfl (Nat.le_of_ble_eq_true rfl) rfl dX11_pair_44 (c_X11_in l base D cA q5.1 (Int32.toInt64 a4) 1 (Int32.toInt64 a3) q7 h8) rfl ?_
        refine g_if_ne (pc' := 50) (tgt := 52) C dX11_pair_47 (by decide) rfl (fun hc => ?_) (fun hc => ?_)
        · rw [if_neg hc] at h
          refine g_aload_n (pc' := 53) C dX11_pair_52 0 rfl rfl ?_
          refine gg_X11_63 (pc' := 56) C dX11_pair_53 rfl ?_
          refine g_bipush (pc' := 58) (v := 6) C dX11_pair_56 (by decide) rfl ?_
          refine g_icmp_ne (pc' := 61) (tgt := 64) C dX11_pair_58 (by decide) rfl (fun hc => ?_) (fun hc => ?_)
          · rw [if_neg hc] at h
            refine g_aload_n (pc' := 65) C dX11_pair_64 0 rfl rfl ?_
            refine g_iload_n (pc' := 66) C dX11_pair_65 1 rfl rfl ?_
            refine g_iload_n (pc' := 67) C dX11_pair_66 2 rfl rfl ?_
            refine g_iload_n (pc' := 68) C dX11_pair_67 3 rfl rfl ?_
            refine g_iload (pc' := 70) C dX11_pair_68 4 rfl rfl ?_
            refine g_iconst (pc' := 71) (v := 0) C dX11_pair_70 (by decide) rfl ?_
            obtain ⟨q9, h10, h⟩ := bind_some h
            refine g_callVv (pc' := 74) (res := q9) C [.int a1, .int a2, .int a3, .int a4, .int 0] cY_X11_pairComes rfl (o := 0) (by decide) rfl mv_X11_pairComes mm_X11_83 ⟨Nat.le_trans (by decide) hR.1, Nat.le_trans (by decide) hR.2⟩ rfl (Nat.le_of_ble_eq_true rfl) rfl dX11_pair_71 (c_X11_pairComes l base D cA q7.1 a1 a2 a3 a4 0 q9 h10) rfl ?_
            refine g_aload_n (pc' := 75) C dX11_pair_74 0 rfl rfl ?_
            refine gg_X11_63 (pc' := 78) C dX11_pair_75 rfl ?_
            refine g_iconst (pc' := 79) (v := 1) C dX11_pair_78 (by decide) rfl ?_
            refine g_isub (pc' := 80) C dX11_pair_79 rfl ?_
            exact g_iret C hr dX11_pair_80 h
          · rw [if_pos hc] at h
            refine g_bipush (pc' := 63) (v := (-3)) C dX11_pair_61 (by decide) rfl ?_
            exact g_iret C hr dX11_pair_63 h
        · rw [if_pos hc] at h
          refine g_iconst (pc' := 51) (v := (-1)) C dX11_pair_50 (by decide) rfl ?_
          exact g_iret C hr dX11_pair_51 h
theorem c_X11_pair (l : Launch) (base : Nat) (D : va_G) (cA : Nat → ClassId) (σ : cr_S) (a1 : Int32) (a2 : Int32) (a3 : Int32) (a4 : Int32) (res : cr_S × Int32) (h : f_X11_pair σ a1 a2 a3 a4 = some res) : cr_M l yX11_pair cX11_pair 5 (some .int) 1 26 sfM 17 base D cA [.ref (base + 0), .int a1, .int a2, .int a3, .int a4] σ (cr_Qi sfM 17 base D cA res) := by
  refine cr_enter [.ref (base + 0), .int a1, .int a2, .int a3, .int a4] [(0, .ref (base + 0)), (1, .int a1), (2, .int a2), (3, .int a3), (4, .int a4)] (by decide) (Nat.le_of_ble_eq_true rfl) rfl ?_
  intro p e R s m below meth c C hr hR
  exact w_X11_pair C hr hR σ a1 a2 a3 a4 h
noncomputable def f_X11_phase (σ : cr_S) (a1 : Int32) (a2 : Int32) : Option (cr_S × Int32) :=
  Option.bind (f_X11_isPair σ a1) (fun q1 => (if q1.2 = 0 then some (q1.1, (-1)) else chk (inb ((5 * a1) + 2) 30) (Option.bind (f_X11_in q1.1 (Int32.toInt64 a2) 0 (Int32.toInt64 ((rA q1.1 1 ((5 * a1) + 2)) - 1))) (fun q4 => (if q4.2 = 0 then some (q4.1, (-1)) else chk (inb ((5 * a1) + 4) 30) (cr_let (rA q4.1 1 ((5 * a1) + 4)) (fun v7 => chk (inb ((5 * a1) + 4) 30) (cr_let (sA q4.1 1 ((5 * a1) + 4) a2) (fun s10 => some (s10, v7))))))))))
set_option maxRecDepth 100000 in
set_option maxHeartbeats 4000000 in
theorem w_X11_phase (C : cr_C p l e R s m args below meth c sfM 17 base D cA cX11_phase 4 RX11) (hr : meth.sig.returnType = some .int) (hR : 2 ≤ R.frames ∧ 46 ≤ R.locals) {res : cr_S × Int32} (σ : cr_S) (a1 : Int32) (a2 : Int32) (h : f_X11_phase σ a1 a2 = some res) : cr_W p l e R s m args below meth c sfM 17 base D cA 4 (MQ below (cr_Qi sfM 17 base D cA res) args s 0 0 (cr_A 17 base)) σ 0 [(0, .ref (base + 0)), (1, .int a1), (2, .int a2)] [] := by
  unfold f_X11_phase at h
  refine g_aload_n (pc' := 1) C dX11_phase_0 0 rfl rfl ?_
  refine g_iload_n (pc' := 2) C dX11_phase_1 1 rfl rfl ?_
  obtain ⟨q1, h2, h⟩ := bind_some h
  refine g_callVi (pc' := 5) (res := q1) C [.int a1] cY_X11_isPair rfl (o := 0) (by decide) rfl mv_X11_isPair mm_X11_87 ⟨Nat.le_trans (by decide) hR.1, Nat.le_trans (by decide) hR.2⟩ rfl (Nat.le_of_ble_eq_true rfl) rfl dX11_phase_2 (c_X11_isPair l base D cA σ a1 q1 h2) rfl ?_
  refine g_if_eq (pc' := 8) (tgt := 30) C dX11_phase_5 (by decide) rfl (fun hc => ?_) (fun hc => ?_)
  · rw [if_pos hc] at h
    refine g_iconst (pc' := 31) (v := (-1)) C dX11_phase_30 (by decide) rfl ?_
    exact g_iret C hr dX11_phase_31 h
  · rw [if_neg hc] at h
    refine g_iload_n (pc' := 9) C dX11_phase_8 2 rfl rfl ?_
    refine g_i2l (pc' := 10) C dX11_phase_9 rfl ?_
    refine g_lconst (pc' := 11) (v := 0) C dX11_phase_10 (by decide) rfl ?_
    refine g_aload_n (pc' := 12) C dX11_phase_11 0 rfl rfl ?_
    refine gg_X11_7 (pc' := 15) C dX11_phase_12 rfl ?_
    refine g_iconst (pc' := 16) (v := 5) C dX11_phase_15 (by decide) rfl ?_
    refine g_iload_n (pc' := 17) C dX11_phase_16 1 rfl rfl ?_
    refine g_imul (pc' := 18) C dX11_phase_17 rfl ?_
    refine g_iconst (pc' := 19) (v := 2) C dX11_phase_18 (by decide) rfl ?_
    refine g_iadd (pc' := 20) C dX11_phase_19 rfl ?_
    obtain ⟨h3, h⟩ := chk_some h
    refine g_iald (pc' := 21) C (o := 1) (by decide) rfl (inb_d h3) dX11_phase_20 rfl ?_
    refine g_iconst (pc' := 22) (v := 1) C dX11_phase_21 (by decide) rfl ?_
    refine g_isub (pc' := 23) C dX11_phase_22 rfl ?_
    refine g_i2l (pc' := 24) C dX11_phase_23 rfl ?_
    obtain ⟨q4, h5, h⟩ := bind_some h
    refine g_callSi (pc' := 27) (res := q4) C [.long (Int32.toInt64 a2), .long 0, .long (Int32.toInt64 ((rA q1.1 1 ((5 * a1) + 2)) - 1))] cY_X11_in mv_X11_in mm_X11_66 ⟨Nat.le_trans (by decide) hR.1, Nat.le_trans (by decide) hR.2⟩ rfl (Nat.le_of_ble_eq_true rfl) rfl dX11_phase_24 (c_X11_in l base D cA q1.1 (Int32.toInt64 a2) 0 (Int32.toInt64 ((rA q1.1 1 ((5 * a1) + 2)) - 1)) q4 h5) rfl ?_
    refine g_if_ne (pc' := 30) (tgt := 32) C dX11_phase_27 (by decide) rfl (fun hc => ?_) (fun hc => ?_)
    · rw [if_neg hc] at h
      refine g_aload_n (pc' := 33) C dX11_phase_32 0 rfl rfl ?_
      refine gg_X11_7 (pc' := 36) C dX11_phase_33 rfl ?_
      refine g_iconst (pc' := 37) (v := 5) C dX11_phase_36 (by decide) rfl ?_
      refine g_iload_n (pc' := 38) C dX11_phase_37 1 rfl rfl ?_
      refine g_imul (pc' := 39) C dX11_phase_38 rfl ?_
      refine g_iconst (pc' := 40) (v := 4) C dX11_phase_39 (by decide) rfl ?_
      refine g_iadd (pc' := 41) C dX11_phase_40 rfl ?_
      obtain ⟨h6, h⟩ := chk_some h
      refine g_iald (pc' := 42) C (o := 1) (by decide) rfl (inb_d h6) dX11_phase_41 rfl ?_
      obtain ⟨v7, e8, h⟩ := let_some h
      refine g_nameI e8 ?_
      refine g_istore_n (pc' := 43) (lv' := [(3, .int v7), (0, .ref (base + 0)), (1, .int a1), (2, .int a2)]) C dX11_phase_42 rfl (by decide) rfl rfl ?_
      refine g_aload_n (pc' := 44) C dX11_phase_43 1 rfl rfl ?_
      refine gg_X11_7 (pc' := 47) C dX11_phase_44 rfl ?_
      refine g_iconst (pc' := 48) (v := 5) C dX11_phase_47 (by decide) rfl ?_
      refine g_iload_n (pc' := 49) C dX11_phase_48 2 rfl rfl ?_
      refine g_imul (pc' := 50) C dX11_phase_49 rfl ?_
      refine g_iconst (pc' := 51) (v := 4) C dX11_phase_50 (by decide) rfl ?_
      refine g_iadd (pc' := 52) C dX11_phase_51 rfl ?_
      refine g_iload_n (pc' := 53) C dX11_phase_52 3 rfl rfl ?_
      obtain ⟨h9, h⟩ := chk_some h
      obtain ⟨s10, e11, h⟩ := let_some h
      refine g_iast (pc' := 54) C (o := 1) (by decide) rfl (inb_d h9) dX11_phase_53 rfl e11 ?_
      refine g_iload_n (pc' := 55) C dX11_phase_54 0 rfl rfl ?_
      exact g_iret C hr dX11_phase_55 h
    · rw [if_pos hc] at h
      refine g_iconst (pc' := 31) (v := (-1)) C dX11_phase_30 (by decide) rfl ?_
      exact g_iret C hr dX11_phase_31 h
theorem c_X11_phase (l : Launch) (base : Nat) (D : va_G) (cA : Nat → ClassId) (σ : cr_S) (a1 : Int32) (a2 : Int32) (res : cr_S × Int32) (h : f_X11_phase σ a1 a2 = some res) : cr_M l yX11_phase cX11_phase 4 (some .int) 2 46 sfM 17 base D cA [.ref (base + 0), .int a1, .int a2] σ (cr_Qi sfM 17 base D cA res) := by
  refine cr_enter [.ref (base + 0), .int a1, .int a2] [(0, .ref (base + 0)), (1, .int a1), (2, .int a2)] (by decide) (Nat.le_of_ble_eq_true rfl) rfl ?_
  intro p e R s m below meth c C hr hR
  exact w_X11_phase C hr hR σ a1 a2 h
noncomputable def f_X11_shipComes (σ : cr_S) (a1 : Int32) (a2 : Int32) (a3 : Int32) : Option (cr_S) :=
  chk (inb (3 * (rF σ 0 1)) 15) (cr_let (sA σ 2 (3 * (rF σ 0 1)) a1) (fun s2 => chk (inb ((3 * (rF s2 0 1)) + 1) 15) (cr_let (sA s2 2 ((3 * (rF s2 0 1)) + 1) a2) (fun s5 => chk (inb ((3 * (rF s5 0 1)) + 2) 15) (cr_let (sA s5 2 ((3 * (rF s5 0 1)) + 2) a3) (fun s8 => cr_let (sF s8 0 1 ((rF s8 0 1) + 1)) (fun s10 => some s10)))))))
set_option maxRecDepth 100000 in
set_option maxHeartbeats 4000000 in
theorem w_X11_shipComes (C : cr_C p l e R s m args below meth c sfM 17 base D cA cX11_shipComes 4 RX11) (hr : meth.sig.returnType = none) (hR : 0 ≤ R.frames ∧ 0 ≤ R.locals) {res : cr_S} (σ : cr_S) (a1 : Int32) (a2 : Int32) (a3 : Int32) (h : f_X11_shipComes σ a1 a2 a3 = some res) : cr_W p l e R s m args below meth c sfM 17 base D cA 4 (MQ below (cr_Qv sfM 17 base D cA res) args s 0 0 (cr_A 17 base)) σ 0 [(0, .ref (base + 0)), (1, .int a1), (2, .int a2), (3, .int a3)] [] := by
  unfold f_X11_shipComes at h
  refine g_aload_n (pc' := 1) C dX11_shipComes_0 0 rfl rfl ?_
  refine gg_X11_13 (pc' := 4) C dX11_shipComes_1 rfl ?_
  refine g_iconst (pc' := 5) (v := 3) C dX11_shipComes_4 (by decide) rfl ?_
  refine g_aload_n (pc' := 6) C dX11_shipComes_5 0 rfl rfl ?_
  refine gg_X11_70 (pc' := 9) C dX11_shipComes_6 rfl ?_
  refine g_imul (pc' := 10) C dX11_shipComes_9 rfl ?_
  refine g_iload_n (pc' := 11) C dX11_shipComes_10 1 rfl rfl ?_
  obtain ⟨h1, h⟩ := chk_some h
  obtain ⟨s2, e3, h⟩ := let_some h
  refine g_iast (pc' := 12) C (o := 2) (by decide) rfl (inb_d h1) dX11_shipComes_11 rfl e3 ?_
  refine g_aload_n (pc' := 13) C dX11_shipComes_12 0 rfl rfl ?_
  refine gg_X11_13 (pc' := 16) C dX11_shipComes_13 rfl ?_
  refine g_iconst (pc' := 17) (v := 3) C dX11_shipComes_16 (by decide) rfl ?_
  refine g_aload_n (pc' := 18) C dX11_shipComes_17 0 rfl rfl ?_
  refine gg_X11_70 (pc' := 21) C dX11_shipComes_18 rfl ?_
  refine g_imul (pc' := 22) C dX11_shipComes_21 rfl ?_
  refine g_iconst (pc' := 23) (v := 1) C dX11_shipComes_22 (by decide) rfl ?_
  refine g_iadd (pc' := 24) C dX11_shipComes_23 rfl ?_
  refine g_iload_n (pc' := 25) C dX11_shipComes_24 2 rfl rfl ?_
  obtain ⟨h4, h⟩ := chk_some h
  obtain ⟨s5, e6, h⟩ := let_some h
  refine g_iast (pc' := 26) C (o := 2) (by decide) rfl (inb_d h4) dX11_shipComes_25 rfl e6 ?_
  refine g_aload_n (pc' := 27) C dX11_shipComes_26 0 rfl rfl ?_
  refine gg_X11_13 (pc' := 30) C dX11_shipComes_27 rfl ?_
  refine g_iconst (pc' := 31) (v := 3) C dX11_shipComes_30 (by decide) rfl ?_
  refine g_aload_n (pc' := 32) C dX11_shipComes_31 0 rfl rfl ?_
  refine gg_X11_70 (pc' := 35) C dX11_shipComes_32 rfl ?_
  refine g_imul (pc' := 36) C dX11_shipComes_35 rfl ?_
  refine g_iconst (pc' := 37) (v := 2) C dX11_shipComes_36 (by decide) rfl ?_
  refine g_iadd (pc' := 38) C dX11_shipComes_37 rfl ?_
  refine g_iload_n (pc' := 39) C dX11_shipComes_38 3 rfl rfl ?_
  obtain ⟨h7, h⟩ := chk_some h
  obtain ⟨s8, e9, h⟩ := let_some h
  refine g_iast (pc' := 40) C (o := 2) (by decide) rfl (inb_d h7) dX11_shipComes_39 rfl e9 ?_
  refine g_aload_n (pc' := 41) C dX11_shipComes_40 0 rfl rfl ?_
  refine g_dup (pc' := 42) C dX11_shipComes_41 rfl rfl ?_
  refine gg_X11_70 (pc' := 45) C dX11_shipComes_42 rfl ?_
  refine g_iconst (pc' := 46) (v := 1) C dX11_shipComes_45 (by decide) rfl ?_
  refine g_iadd (pc' := 47) C dX11_shipComes_46 rfl ?_
  obtain ⟨s10, e11, h⟩ := let_some h
  refine gp_X11_70 (pc' := 50) C dX11_shipComes_47 rfl e11 ?_
  exact g_vret C hr dX11_shipComes_50 h
theorem c_X11_shipComes (l : Launch) (base : Nat) (D : va_G) (cA : Nat → ClassId) (σ : cr_S) (a1 : Int32) (a2 : Int32) (a3 : Int32) (res : cr_S) (h : f_X11_shipComes σ a1 a2 a3 = some res) : cr_M l yX11_shipComes cX11_shipComes 4 none 0 0 sfM 17 base D cA [.ref (base + 0), .int a1, .int a2, .int a3] σ (cr_Qv sfM 17 base D cA res) := by
  refine cr_enter [.ref (base + 0), .int a1, .int a2, .int a3] [(0, .ref (base + 0)), (1, .int a1), (2, .int a2), (3, .int a3)] (by decide) (Nat.le_of_ble_eq_true rfl) rfl ?_
  intro p e R s m below meth c C hr hR
  exact w_X11_shipComes C hr hR σ a1 a2 a3 h
noncomputable def f_X11_ship (σ : cr_S) (a1 : Int32) (a2 : Int32) (a3 : Int32) : Option (cr_S × Int32) :=
  Option.bind (f_X11_in σ (Int32.toInt64 a1) 0 3) (fun q1 => (if q1.2 = 0 then some (q1.1, (-1)) else Option.bind (f_X11_in q1.1 (Int32.toInt64 a2) 1 9) (fun q3 => (if q3.2 = 0 then some (q3.1, (-1)) else Option.bind (f_X11_in q3.1 (Int32.toInt64 a3) 1 5) (fun q5 => (if q5.2 = 0 then some (q5.1, (-1)) else (if (rF q5.1 0 1) = 5 then some (q5.1, (-3)) else Option.bind (f_X11_shipComes q5.1 a1 a2 a3) (fun q7 => some (q7, (rF q7 0 1) - 1)))))))))
set_option maxRecDepth 100000 in
set_option maxHeartbeats 4000000 in
theorem w_X11_ship (C : cr_C p l e R s m args below meth c sfM 17 base D cA cX11_ship 4 RX11) (hr : meth.sig.returnType = some .int) (hR : 1 ≤ R.frames ∧ 25 ≤ R.locals) {res : cr_S × Int32} (σ : cr_S) (a1 : Int32) (a2 : Int32) (a3 : Int32) (h : f_X11_ship σ a1 a2 a3 = some res) : cr_W p l e R s m args below meth c sfM 17 base D cA 4 (MQ below (cr_Qi sfM 17 base D cA res) args s 0 0 (cr_A 17 base)) σ 0 [(0, .ref (base + 0)), (1, .int a1), (2, .int a2), (3, .int a3)] [] := by
  unfold f_X11_ship at h
  refine g_iload_n (pc' := 1) C dX11_ship_0 1 rfl rfl ?_
  refine g_i2l (pc' := 2) C dX11_ship_1 rfl ?_
  refine g_lconst (pc' := 3) (v := 0) C dX11_ship_2 (by decide) rfl ?_
  refine g_ldc2 (pc' := 6) (v := 3) C dX11_ship_3 ml_X11_75 rfl ?_
  obtain ⟨q1, h2, h⟩ := bind_some h
  refine g_callSi (pc' := 9) (res := q1) C [.long (Int32.toInt64 a1), .long 0, .long 3] cY_X11_in mv_X11_in mm_X11_66 ⟨Nat.le_trans (by decide) hR.1, Nat.le_trans (by decide) hR.2⟩ rfl (Nat.le_of_ble_eq_true rfl) rfl dX11_ship_6 (c_X11_in l base D cA σ (Int32.toInt64 a1) 0 3 q1 h2) rfl ?_
  refine g_if_eq (pc' := 12) (tgt := 36) C dX11_ship_9 (by decide) rfl (fun hc => ?_) (fun hc => ?_)
  · rw [if_pos hc] at h
    refine g_iconst (pc' := 37) (v := (-1)) C dX11_ship_36 (by decide) rfl ?_
    exact g_iret C hr dX11_ship_37 h
  · rw [if_neg hc] at h
    refine g_iload_n (pc' := 13) C dX11_ship_12 2 rfl rfl ?_
    refine g_i2l (pc' := 14) C dX11_ship_13 rfl ?_
    refine g_lconst (pc' := 15) (v := 1) C dX11_ship_14 (by decide) rfl ?_
    refine g_ldc2 (pc' := 18) (v := 9) C dX11_ship_15 ml_X11_91 rfl ?_
    obtain ⟨q3, h4, h⟩ := bind_some h
    refine g_callSi (pc' := 21) (res := q3) C [.long (Int32.toInt64 a2), .long 1, .long 9] cY_X11_in mv_X11_in mm_X11_66 ⟨Nat.le_trans (by decide) hR.1, Nat.le_trans (by decide) hR.2⟩ rfl (Nat.le_of_ble_eq_true rfl) rfl dX11_ship_18 (c_X11_in l base D cA q1.1 (Int32.toInt64 a2) 1 9 q3 h4) rfl ?_
    refine g_if_eq (pc' := 24) (tgt := 36) C dX11_ship_21 (by decide) rfl (fun hc => ?_) (fun hc => ?_)
    · rw [if_pos hc] at h
      refine g_iconst (pc' := 37) (v := (-1)) C dX11_ship_36 (by decide) rfl ?_
      exact g_iret C hr dX11_ship_37 h
    · rw [if_neg hc] at h
      refine g_iload_n (pc' := 25) C dX11_ship_24 3 rfl rfl ?_
      refine g_i2l (pc' := 26) C dX11_ship_25 rfl ?_
      refine g_lconst (pc' := 27) (v := 1) C dX11_ship_26 (by decide) rfl ?_
      refine g_ldc2 (pc' := 30) (v := 5) C dX11_ship_27 ml_X11_93 rfl ?_
      obtain ⟨q5, h6, h⟩ := bind_some h
      refine g_callSi (pc' := 33) (res := q5) C [.long (Int32.toInt64 a3), .long 1, .long 5] cY_X11_in mv_X11_in mm_X11_66 ⟨Nat.le_trans (by decide) hR.1, Nat.le_trans (by decide) hR.2⟩ rfl (Nat.le_of_ble_eq_true rfl) rfl dX11_ship_30 (c_X11_in l base D cA q3.1 (Int32.toInt64 a3) 1 5 q5 h6) rfl ?_
      refine g_if_ne (pc' := 36) (tgt := 38) C dX11_ship_33 (by decide) rfl (fun hc => ?_) (fun hc => ?_)
      · rw [if_neg hc] at h
        refine g_aload_n (pc' := 39) C dX11_ship_38 0 rfl rfl ?_
        refine gg_X11_70 (pc' := 42) C dX11_ship_39 rfl ?_
        refine g_iconst (pc' := 43) (v := 5) C dX11_ship_42 (by decide) rfl ?_
        refine g_icmp_ne (pc' := 46) (tgt := 49) C dX11_ship_43 (by decide) rfl (fun hc => ?_) (fun hc => ?_)
        · rw [if_neg hc] at h
          refine g_aload_n (pc' := 50) C dX11_ship_49 0 rfl rfl ?_
          refine g_iload_n (pc' := 51) C dX11_ship_50 1 rfl rfl ?_
          refine g_iload_n (pc' := 52) C dX11_ship_51 2 rfl rfl ?_
          refine g_iload_n (pc' := 53) C dX11_ship_52 3 rfl rfl ?_
          obtain ⟨q7, h8, h⟩ := bind_some h
          refine g_callVv (pc' := 56) (res := q7) C [.int a1, .int a2, .int a3] cY_X11_shipComes rfl (o := 0) (by decide) rfl mv_X11_shipComes mm_X11_95 ⟨Nat.le_trans (by decide) hR.1, Nat.le_trans (by decide) hR.2⟩ rfl (Nat.le_of_ble_eq_true rfl) rfl dX11_ship_53 (c_X11_shipComes l base D cA q5.1 a1 a2 a3 q7 h8) rfl ?_
          refine g_aload_n (pc' := 57) C dX11_ship_56 0 rfl rfl ?_
          refine gg_X11_70 (pc' := 60) C dX11_ship_57 rfl ?_
          refine g_iconst (pc' := 61) (v := 1) C dX11_ship_60 (by decide) rfl ?_
          refine g_isub (pc' := 62) C dX11_ship_61 rfl ?_
          exact g_iret C hr dX11_ship_62 h
        · rw [if_pos hc] at h
          refine g_bipush (pc' := 48) (v := (-3)) C dX11_ship_46 (by decide) rfl ?_
          exact g_iret C hr dX11_ship_48 h
      · rw [if_pos hc] at h
        refine g_iconst (pc' := 37) (v := (-1)) C dX11_ship_36 (by decide) rfl ?_
        exact g_iret C hr dX11_ship_37 h
theorem c_X11_ship (l : Launch) (base : Nat) (D : va_G) (cA : Nat → ClassId) (σ : cr_S) (a1 : Int32) (a2 : Int32) (a3 : Int32) (res : cr_S × Int32) (h : f_X11_ship σ a1 a2 a3 = some res) : cr_M l yX11_ship cX11_ship 4 (some .int) 1 25 sfM 17 base D cA [.ref (base + 0), .int a1, .int a2, .int a3] σ (cr_Qi sfM 17 base D cA res) := by
  refine cr_enter [.ref (base + 0), .int a1, .int a2, .int a3] [(0, .ref (base + 0)), (1, .int a1), (2, .int a2), (3, .int a3)] (by decide) (Nat.le_of_ble_eq_true rfl) rfl ?_
  intro p e R s m below meth c C hr hR
  exact w_X11_ship C hr hR σ a1 a2 a3 h
noncomputable def f_X11_of (σ : cr_S) (a1 : Int32) (a2 : Int32) : Option (cr_S × Int32) :=
  Option.bind (f_X11_isPair σ a1) (fun q1 => (if q1.2 = 0 then some (q1.1, (-1)) else Option.bind (f_X11_in q1.1 (Int32.toInt64 a2) 0 4) (fun q3 => (if q3.2 = 0 then some (q3.1, (-1)) else chk (inb ((5 * a1) + a2) 30) (some (q3.1, rA q3.1 1 ((5 * a1) + a2)))))))
set_option maxRecDepth 100000 in
set_option maxHeartbeats 4000000 in
theorem w_X11_of (C : cr_C p l e R s m args below meth c sfM 17 base D cA cX11_of 3 RX11) (hr : meth.sig.returnType = some .int) (hR : 2 ≤ R.frames ∧ 46 ≤ R.locals) {res : cr_S × Int32} (σ : cr_S) (a1 : Int32) (a2 : Int32) (h : f_X11_of σ a1 a2 = some res) : cr_W p l e R s m args below meth c sfM 17 base D cA 3 (MQ below (cr_Qi sfM 17 base D cA res) args s 0 0 (cr_A 17 base)) σ 0 [(0, .ref (base + 0)), (1, .int a1), (2, .int a2)] [] := by
  unfold f_X11_of at h
  refine g_aload_n (pc' := 1) C dX11_of_0 0 rfl rfl ?_
  refine g_iload_n (pc' := 2) C dX11_of_1 1 rfl rfl ?_
  obtain ⟨q1, h2, h⟩ := bind_some h
  refine g_callVi (pc' := 5) (res := q1) C [.int a1] cY_X11_isPair rfl (o := 0) (by decide) rfl mv_X11_isPair mm_X11_87 ⟨Nat.le_trans (by decide) hR.1, Nat.le_trans (by decide) hR.2⟩ rfl (Nat.le_of_ble_eq_true rfl) rfl dX11_of_2 (c_X11_isPair l base D cA σ a1 q1 h2) rfl ?_
  refine g_if_eq (pc' := 8) (tgt := 33) C dX11_of_5 (by decide) rfl (fun hc => ?_) (fun hc => ?_)
  · rw [if_pos hc] at h
    refine g_iconst (pc' := 34) (v := (-1)) C dX11_of_33 (by decide) rfl ?_
    exact g_iret C hr dX11_of_34 h
  · rw [if_neg hc] at h
    refine g_iload_n (pc' := 9) C dX11_of_8 2 rfl rfl ?_
    refine g_i2l (pc' := 10) C dX11_of_9 rfl ?_
    refine g_lconst (pc' := 11) (v := 0) C dX11_of_10 (by decide) rfl ?_
    refine g_ldc2 (pc' := 14) (v := 4) C dX11_of_11 ml_X11_99 rfl ?_
    obtain ⟨q3, h4, h⟩ := bind_some h
    refine g_callSi (pc' := 17) (res := q3) C [.long (Int32.toInt64 a2), .long 0, .long 4] cY_X11_in mv_X11_in mm_X11_66 ⟨Nat.le_trans (by decide) hR.1, Nat.le_trans (by decide) hR.2⟩ rfl (Nat.le_of_ble_eq_true rfl) rfl dX11_of_14 (c_X11_in l base D cA q1.1 (Int32.toInt64 a2) 0 4 q3 h4) rfl ?_
    refine g_if_eq (pc' := 20) (tgt := 33) C dX11_of_17 (by decide) rfl (fun hc => ?_) (fun hc => ?_)
    · rw [if_pos hc] at h
      refine g_iconst (pc' := 34) (v := (-1)) C dX11_of_33 (by decide) rfl ?_
      exact g_iret C hr dX11_of_34 h
    · rw [if_neg hc] at h
      refine g_aload_n (pc' := 21) C dX11_of_20 0 rfl rfl ?_
      refine gg_X11_7 (pc' := 24) C dX11_of_21 rfl ?_
      refine g_iconst (pc' := 25) (v := 5) C dX11_of_24 (by decide) rfl ?_
      refine g_iload_n (pc' := 26) C dX11_of_25 1 rfl rfl ?_
      refine g_imul (pc' := 27) C dX11_of_26 rfl ?_
      refine g_iload_n (pc' := 28) C dX11_of_27 2 rfl rfl ?_
      refine g_iadd (pc' := 29) C dX11_of_28 rfl ?_
      obtain ⟨h5, h⟩ := chk_some h
      refine g_iald (pc' := 30) C (o := 1) (by decide) rfl (inb_d h5) dX11_of_29 rfl ?_
      refine g_goto (tgt := 34) C dX11_of_30 (by decide) ?_
      exact g_iret C hr dX11_of_34 h
theorem c_X11_of (l : Launch) (base : Nat) (D : va_G) (cA : Nat → ClassId) (σ : cr_S) (a1 : Int32) (a2 : Int32) (res : cr_S × Int32) (h : f_X11_of σ a1 a2 = some res) : cr_M l yX11_of cX11_of 3 (some .int) 2 46 sfM 17 base D cA [.ref (base + 0), .int a1, .int a2] σ (cr_Qi sfM 17 base D cA res) := by
  refine cr_enter [.ref (base + 0), .int a1, .int a2] [(0, .ref (base + 0)), (1, .int a1), (2, .int a2)] (by decide) (Nat.le_of_ble_eq_true rfl) rfl ?_
  intro p e R s m below meth c C hr hR
  exact w_X11_of C hr hR σ a1 a2 h
noncomputable def f_X11_high (σ : cr_S) (a1 : Int32) : Option (cr_S × Int32) :=
  chk (inb ((3 * a1) + 2) 15) (cr_let (rA σ 2 ((3 * a1) + 2)) (fun v2 => chk (inb (3 * a1) 15) ((if ((rA σ 2 (3 * a1)) - (rA σ 2 (3 * a1)) / 2 * 2) = 1 then (if v2 ≤ 2 then some (σ, v2) else some (σ, 2)) else some (σ, v2)))))
set_option maxRecDepth 100000 in
set_option maxHeartbeats 4000000 in
theorem w_X11_high (C : cr_C p l e R s m args below meth c sfM 17 base D cA cX11_high 3 RX11) (hr : meth.sig.returnType = some .int) (hR : 0 ≤ R.frames ∧ 0 ≤ R.locals) {res : cr_S × Int32} (σ : cr_S) (a1 : Int32) (h : f_X11_high σ a1 = some res) : cr_W p l e R s m args below meth c sfM 17 base D cA 3 (MQ below (cr_Qi sfM 17 base D cA res) args s 0 0 (cr_A 17 base)) σ 0 [(0, .ref (base + 0)), (1, .int a1)] [] := by
  unfold f_X11_high at h
  refine g_aload_n (pc' := 1) C dX11_high_0 0 rfl rfl ?_
  refine gg_X11_13 (pc' := 4) C dX11_high_1 rfl ?_
  refine g_iconst (pc' := 5) (v := 3) C dX11_high_4 (by decide) rfl ?_
  refine g_iload_n (pc' := 6) C dX11_high_5 1 rfl rfl ?_
  refine g_imul (pc' := 7) C dX11_high_6 rfl ?_
  refine g_iconst (pc' := 8) (v := 2) C dX11_high_7 (by decide) rfl ?_
  refine g_iadd (pc' := 9) C dX11_high_8 rfl ?_
  obtain ⟨h1, h⟩ := chk_some h
  refine g_iald (pc' := 10) C (o := 2) (by decide) rfl (inb_d h1) dX11_high_9 rfl ?_
  obtain ⟨v2, e3, h⟩ := let_some h
  refine g_nameI e3 ?_
  refine g_istore_n (pc' := 11) (lv' := [(2, .int v2), (0, .ref (base + 0)), (1, .int a1)]) C dX11_high_10 rfl (by decide) rfl rfl ?_
  refine g_aload_n (pc' := 12) C dX11_high_11 1 rfl rfl ?_
  refine gg_X11_13 (pc' := 15) C dX11_high_12 rfl ?_
  refine g_iconst (pc' := 16) (v := 3) C dX11_high_15 (by decide) rfl ?_
  refine g_iload_n (pc' := 17) C dX11_high_16 2 rfl rfl ?_
  refine g_imul (pc' := 18) C dX11_high_17 rfl ?_
  obtain ⟨h4, h⟩ := chk_some h
  refine g_iald (pc' := 19) C (o := 2) (by decide) rfl (inb_d h4) dX11_high_18 rfl ?_
  refine g_iconst (pc' := 20) (v := 2) C dX11_high_19 (by decide) rfl ?_
  refine g_irem (pc' := 21) C dX11_high_20 (by decide) rfl ?_
  refine g_iconst (pc' := 22) (v := 1) C dX11_high_21 (by decide) rfl ?_
  refine g_icmp_ne (pc' := 25) (tgt := 34) C dX11_high_22 (by decide) rfl (fun hc => ?_) (fun hc => ?_)
  · rw [if_neg hc] at h
    refine g_iload_n (pc' := 35) C dX11_high_34 0 rfl rfl ?_
    exact g_iret C hr dX11_high_35 h
  · rw [if_pos hc] at h
    refine g_iload_n (pc' := 26) C dX11_high_25 0 rfl rfl ?_
    refine g_iconst (pc' := 27) (v := 2) C dX11_high_26 (by decide) rfl ?_
    refine g_icmp_le (pc' := 30) (tgt := 34) C dX11_high_27 (by decide) rfl (fun hc => ?_) (fun hc => ?_)
    · rw [if_pos hc] at h
      refine g_iload_n (pc' := 35) C dX11_high_34 0 rfl rfl ?_
      exact g_iret C hr dX11_high_35 h
    · rw [if_neg hc] at h
      refine g_iconst (pc' := 31) (v := 2) C dX11_high_30 (by decide) rfl ?_
      refine g_goto (tgt := 35) C dX11_high_31 (by decide) ?_
      exact g_iret C hr dX11_high_35 h
theorem c_X11_high (l : Launch) (base : Nat) (D : va_G) (cA : Nat → ClassId) (σ : cr_S) (a1 : Int32) (res : cr_S × Int32) (h : f_X11_high σ a1 = some res) : cr_M l yX11_high cX11_high 3 (some .int) 0 0 sfM 17 base D cA [.ref (base + 0), .int a1] σ (cr_Qi sfM 17 base D cA res) := by
  refine cr_enter [.ref (base + 0), .int a1] [(0, .ref (base + 0)), (1, .int a1)] (by decide) (Nat.le_of_ble_eq_true rfl) rfl ?_
  intro p e R s m below meth c C hr hR
  exact w_X11_high C hr hR σ a1 h
noncomputable def f_X11_low (σ : cr_S) (a1 : Int32) : Option (cr_S × Int32) :=
  chk (inb (3 * a1) 15) ((if (rA σ 2 (3 * a1)) = 2 then Option.bind (f_X11_high σ a1) (fun q2 => some (q2.1, q2.2)) else some (σ, 1)))
set_option maxRecDepth 100000 in
set_option maxHeartbeats 4000000 in
theorem w_X11_low (C : cr_C p l e R s m args below meth c sfM 17 base D cA cX11_low 2 RX11) (hr : meth.sig.returnType = some .int) (hR : 1 ≤ R.frames ∧ 22 ≤ R.locals) {res : cr_S × Int32} (σ : cr_S) (a1 : Int32) (h : f_X11_low σ a1 = some res) : cr_W p l e R s m args below meth c sfM 17 base D cA 2 (MQ below (cr_Qi sfM 17 base D cA res) args s 0 0 (cr_A 17 base)) σ 0 [(0, .ref (base + 0)), (1, .int a1)] [] := by
  unfold f_X11_low at h
  refine g_aload_n (pc' := 1) C dX11_low_0 0 rfl rfl ?_
  refine gg_X11_13 (pc' := 4) C dX11_low_1 rfl ?_
  refine g_iconst (pc' := 5) (v := 3) C dX11_low_4 (by decide) rfl ?_
  refine g_iload_n (pc' := 6) C dX11_low_5 1 rfl rfl ?_
  refine g_imul (pc' := 7) C dX11_low_6 rfl ?_
  obtain ⟨h1, h⟩ := chk_some h
  refine g_iald (pc' := 8) C (o := 2) (by decide) rfl (inb_d h1) dX11_low_7 rfl ?_
  refine g_iconst (pc' := 9) (v := 2) C dX11_low_8 (by decide) rfl ?_
  refine g_icmp_ne (pc' := 12) (tgt := 20) C dX11_low_9 (by decide) rfl (fun hc => ?_) (fun hc => ?_)
  · rw [if_neg hc] at h
    refine g_iconst (pc' := 21) (v := 1) C dX11_low_20 (by decide) rfl ?_
    exact g_iret C hr dX11_low_21 h
  · rw [if_pos hc] at h
    refine g_aload_n (pc' := 13) C dX11_low_12 0 rfl rfl ?_
    refine g_iload_n (pc' := 14) C dX11_low_13 1 rfl rfl ?_
    obtain ⟨q2, h3, h⟩ := bind_some h
    refine g_callVi (pc' := 17) (res := q2) C [.int a1] cY_X11_high rfl (o := 0) (by decide) rfl mv_X11_high mm_X11_101 ⟨Nat.le_trans (by decide) hR.1, Nat.le_trans (by decide) hR.2⟩ rfl (Nat.le_of_ble_eq_true rfl) rfl dX11_low_14 (c_X11_high l base D cA σ a1 q2 h3) rfl ?_
    refine g_goto (tgt := 21) C dX11_low_17 (by decide) ?_
    exact g_iret C hr dX11_low_21 h
theorem c_X11_low (l : Launch) (base : Nat) (D : va_G) (cA : Nat → ClassId) (σ : cr_S) (a1 : Int32) (res : cr_S × Int32) (h : f_X11_low σ a1 = some res) : cr_M l yX11_low cX11_low 2 (some .int) 1 22 sfM 17 base D cA [.ref (base + 0), .int a1] σ (cr_Qi sfM 17 base D cA res) := by
  refine cr_enter [.ref (base + 0), .int a1] [(0, .ref (base + 0)), (1, .int a1)] (by decide) (Nat.le_of_ble_eq_true rfl) rfl ?_
  intro p e R s m below meth c C hr hR
  exact w_X11_low C hr hR σ a1 h
noncomputable def f_X11_span (σ : cr_S) (a1 : Int32) : Option (cr_S × Int32) :=
  chk (inb ((3 * a1) + 1) 15) (chk (inb (3 * a1) 15) (some (σ, (rA σ 2 ((3 * a1) + 1)) + (if (rA σ 2 (3 * a1)) = 3 then 2 else 0))))
set_option maxRecDepth 100000 in
set_option maxHeartbeats 4000000 in
theorem w_X11_span (C : cr_C p l e R s m args below meth c sfM 17 base D cA cX11_span 2 RX11) (hr : meth.sig.returnType = some .int) (hR : 0 ≤ R.frames ∧ 0 ≤ R.locals) {res : cr_S × Int32} (σ : cr_S) (a1 : Int32) (h : f_X11_span σ a1 = some res) : cr_W p l e R s m args below meth c sfM 17 base D cA 2 (MQ below (cr_Qi sfM 17 base D cA res) args s 0 0 (cr_A 17 base)) σ 0 [(0, .ref (base + 0)), (1, .int a1)] [] := by
  unfold f_X11_span at h
  refine g_aload_n (pc' := 1) C dX11_span_0 0 rfl rfl ?_
  refine gg_X11_13 (pc' := 4) C dX11_span_1 rfl ?_
  refine g_iconst (pc' := 5) (v := 3) C dX11_span_4 (by decide) rfl ?_
  refine g_iload_n (pc' := 6) C dX11_span_5 1 rfl rfl ?_
  refine g_imul (pc' := 7) C dX11_span_6 rfl ?_
  refine g_iconst (pc' := 8) (v := 1) C dX11_span_7 (by decide) rfl ?_
  refine g_iadd (pc' := 9) C dX11_span_8 rfl ?_
  obtain ⟨h1, h⟩ := chk_some h
  refine g_iald (pc' := 10) C (o := 2) (by decide) rfl (inb_d h1) dX11_span_9 rfl ?_
  refine g_aload_n (pc' := 11) C dX11_span_10 0 rfl rfl ?_
  refine gg_X11_13 (pc' := 14) C dX11_span_11 rfl ?_
  refine g_iconst (pc' := 15) (v := 3) C dX11_span_14 (by decide) rfl ?_
  refine g_iload_n (pc' := 16) C dX11_span_15 1 rfl rfl ?_
  refine g_imul (pc' := 17) C dX11_span_16 rfl ?_
  obtain ⟨h2, h⟩ := chk_some h
  refine g_iald (pc' := 18) C (o := 2) (by decide) rfl (inb_d h2) dX11_span_17 rfl ?_
  refine g_iconst (pc' := 19) (v := 3) C dX11_span_18 (by decide) rfl ?_
  refine g_iteI (σ := σ) (pj := 27) (lv := [(0, .ref (base + 0)), (1, .int a1)]) (st := [.int (rA σ 2 ((3 * a1) + 1))]) (cd := (rA σ 2 (3 * a1)) = 3) (a := 2) (b := 0) C ?_ (fun kt kf => ?_)
  · refine g_iadd (pc' := 28) C dX11_span_27 rfl ?_
    exact g_iret C hr dX11_span_28 h
  · refine g_icmp_ne (pc' := 22) (tgt := 26) C dX11_span_19 (by decide) rfl (fun hc => ?_) (fun hc => ?_)
    · refine g_iconst (pc' := 27) (v := 0) C dX11_span_26 (by decide) rfl ?_
      exact kf hc
    · refine g_iconst (pc' := 23) (v := 2) C dX11_span_22 (by decide) rfl ?_
      refine g_goto (tgt := 27) C dX11_span_23 (by decide) ?_
      exact kt hc
theorem c_X11_span (l : Launch) (base : Nat) (D : va_G) (cA : Nat → ClassId) (σ : cr_S) (a1 : Int32) (res : cr_S × Int32) (h : f_X11_span σ a1 = some res) : cr_M l yX11_span cX11_span 2 (some .int) 0 0 sfM 17 base D cA [.ref (base + 0), .int a1] σ (cr_Qi sfM 17 base D cA res) := by
  refine cr_enter [.ref (base + 0), .int a1] [(0, .ref (base + 0)), (1, .int a1)] (by decide) (Nat.le_of_ble_eq_true rfl) rfl ?_
  intro p e R s m below meth c C hr hR
  exact w_X11_span C hr hR σ a1 h
noncomputable def f_X11_told (σ : cr_S) (a1 : Int32) (a2 : Int32) : Option (cr_S × Int32) :=
  Option.bind (f_X11_isShip σ a1) (fun q1 => (if q1.2 = 0 then some (q1.1, (-1)) else Option.bind (f_X11_in q1.1 (Int32.toInt64 a2) 0 5) (fun q3 => (if q3.2 = 0 then some (q3.1, (-1)) else (if 3 ≤ a2 then (if a2 = 3 then Option.bind (f_X11_low q3.1 a1) (fun q9 => some (q9.1, q9.2)) else (if a2 = 4 then Option.bind (f_X11_high q3.1 a1) (fun q7 => some (q7.1, q7.2)) else Option.bind (f_X11_span q3.1 a1) (fun q5 => some (q5.1, q5.2)))) else chk (inb ((3 * a1) + a2) 15) (some (q3.1, rA q3.1 2 ((3 * a1) + a2))))))))
set_option maxRecDepth 100000 in
set_option maxHeartbeats 4000000 in
theorem w_X11_told (C : cr_C p l e R s m args below meth c sfM 17 base D cA cX11_told 3 RX11) (hr : meth.sig.returnType = some .int) (hR : 2 ≤ R.frames ∧ 46 ≤ R.locals) {res : cr_S × Int32} (σ : cr_S) (a1 : Int32) (a2 : Int32) (h : f_X11_told σ a1 a2 = some res) : cr_W p l e R s m args below meth c sfM 17 base D cA 3 (MQ below (cr_Qi sfM 17 base D cA res) args s 0 0 (cr_A 17 base)) σ 0 [(0, .ref (base + 0)), (1, .int a1), (2, .int a2)] [] := by
  unfold f_X11_told at h
  refine g_aload_n (pc' := 1) C dX11_told_0 0 rfl rfl ?_
  refine g_iload_n (pc' := 2) C dX11_told_1 1 rfl rfl ?_
  obtain ⟨q1, h2, h⟩ := bind_some h
  refine g_callVi (pc' := 5) (res := q1) C [.int a1] cY_X11_isShip rfl (o := 0) (by decide) rfl mv_X11_isShip mm_X11_105 ⟨Nat.le_trans (by decide) hR.1, Nat.le_trans (by decide) hR.2⟩ rfl (Nat.le_of_ble_eq_true rfl) rfl dX11_told_2 (c_X11_isShip l base D cA σ a1 q1 h2) rfl ?_
  refine g_if_eq (pc' := 8) (tgt := 20) C dX11_told_5 (by decide) rfl (fun hc => ?_) (fun hc => ?_)
  · rw [if_pos hc] at h
    refine g_iconst (pc' := 21) (v := (-1)) C dX11_told_20 (by decide) rfl ?_
    exact g_iret C hr dX11_told_21 h
  · rw [if_neg hc] at h
    refine g_iload_n (pc' := 9) C dX11_told_8 2 rfl rfl ?_
    refine g_i2l (pc' := 10) C dX11_told_9 rfl ?_
    refine g_lconst (pc' := 11) (v := 0) C dX11_told_10 (by decide) rfl ?_
    refine g_ldc2 (pc' := 14) (v := 5) C dX11_told_11 ml_X11_93 rfl ?_
    obtain ⟨q3, h4, h⟩ := bind_some h
    refine g_callSi (pc' := 17) (res := q3) C [.long (Int32.toInt64 a2), .long 0, .long 5] cY_X11_in mv_X11_in mm_X11_66 ⟨Nat.le_trans (by decide) hR.1, Nat.le_trans (by decide) hR.2⟩ rfl (Nat.le_of_ble_eq_true rfl) rfl dX11_told_14 (c_X11_in l base D cA q1.1 (Int32.toInt64 a2) 0 5 q3 h4) rfl ?_
    refine g_if_ne (pc' := 20) (tgt := 22) C dX11_told_17 (by decide) rfl (fun hc => ?_) (fun hc => ?_)
    · rw [if_neg hc] at h
      refine g_iload_n (pc' := 23) C dX11_told_22 2 rfl rfl ?_
      refine g_iconst (pc' := 24) (v := 3) C dX11_told_23 (by decide) rfl ?_
      refine g_icmp_ge (pc' := 27) (tgt := 40) C dX11_told_24 (by decide) rfl (fun hc => ?_) (fun hc => ?_)
      · rw [if_pos hc] at h
        refine g_iload_n (pc' := 41) C dX11_told_40 2 rfl rfl ?_
        refine g_iconst (pc' := 42) (v := 3) C dX11_told_41 (by decide) rfl ?_
        refine g_icmp_ne (pc' := 45) (tgt := 53) C dX11_told_42 (by decide) rfl (fun hc => ?_) (fun hc => ?_)
        · rw [if_neg hc] at h
          refine g_iload_n (pc' := 54) C dX11_told_53 2 rfl rfl ?_
          refine g_iconst (pc' := 55) (v := 4) C dX11_told_54 (by decide) rfl ?_
          refine g_icmp_ne (pc' := 58) (tgt := 66) C dX11_told_55 (by decide) rfl (fun hc => ?_) (fun hc => ?_)
          · rw [if_neg hc] at h
            refine g_aload_n (pc' := 67) C dX11_told_66 0 rfl rfl ?_
            refine g_iload_n (pc' := 68) C dX11_told_67 1 rfl rfl ?_
            obtain ⟨q5, h6, h⟩ := bind_some h
            refine g_callVi (pc' := 71) (res := q5) C [.int a1] cY_X11_span rfl (o := 0) (by decide) rfl mv_X11_span mm_X11_111 ⟨Nat.le_trans (by decide) hR.1, Nat.le_trans (by decide) hR.2⟩ rfl (Nat.le_of_ble_eq_true rfl) rfl dX11_told_68 (c_X11_span l base D cA q3.1 a1 q5 h6) rfl ?_
            exact g_iret C hr dX11_told_71 h
          · rw [if_pos hc] at h
            refine g_aload_n (pc' := 59) C dX11_told_58 0 rfl rfl ?_
            refine g_iload_n (pc' := 60) C dX11_told_59 1 rfl rfl ?_
            obtain ⟨q7, h8, h⟩ := bind_some h
            refine g_callVi (pc' := 63) (res := q7) C [.int a1] cY_X11_high rfl (o := 0) (by decide) rfl mv_X11_high mm_X11_101 ⟨Nat.le_trans (by decide) hR.1, Nat.le_trans (by decide) hR.2⟩ rfl (Nat.le_of_ble_eq_true rfl) rfl dX11_told_60 (c_X11_high l base D cA q3.1 a1 q7 h8) rfl ?_
            refine g_goto (tgt := 71) C dX11_told_63 (by decide) ?_
            exact g_iret C hr dX11_told_71 h
        · rw [if_pos hc] at h
          refine g_aload_n (pc' := 46) C dX11_told_45 0 rfl rfl ?_
          refine g_iload_n (pc' := 47) C dX11_told_46 1 rfl rfl ?_
          obtain ⟨q9, h10, h⟩ := bind_some h
          refine g_callVi (pc' := 50) (res := q9) C [.int a1] cY_X11_low rfl (o := 0) (by decide) rfl mv_X11_low mm_X11_108 ⟨Nat.le_trans (by decide) hR.1, Nat.le_trans (by decide) hR.2⟩ rfl (Nat.le_of_ble_eq_true rfl) rfl dX11_told_47 (c_X11_low l base D cA q3.1 a1 q9 h10) rfl ?_
          refine g_goto (tgt := 71) C dX11_told_50 (by decide) ?_
          exact g_iret C hr dX11_told_71 h
      · rw [if_neg hc] at h
        refine g_aload_n (pc' := 28) C dX11_told_27 0 rfl rfl ?_
        refine gg_X11_13 (pc' := 31) C dX11_told_28 rfl ?_
        refine g_iconst (pc' := 32) (v := 3) C dX11_told_31 (by decide) rfl ?_
        refine g_iload_n (pc' := 33) C dX11_told_32 1 rfl rfl ?_
        refine g_imul (pc' := 34) C dX11_told_33 rfl ?_
        refine g_iload_n (pc' := 35) C dX11_told_34 2 rfl rfl ?_
        refine g_iadd (pc' := 36) C dX11_told_35 rfl ?_
        obtain ⟨h11, h⟩ := chk_some h
        refine g_iald (pc' := 37) C (o := 2) (by decide) rfl (inb_d h11) dX11_told_36 rfl ?_
        refine g_goto (tgt := 71) C dX11_told_37 (by decide) ?_
        exact g_iret C hr dX11_told_71 h
    · rw [if_pos hc] at h
      refine g_iconst (pc' := 21) (v := (-1)) C dX11_told_20 (by decide) rfl ?_
      exact g_iret C hr dX11_told_21 h
theorem c_X11_told (l : Launch) (base : Nat) (D : va_G) (cA : Nat → ClassId) (σ : cr_S) (a1 : Int32) (a2 : Int32) (res : cr_S × Int32) (h : f_X11_told σ a1 a2 = some res) : cr_M l yX11_told cX11_told 3 (some .int) 2 46 sfM 17 base D cA [.ref (base + 0), .int a1, .int a2] σ (cr_Qi sfM 17 base D cA res) := by
  refine cr_enter [.ref (base + 0), .int a1, .int a2] [(0, .ref (base + 0)), (1, .int a1), (2, .int a2)] (by decide) (Nat.le_of_ble_eq_true rfl) rfl ?_
  intro p e R s m below meth c C hr hR
  exact w_X11_told C hr hR σ a1 a2 h
noncomputable def f_X11_isPlain (σ : cr_S) (a1 : Int32) (a2 : Int32) (a3 : Int32) : Option (cr_S × Int32) :=
  chk (inb ((5 * a1) + 2) 30) (chk (¬ (rA σ 1 ((5 * a1) + 2)) = 0) (chk (inb ((5 * a1) + 3) 30) (chk (isB (if (rA σ 1 ((5 * a1) + 3)) ≤ ((a2 + a3) - (a2 + a3) / (rA σ 1 ((5 * a1) + 2)) * (rA σ 1 ((5 * a1) + 2))) then 0 else 1)) (some (σ, if (rA σ 1 ((5 * a1) + 3)) ≤ ((a2 + a3) - (a2 + a3) / (rA σ 1 ((5 * a1) + 2)) * (rA σ 1 ((5 * a1) + 2))) then 0 else 1)))))
set_option maxRecDepth 100000 in
set_option maxHeartbeats 4000000 in
theorem w_X11_isPlain (C : cr_C p l e R s m args below meth c sfM 17 base D cA cX11_isPlain 4 RX11) (hr : meth.sig.returnType = some .boolean) (hR : 0 ≤ R.frames ∧ 0 ≤ R.locals) {res : cr_S × Int32} (σ : cr_S) (a1 : Int32) (a2 : Int32) (a3 : Int32) (h : f_X11_isPlain σ a1 a2 a3 = some res) : cr_W p l e R s m args below meth c sfM 17 base D cA 4 (MQ below (cr_Qi sfM 17 base D cA res) args s 0 0 (cr_A 17 base)) σ 0 [(0, .ref (base + 0)), (1, .int a1), (2, .int a2), (3, .int a3)] [] := by
  unfold f_X11_isPlain at h
  refine g_iload_n (pc' := 1) C dX11_isPlain_0 2 rfl rfl ?_
  refine g_iload_n (pc' := 2) C dX11_isPlain_1 3 rfl rfl ?_
  refine g_iadd (pc' := 3) C dX11_isPlain_2 rfl ?_
  refine g_aload_n (pc' := 4) C dX11_isPlain_3 0 rfl rfl ?_
  refine gg_X11_7 (pc' := 7) C dX11_isPlain_4 rfl ?_
  refine g_iconst (pc' := 8) (v := 5) C dX11_isPlain_7 (by decide) rfl ?_
  refine g_iload_n (pc' := 9) C dX11_isPlain_8 1 rfl rfl ?_
  refine g_imul (pc' := 10) C dX11_isPlain_9 rfl ?_
  refine g_iconst (pc' := 11) (v := 2) C dX11_isPlain_10 (by decide) rfl ?_
  refine g_iadd (pc' := 12) C dX11_isPlain_11 rfl ?_
  obtain ⟨h1, h⟩ := chk_some h
  refine g_iald (pc' := 13) C (o := 1) (by decide) rfl (inb_d h1) dX11_isPlain_12 rfl ?_
  obtain ⟨h2, h⟩ := chk_some h
  refine g_irem (pc' := 14) C dX11_isPlain_13 h2 rfl ?_
  refine g_aload_n (pc' := 15) C dX11_isPlain_14 0 rfl rfl ?_
  refine gg_X11_7 (pc' := 18) C dX11_isPlain_15 rfl ?_
  refine g_iconst (pc' := 19) (v := 5) C dX11_isPlain_18 (by decide) rfl ?_
  refine g_iload_n (pc' := 20) C dX11_isPlain_19 1 rfl rfl ?_
  refine g_imul (pc' := 21) C dX11_isPlain_20 rfl ?_
  refine g_iconst (pc' := 22) (v := 3) C dX11_isPlain_21 (by decide) rfl ?_
  refine g_iadd (pc' := 23) C dX11_isPlain_22 rfl ?_
  obtain ⟨h3, h⟩ := chk_some h
  refine g_iald (pc' := 24) C (o := 1) (by decide) rfl (inb_d h3) dX11_isPlain_23 rfl ?_
  refine g_iteI (σ := σ) (pj := 32) (lv := [(0, .ref (base + 0)), (1, .int a1), (2, .int a2), (3, .int a3)]) (st := []) (cd := (rA σ 1 ((5 * a1) + 3)) ≤ ((a2 + a3) - (a2 + a3) / (rA σ 1 ((5 * a1) + 2)) * (rA σ 1 ((5 * a1) + 2)))) (a := 0) (b := 1) C ?_ (fun kt kf => ?_)
  · obtain ⟨h4, h⟩ := chk_some h
    exact g_zret C hr (isB_n h4) dX11_isPlain_32 h
  · refine g_icmp_ge (pc' := 27) (tgt := 31) C dX11_isPlain_24 (by decide) rfl (fun hc => ?_) (fun hc => ?_)
    · refine g_iconst (pc' := 32) (v := 0) C dX11_isPlain_31 (by decide) rfl ?_
      exact kt hc
    · refine g_iconst (pc' := 28) (v := 1) C dX11_isPlain_27 (by decide) rfl ?_
      refine g_goto (tgt := 32) C dX11_isPlain_28 (by decide) ?_
      exact kf hc
theorem c_X11_isPlain (l : Launch) (base : Nat) (D : va_G) (cA : Nat → ClassId) (σ : cr_S) (a1 : Int32) (a2 : Int32) (a3 : Int32) (res : cr_S × Int32) (h : f_X11_isPlain σ a1 a2 a3 = some res) : cr_M l yX11_isPlain cX11_isPlain 4 (some .boolean) 0 0 sfM 17 base D cA [.ref (base + 0), .int a1, .int a2, .int a3] σ (cr_Qi sfM 17 base D cA res) := by
  refine cr_enter [.ref (base + 0), .int a1, .int a2, .int a3] [(0, .ref (base + 0)), (1, .int a1), (2, .int a2), (3, .int a3)] (by decide) (Nat.le_of_ble_eq_true rfl) rfl ?_
  intro p e R s m below meth c C hr hR
  exact w_X11_isPlain C hr hR σ a1 a2 a3 h
noncomputable def f_X11_isOpen (σ : cr_S) (a1 : Int32) (a2 : Int32) (a3 : Int32) : Option (cr_S × Int32) :=
  chk (inb (5 * a1) 30) (cr_let (rA σ 1 (5 * a1)) (fun v2 => (if v2 = 0 then Option.bind (f_X11_isPlain σ a1 a2 a3) (fun q4 => chk (isB q4.2) (some (q4.1, q4.2))) else (if v2 = 1 then Option.bind (f_X11_isPlain σ a1 (a2 / 2) a3) (fun q7 => chk (isB q7.2) (some (q7.1, q7.2))) else (if v2 = 2 then Option.bind (f_X11_isPlain σ a1 a2 a3) (fun q10 => (if q10.2 = 0 then chk (inb ((5 * a1) + 2) 30) (Option.bind (f_X11_isPlain q10.1 a1 (a2 + ((rA q10.1 1 ((5 * a1) + 2)) / 2)) a3) (fun q13 => chk (isB (if q13.2 = 0 then 0 else 1)) (some (q13.1, if q13.2 = 0 then 0 else 1)))) else some (q10.1, 1))) else (if a2 ≤ 0 then some (σ, 0) else Option.bind (f_X11_isPlain σ a1 (a2 / 2) a3) (fun q16 => (if q16.2 = 0 then some (q16.1, 0) else Option.bind (f_X11_isPlain q16.1 a1 ((a2 - 1) / 2) a3) (fun q18 => (if q18.2 = 0 then some (q18.1, 0) else some (q18.1, 1)))))))))))
set_option maxRecDepth 100000 in
set_option maxHeartbeats 4000000 in
theorem w_X11_isOpen (C : cr_C p l e R s m args below meth c sfM 17 base D cA cX11_isOpen 4 RX11) (hr : meth.sig.returnType = some .boolean) (hR : 1 ≤ R.frames ∧ 23 ≤ R.locals) {res : cr_S × Int32} (σ : cr_S) (a1 : Int32) (a2 : Int32) (a3 : Int32) (h : f_X11_isOpen σ a1 a2 a3 = some res) : cr_W p l e R s m args below meth c sfM 17 base D cA 4 (MQ below (cr_Qi sfM 17 base D cA res) args s 0 0 (cr_A 17 base)) σ 0 [(0, .ref (base + 0)), (1, .int a1), (2, .int a2), (3, .int a3)] [] := by
  unfold f_X11_isOpen at h
  refine g_aload_n (pc' := 1) C dX11_isOpen_0 0 rfl rfl ?_
  refine gg_X11_7 (pc' := 4) C dX11_isOpen_1 rfl ?_
  refine g_iconst (pc' := 5) (v := 5) C dX11_isOpen_4 (by decide) rfl ?_
  refine g_iload_n (pc' := 6) C dX11_isOpen_5 1 rfl rfl ?_
  refine g_imul (pc' := 7) C dX11_isOpen_6 rfl ?_
  obtain ⟨h1, h⟩ := chk_some h
  refine g_iald (pc' := 8) C (o := 1) (by decide) rfl (inb_d h1) dX11_isOpen_7 rfl ?_
  obtain ⟨v2, e3, h⟩ := let_some h
  refine g_nameI e3 ?_
  by_cases hc0 : v2 = 0
  · rw [if_pos hc0] at h
    refine g_tableIn (off := 28) (tgt := 36) C dX11_isOpen_8 (by rw [hc0]; decide) (by rw [hc0]; decide) (by rw [hc0]; decide) (by decide) ?_
    refine g_aload_n (pc' := 37) C dX11_isOpen_36 0 rfl rfl ?_
    refine g_iload_n (pc' := 38) C dX11_isOpen_37 1 rfl rfl ?_
    refine g_iload_n (pc' := 39) C dX11_isOpen_38 2 rfl rfl ?_
    refine g_iload_n (pc' := 40) C dX11_isOpen_39 3 rfl rfl ?_
    obtain ⟨q4, h5, h⟩ := bind_some h
    refine g_callVi (pc' := 43) (res := q4) C [.int a1, .int a2, .int a3] cY_X11_isPlain rfl (o := 0) (by decide) rfl mv_X11_isPlain mm_X11_114 ⟨Nat.le_trans (by decide) hR.1, Nat.le_trans (by decide) hR.2⟩ rfl (Nat.le_of_ble_eq_true rfl) rfl dX11_isOpen_40 (c_X11_isPlain l base D cA σ a1 a2 a3 q4 h5) rfl ?_
    obtain ⟨h6, h⟩ := chk_some h
    exact g_zret C hr (isB_n h6) dX11_isOpen_43 h
  rw [if_neg hc0] at h
  by_cases hc1 : v2 = 1
  · rw [if_pos hc1] at h
    refine g_tableIn (off := 36) (tgt := 44) C dX11_isOpen_8 (by rw [hc1]; decide) (by rw [hc1]; decide) (by rw [hc1]; decide) (by decide) ?_
    refine g_aload_n (pc' := 45) C dX11_isOpen_44 0 rfl rfl ?_
    refine g_iload_n (pc' := 46) C dX11_isOpen_45 1 rfl rfl ?_
    refine g_iload_n (pc' := 47) C dX11_isOpen_46 2 rfl rfl ?_
    refine g_iconst (pc' := 48) (v := 2) C dX11_isOpen_47 (by decide) rfl ?_
    refine g_idiv (pc' := 49) C dX11_isOpen_48 (by decide) rfl ?_
    refine g_iload_n (pc' := 50) C dX11_isOpen_49 3 rfl rfl ?_
    obtain ⟨q7, h8, h⟩ := bind_some h
    refine g_callVi (pc' := 53) (res := q7) C [.int a1, .int (a2 / 2), .int a3] cY_X11_isPlain rfl (o := 0) (by decide) rfl mv_X11_isPlain mm_X11_114 ⟨Nat.le_trans (by decide) hR.1, Nat.le_trans (by decide) hR.2⟩ rfl (Nat.le_of_ble_eq_true rfl) rfl dX11_isOpen_50 (c_X11_isPlain l base D cA σ a1 (a2 / 2) a3 q7 h8) rfl ?_
    obtain ⟨h9, h⟩ := chk_some h
    exact g_zret C hr (isB_n h9) dX11_isOpen_53 h
  rw [if_neg hc1] at h
  by_cases hc2 : v2 = 2
  · rw [if_pos hc2] at h
    refine g_tableIn (off := 46) (tgt := 54) C dX11_isOpen_8 (by rw [hc2]; decide) (by rw [hc2]; decide) (by rw [hc2]; decide) (by decide) ?_
    refine g_aload_n (pc' := 55) C dX11_isOpen_54 0 rfl rfl ?_
    refine g_iload_n (pc' := 56) C dX11_isOpen_55 1 rfl rfl ?_
    refine g_iload_n (pc' := 57) C dX11_isOpen_56 2 rfl rfl ?_
    refine g_iload_n (pc' := 58) C dX11_isOpen_57 3 rfl rfl ?_
    obtain ⟨q10, h11, h⟩ := bind_some h
    refine g_callVi (pc' := 61) (res := q10) C [.int a1, .int a2, .int a3] cY_X11_isPlain rfl (o := 0) (by decide) rfl mv_X11_isPlain mm_X11_114 ⟨Nat.le_trans (by decide) hR.1, Nat.le_trans (by decide) hR.2⟩ rfl (Nat.le_of_ble_eq_true rfl) rfl dX11_isOpen_58 (c_X11_isPlain l base D cA σ a1 a2 a3 q10 h11) rfl ?_
    refine g_if_ne (pc' := 64) (tgt := 87) C dX11_isOpen_61 (by decide) rfl (fun hc => ?_) (fun hc => ?_)
    · rw [if_neg hc] at h
      refine g_iconst (pc' := 88) (v := 1) C dX11_isOpen_87 (by decide) rfl ?_
      refine g_goto (tgt := 92) C dX11_isOpen_88 (by decide) ?_
      exact g_zret C hr rfl dX11_isOpen_92 h
    · rw [if_pos hc] at h
      refine g_aload_n (pc' := 65) C dX11_isOpen_64 0 rfl rfl ?_
      refine g_iload_n (pc' := 66) C dX11_isOpen_65 1 rfl rfl ?_
      refine g_iload_n (pc' := 67) C dX11_isOpen_66 2 rfl rfl ?_
      refine g_aload_n (pc' := 68) C dX11_isOpen_67 0 rfl rfl ?_
      refine gg_X11_7 (pc' := 71) C dX11_isOpen_68 rfl ?_
      refine g_iconst (pc' := 72) (v := 5) C dX11_isOpen_71 (by decide) rfl ?_
      refine g_iload_n (pc' := 73) C dX11_isOpen_72 1 rfl rfl ?_
      refine g_imul (pc' := 74) C dX11_isOpen_73 rfl ?_
      refine g_iconst (pc' := 75) (v := 2) C dX11_isOpen_74 (by decide) rfl ?_
      refine g_iadd (pc' := 76) C dX11_isOpen_75 rfl ?_
      obtain ⟨h12, h⟩ := chk_some h
      refine g_iald (pc' := 77) C (o := 1) (by decide) rfl (inb_d h12) dX11_isOpen_76 rfl ?_
      refine g_iconst (pc' := 78) (v := 2) C dX11_isOpen_77 (by decide) rfl ?_
      refine g_idiv (pc' := 79) C dX11_isOpen_78 (by decide) rfl ?_
      refine g_iadd (pc' := 80) C dX11_isOpen_79 rfl ?_
      refine g_iload_n (pc' := 81) C dX11_isOpen_80 3 rfl rfl ?_
      obtain ⟨q13, h14, h⟩ := bind_some h
      refine g_callVi (pc' := 84) (res := q13) C [.int a1, .int (a2 + ((rA q10.1 1 ((5 * a1) + 2)) / 2)), .int a3] cY_X11_isPlain rfl (o := 0) (by decide) rfl mv_X11_isPlain mm_X11_114 ⟨Nat.le_trans (by decide) hR.1, Nat.le_trans (by decide) hR.2⟩ rfl (Nat.le_of_ble_eq_true rfl) rfl dX11_isOpen_81 (c_X11_isPlain l base D cA q10.1 a1 (a2 + ((rA q10.1 1 ((5 * a1) + 2)) / 2)) a3 q13 h14) rfl ?_
      refine g_iteI (σ := q13.1) (pj := 92) (lv := [(0, .ref (base + 0)), (1, .int a1), (2, .int a2), (3, .int a3)]) (st := []) (cd := q13.2 = 0) (a := 0) (b := 1) C ?_ (fun kt kf => ?_)
      · obtain ⟨h15, h⟩ := chk_some h
        exact g_zret C hr (isB_n h15) dX11_isOpen_92 h
      · refine g_if_eq (pc' := 87) (tgt := 91) C dX11_isOpen_84 (by decide) rfl (fun hc => ?_) (fun hc => ?_)
        · refine g_iconst (pc' := 92) (v := 0) C dX11_isOpen_91 (by decide) rfl ?_
          exact kt hc
        · refine g_iconst (pc' := 88) (v := 1) C dX11_isOpen_87 (by decide) rfl ?_
          refine g_goto (tgt := 92) C dX11_isOpen_88 (by decide) ?_
          exact kf hc
  rw [if_neg hc2] at h
  refine g_tableOut (tgt := 93) C dX11_isOpen_8 (by have q0 : v2.toInt ≠ 0 := ne_toInt hc0; have q1 : v2.toInt ≠ 1 := ne_toInt hc1; have q2 : v2.toInt ≠ 2 := ne_toInt hc2; omega) (by decide) ?_
  refine g_iload_n (pc' := 94) C dX11_isOpen_93 2 rfl rfl ?_
  refine g_if_le (pc' := 97) (tgt := 127) C dX11_isOpen_94 (by decide) rfl (fun hc => ?_) (fun hc => ?_)
  · rw [if_pos hc] at h
    refine g_iconst (pc' := 128) (v := 0) C dX11_isOpen_127 (by decide) rfl ?_
    exact g_zret C hr rfl dX11_isOpen_128 h
  · rw [if_neg hc] at h
    refine g_aload_n (pc' := 98) C dX11_isOpen_97 0 rfl rfl ?_
    refine g_iload_n (pc' := 99) C dX11_isOpen_98 1 rfl rfl ?_
    refine g_iload_n (pc' := 100) C dX11_isOpen_99 2 rfl rfl ?_
    refine g_iconst (pc' := 101) (v := 2) C dX11_isOpen_100 (by decide) rfl ?_
    refine g_idiv (pc' := 102) C dX11_isOpen_101 (by decide) rfl ?_
    refine g_iload_n (pc' := 103) C dX11_isOpen_102 3 rfl rfl ?_
    obtain ⟨q16, h17, h⟩ := bind_some h
    refine g_callVi (pc' := 106) (res := q16) C [.int a1, .int (a2 / 2), .int a3] cY_X11_isPlain rfl (o := 0) (by decide) rfl mv_X11_isPlain mm_X11_114 ⟨Nat.le_trans (by decide) hR.1, Nat.le_trans (by decide) hR.2⟩ rfl (Nat.le_of_ble_eq_true rfl) rfl dX11_isOpen_103 (c_X11_isPlain l base D cA σ a1 (a2 / 2) a3 q16 h17) rfl ?_
    refine g_if_eq (pc' := 109) (tgt := 127) C dX11_isOpen_106 (by decide) rfl (fun hc => ?_) (fun hc => ?_)
    · rw [if_pos hc] at h
      refine g_iconst (pc' := 128) (v := 0) C dX11_isOpen_127 (by decide) rfl ?_
      exact g_zret C hr rfl dX11_isOpen_128 h
    · rw [if_neg hc] at h
      refine g_aload_n (pc' := 110) C dX11_isOpen_109 0 rfl rfl ?_
      refine g_iload_n (pc' := 111) C dX11_isOpen_110 1 rfl rfl ?_
      refine g_iload_n (pc' := 112) C dX11_isOpen_111 2 rfl rfl ?_
      refine g_iconst (pc' := 113) (v := 1) C dX11_isOpen_112 (by decide) rfl ?_
      refine g_isub (pc' := 114) C dX11_isOpen_113 rfl ?_
      refine g_iconst (pc' := 115) (v := 2) C dX11_isOpen_114 (by decide) rfl ?_
      refine g_idiv (pc' := 116) C dX11_isOpen_115 (by decide) rfl ?_
      refine g_iload_n (pc' := 117) C dX11_isOpen_116 3 rfl rfl ?_
      obtain ⟨q18, h19, h⟩ := bind_some h
      refine g_callVi (pc' := 120) (res := q18) C [.int a1, .int ((a2 - 1) / 2), .int a3] cY_X11_isPlain rfl (o := 0) (by decide) rfl mv_X11_isPlain mm_X11_114 ⟨Nat.le_trans (by decide) hR.1, Nat.le_trans (by decide) hR.2⟩ rfl (Nat.le_of_ble_eq_true rfl) rfl dX11_isOpen_117 (c_X11_isPlain l base D cA q16.1 a1 ((a2 - 1) / 2) a3 q18 h19) rfl ?_
      refine g_if_eq (pc' := 123) (tgt := 127) C dX11_isOpen_120 (by decide) rfl (fun hc => ?_) (fun hc => ?_)
      · rw [if_pos hc] at h
        refine g_iconst (pc' := 128) (v := 0) C dX11_isOpen_127 (by decide) rfl ?_
        exact g_zret C hr rfl dX11_isOpen_128 h
      · rw [if_neg hc] at h
        refine g_iconst (pc' := 124) (v := 1) C dX11_isOpen_123 (by decide) rfl ?_
        refine g_goto (tgt := 128) C dX11_isOpen_124 (by decide) ?_
        exact g_zret C hr rfl dX11_isOpen_128 h
theorem c_X11_isOpen (l : Launch) (base : Nat) (D : va_G) (cA : Nat → ClassId) (σ : cr_S) (a1 : Int32) (a2 : Int32) (a3 : Int32) (res : cr_S × Int32) (h : f_X11_isOpen σ a1 a2 a3 = some res) : cr_M l yX11_isOpen cX11_isOpen 4 (some .boolean) 1 23 sfM 17 base D cA [.ref (base + 0), .int a1, .int a2, .int a3] σ (cr_Qi sfM 17 base D cA res) := by
  refine cr_enter [.ref (base + 0), .int a1, .int a2, .int a3] [(0, .ref (base + 0)), (1, .int a1), (2, .int a2), (3, .int a3)] (by decide) (Nat.le_of_ble_eq_true rfl) rfl ?_
  intro p e R s m below meth c C hr hR
  exact w_X11_isOpen C hr hR σ a1 a2 a3 h
noncomputable def f_X11_open (σ : cr_S) (a1 : Int32) (a2 : Int32) : Option (cr_S × Int32) :=
  Option.bind (f_X11_isPair σ a1) (fun q1 => (if q1.2 = 0 then some (q1.1, (-1)) else Option.bind (f_X11_in q1.1 (Int32.toInt64 a2) 0 99999) (fun q3 => (if q3.2 = 0 then some (q3.1, (-1)) else chk (inb ((5 * a1) + 4) 30) (Option.bind (f_X11_isOpen q3.1 a1 a2 (rA q3.1 1 ((5 * a1) + 4))) (fun q6 => (if q6.2 = 0 then some (q6.1, 0) else some (q6.1, 1))))))))
set_option maxRecDepth 100000 in
set_option maxHeartbeats 4000000 in
theorem w_X11_open (C : cr_C p l e R s m args below meth c sfM 17 base D cA cX11_open 3 RX11) (hr : meth.sig.returnType = some .int) (hR : 2 ≤ R.frames ∧ 46 ≤ R.locals) {res : cr_S × Int32} (σ : cr_S) (a1 : Int32) (a2 : Int32) (h : f_X11_open σ a1 a2 = some res) : cr_W p l e R s m args below meth c sfM 17 base D cA 3 (MQ below (cr_Qi sfM 17 base D cA res) args s 0 0 (cr_A 17 base)) σ 0 [(0, .ref (base + 0)), (1, .int a1), (2, .int a2)] [] := by
  unfold f_X11_open at h
  refine g_aload_n (pc' := 1) C dX11_open_0 0 rfl rfl ?_
  refine g_iload_n (pc' := 2) C dX11_open_1 1 rfl rfl ?_
  obtain ⟨q1, h2, h⟩ := bind_some h
  refine g_callVi (pc' := 5) (res := q1) C [.int a1] cY_X11_isPair rfl (o := 0) (by decide) rfl mv_X11_isPair mm_X11_87 ⟨Nat.le_trans (by decide) hR.1, Nat.le_trans (by decide) hR.2⟩ rfl (Nat.le_of_ble_eq_true rfl) rfl dX11_open_2 (c_X11_isPair l base D cA σ a1 q1 h2) rfl ?_
  refine g_if_eq (pc' := 8) (tgt := 47) C dX11_open_5 (by decide) rfl (fun hc => ?_) (fun hc => ?_)
  · rw [if_pos hc] at h
    refine g_iconst (pc' := 48) (v := (-1)) C dX11_open_47 (by decide) rfl ?_
    exact g_iret C hr dX11_open_48 h
  · rw [if_neg hc] at h
    refine g_iload_n (pc' := 9) C dX11_open_8 2 rfl rfl ?_
    refine g_i2l (pc' := 10) C dX11_open_9 rfl ?_
    refine g_lconst (pc' := 11) (v := 0) C dX11_open_10 (by decide) rfl ?_
    refine g_ldc2 (pc' := 14) (v := 99999) C dX11_open_11 ml_X11_118 rfl ?_
    obtain ⟨q3, h4, h⟩ := bind_some h
    refine g_callSi (pc' := 17) (res := q3) C [.long (Int32.toInt64 a2), .long 0, .long 99999] cY_X11_in mv_X11_in mm_X11_66 ⟨Nat.le_trans (by decide) hR.1, Nat.le_trans (by decide) hR.2⟩ rfl (Nat.le_of_ble_eq_true rfl) rfl dX11_open_14 (c_X11_in l base D cA q1.1 (Int32.toInt64 a2) 0 99999 q3 h4) rfl ?_
    refine g_if_eq (pc' := 20) (tgt := 47) C dX11_open_17 (by decide) rfl (fun hc => ?_) (fun hc => ?_)
    · rw [if_pos hc] at h
      refine g_iconst (pc' := 48) (v := (-1)) C dX11_open_47 (by decide) rfl ?_
      exact g_iret C hr dX11_open_48 h
    · rw [if_neg hc] at h
      refine g_aload_n (pc' := 21) C dX11_open_20 0 rfl rfl ?_
      refine g_iload_n (pc' := 22) C dX11_open_21 1 rfl rfl ?_
      refine g_iload_n (pc' := 23) C dX11_open_22 2 rfl rfl ?_
      refine g_aload_n (pc' := 24) C dX11_open_23 0 rfl rfl ?_
      refine gg_X11_7 (pc' := 27) C dX11_open_24 rfl ?_
      refine g_iconst (pc' := 28) (v := 5) C dX11_open_27 (by decide) rfl ?_
      refine g_iload_n (pc' := 29) C dX11_open_28 1 rfl rfl ?_
      refine g_imul (pc' := 30) C dX11_open_29 rfl ?_
      refine g_iconst (pc' := 31) (v := 4) C dX11_open_30 (by decide) rfl ?_
      refine g_iadd (pc' := 32) C dX11_open_31 rfl ?_
      obtain ⟨h5, h⟩ := chk_some h
      refine g_iald (pc' := 33) C (o := 1) (by decide) rfl (inb_d h5) dX11_open_32 rfl ?_
      obtain ⟨q6, h7, h⟩ := bind_some h
      refine g_callVi (pc' := 36) (res := q6) C [.int a1, .int a2, .int (rA q3.1 1 ((5 * a1) + 4))] cY_X11_isOpen rfl (o := 0) (by decide) rfl mv_X11_isOpen mm_X11_120 ⟨Nat.le_trans (by decide) hR.1, Nat.le_trans (by decide) hR.2⟩ rfl (Nat.le_of_ble_eq_true rfl) rfl dX11_open_33 (c_X11_isOpen l base D cA q3.1 a1 a2 (rA q3.1 1 ((5 * a1) + 4)) q6 h7) rfl ?_
      refine g_if_eq (pc' := 39) (tgt := 43) C dX11_open_36 (by decide) rfl (fun hc => ?_) (fun hc => ?_)
      · rw [if_pos hc] at h
        refine g_iconst (pc' := 44) (v := 0) C dX11_open_43 (by decide) rfl ?_
        refine g_goto (tgt := 48) C dX11_open_44 (by decide) ?_
        exact g_iret C hr dX11_open_48 h
      · rw [if_neg hc] at h
        refine g_iconst (pc' := 40) (v := 1) C dX11_open_39 (by decide) rfl ?_
        refine g_goto (tgt := 48) C dX11_open_40 (by decide) ?_
        exact g_iret C hr dX11_open_48 h
theorem c_X11_open (l : Launch) (base : Nat) (D : va_G) (cA : Nat → ClassId) (σ : cr_S) (a1 : Int32) (a2 : Int32) (res : cr_S × Int32) (h : f_X11_open σ a1 a2 = some res) : cr_M l yX11_open cX11_open 3 (some .int) 2 46 sfM 17 base D cA [.ref (base + 0), .int a1, .int a2] σ (cr_Qi sfM 17 base D cA res) := by
  refine cr_enter [.ref (base + 0), .int a1, .int a2] [(0, .ref (base + 0)), (1, .int a1), (2, .int a2)] (by decide) (Nat.le_of_ble_eq_true rfl) rfl ?_
  intro p e R s m below meth c C hr hR
  exact w_X11_open C hr hR σ a1 a2 h
noncomputable def f_X11_upwards (σ : cr_S) (a0 : Int32) (a1 : Int32) : Option (cr_S × Int32) :=
  chk (¬ a1 = 0) (some (σ, ((a0 + a1) - 1) / a1))
set_option maxRecDepth 100000 in
set_option maxHeartbeats 4000000 in
theorem w_X11_upwards (C : cr_C p l e R s m args below meth c sfM 17 base D cA cX11_upwards 2 RX11) (hr : meth.sig.returnType = some .int) (hR : 0 ≤ R.frames ∧ 0 ≤ R.locals) {res : cr_S × Int32} (σ : cr_S) (a0 : Int32) (a1 : Int32) (h : f_X11_upwards σ a0 a1 = some res) : cr_W p l e R s m args below meth c sfM 17 base D cA 2 (MQ below (cr_Qi sfM 17 base D cA res) args s 0 0 (cr_A 17 base)) σ 0 [(0, .int a0), (1, .int a1)] [] := by
  unfold f_X11_upwards at h
  refine g_iload_n (pc' := 1) C dX11_upwards_0 0 rfl rfl ?_
  refine g_iload_n (pc' := 2) C dX11_upwards_1 1 rfl rfl ?_
  refine g_iadd (pc' := 3) C dX11_upwards_2 rfl ?_
  refine g_iconst (pc' := 4) (v := 1) C dX11_upwards_3 (by decide) rfl ?_
  refine g_isub (pc' := 5) C dX11_upwards_4 rfl ?_
  refine g_iload_n (pc' := 6) C dX11_upwards_5 1 rfl rfl ?_
  obtain ⟨h1, h⟩ := chk_some h
  refine g_idiv (pc' := 7) C dX11_upwards_6 h1 rfl ?_
  exact g_iret C hr dX11_upwards_7 h
theorem c_X11_upwards (l : Launch) (base : Nat) (D : va_G) (cA : Nat → ClassId) (σ : cr_S) (a0 : Int32) (a1 : Int32) (res : cr_S × Int32) (h : f_X11_upwards σ a0 a1 = some res) : cr_M l yX11_upwards cX11_upwards 2 (some .int) 0 0 sfM 17 base D cA [.int a0, .int a1] σ (cr_Qi sfM 17 base D cA res) := by
  refine cr_enter [.int a0, .int a1] [(0, .int a0), (1, .int a1)] (by decide) (Nat.le_of_ble_eq_true rfl) rfl ?_
  intro p e R s m below meth c C hr hR
  exact w_X11_upwards C hr hR σ a0 a1 h
noncomputable def f_X11_passes_B112 (r50 : cr_S → Int32 → Int32 → Int32 → Int32 → Option (cr_S)) (σ : cr_S) (x2 : Int32) (x3 : Int32) (x7 : Int32) (x8 : Int32) : Option (cr_S) :=
  cr_let (x8 + 1) (fun v18 => r50 σ x2 x3 x7 v18)
set_option maxRecDepth 100000 in
set_option maxHeartbeats 4000000 in
theorem w_X11_passes_B112 (C : cr_C p l e R s m args below meth c sfM 17 base D cA cX11_passes 9 RX11) (hr : meth.sig.returnType = none) (hR : 2 ≤ R.frames ∧ 46 ≤ R.locals) {res : cr_S} (r50 : cr_S → Int32 → Int32 → Int32 → Int32 → Option (cr_S)) (hr50 : ∀ (σ : cr_S) (x2 : Int32) (x3 : Int32) (x7 : Int32) (x8 : Int32), r50 σ x2 x3 x7 x8 = some res → cr_W p l e R s m args below meth c sfM 17 base D cA 9 (MQ below (cr_Qv sfM 17 base D cA res) args s 0 0 (cr_A 17 base)) σ 50 [(0, .ref (base + 0)), (2, .int x2), (3, .int x3), (7, .int x7), (8, .int x8)] []) (σ : cr_S) (x2 : Int32) (x3 : Int32) (x7 : Int32) (x8 : Int32) (h : f_X11_passes_B112 r50 σ x2 x3 x7 x8 = some res) : cr_W p l e R s m args below meth c sfM 17 base D cA 9 (MQ below (cr_Qv sfM 17 base D cA res) args s 0 0 (cr_A 17 base)) σ 112 [(0, .ref (base + 0)), (2, .int x2), (3, .int x3), (7, .int x7), (8, .int x8)] [] := by
  unfold f_X11_passes_B112 at h
  obtain ⟨v18, e19, h⟩ := let_some h
  refine g_iinc (pc' := 115) (v := v18) (lv' := [(8, .int v18), (0, .ref (base + 0)), (2, .int x2), (3, .int x3), (7, .int x7)]) C dX11_passes_112 4 rfl (by rw [e19]; rfl) (by decide) rfl rfl ?_
  refine g_goto (tgt := 50) C dX11_passes_115 (by decide) ?_
  exact g_sub C [1, 2, 3, 4, 0] rfl (hr50 _ _ _ _ _ h)
noncomputable def f_X11_passes_B109 (r50 : cr_S → Int32 → Int32 → Int32 → Int32 → Option (cr_S)) (σ : cr_S) (x2 : Int32) (x3 : Int32) (x7 : Int32) (x8 : Int32) (t0 : Int32) : Option (cr_S) :=
  cr_let (sF σ 0 7 t0) (fun s22 => f_X11_passes_B112 r50 s22 x2 x3 x7 x8)
set_option maxRecDepth 100000 in
set_option maxHeartbeats 4000000 in
theorem w_X11_passes_B109 (C : cr_C p l e R s m args below meth c sfM 17 base D cA cX11_passes 9 RX11) (hr : meth.sig.returnType = none) (hR : 2 ≤ R.frames ∧ 46 ≤ R.locals) {res : cr_S} (r50 : cr_S → Int32 → Int32 → Int32 → Int32 → Option (cr_S)) (hr50 : ∀ (σ : cr_S) (x2 : Int32) (x3 : Int32) (x7 : Int32) (x8 : Int32), r50 σ x2 x3 x7 x8 = some res → cr_W p l e R s m args below meth c sfM 17 base D cA 9 (MQ below (cr_Qv sfM 17 base D cA res) args s 0 0 (cr_A 17 base)) σ 50 [(0, .ref (base + 0)), (2, .int x2), (3, .int x3), (7, .int x7), (8, .int x8)] []) (σ : cr_S) (x2 : Int32) (x3 : Int32) (x7 : Int32) (x8 : Int32) (t0 : Int32) (h : f_X11_passes_B109 r50 σ x2 x3 x7 x8 t0 = some res) : cr_W p l e R s m args below meth c sfM 17 base D cA 9 (MQ below (cr_Qv sfM 17 base D cA res) args s 0 0 (cr_A 17 base)) σ 109 [(0, .ref (base + 0)), (2, .int x2), (3, .int x3), (7, .int x7), (8, .int x8)] [.int t0, .ref (base + 0)] := by
  unfold f_X11_passes_B109 at h
  obtain ⟨s22, e23, h⟩ := let_some h
  refine gp_X11_130 (pc' := 112) C dX11_passes_109 rfl e23 ?_
  exact g_sub C [0, 1, 2, 3, 4] rfl (w_X11_passes_B112 C hr hR r50 hr50 _ _ _ _ _ h)
noncomputable def f_X11_passes_B90 (r50 : cr_S → Int32 → Int32 → Int32 → Int32 → Option (cr_S)) (σ : cr_S) (x2 : Int32) (x3 : Int32) (x7 : Int32) (x8 : Int32) (t0 : Int32) : Option (cr_S) :=
  cr_let (sF σ 0 6 t0) (fun s20 => f_X11_passes_B109 r50 s20 x2 x3 x7 x8 (if (rF s20 0 6) = 2 then x8 else x7))
set_option maxRecDepth 100000 in
set_option maxHeartbeats 4000000 in
theorem w_X11_passes_B90 (C : cr_C p l e R s m args below meth c sfM 17 base D cA cX11_passes 9 RX11) (hr : meth.sig.returnType = none) (hR : 2 ≤ R.frames ∧ 46 ≤ R.locals) {res : cr_S} (r50 : cr_S → Int32 → Int32 → Int32 → Int32 → Option (cr_S)) (hr50 : ∀ (σ : cr_S) (x2 : Int32) (x3 : Int32) (x7 : Int32) (x8 : Int32), r50 σ x2 x3 x7 x8 = some res → cr_W p l e R s m args below meth c sfM 17 base D cA 9 (MQ below (cr_Qv sfM 17 base D cA res) args s 0 0 (cr_A 17 base)) σ 50 [(0, .ref (base + 0)), (2, .int x2), (3, .int x3), (7, .int x7), (8, .int x8)] []) (σ : cr_S) (x2 : Int32) (x3 : Int32) (x7 : Int32) (x8 : Int32) (t0 : Int32) (h : f_X11_passes_B90 r50 σ x2 x3 x7 x8 t0 = some res) : cr_W p l e R s m args below meth c sfM 17 base D cA 9 (MQ below (cr_Qv sfM 17 base D cA res) args s 0 0 (cr_A 17 base)) σ 90 [(0, .ref (base + 0)), (2, .int x2), (3, .int x3), (7, .int x7), (8, .int x8)] [.int t0, .ref (base + 0)] := by
  unfold f_X11_passes_B90 at h
  obtain ⟨s20, e21, h⟩ := let_some h
  refine gp_X11_127 (pc' := 93) C dX11_passes_90 rfl e21 ?_
  refine g_aload_n (pc' := 94) C dX11_passes_93 0 rfl rfl ?_
  refine g_aload_n (pc' := 95) C dX11_passes_94 0 rfl rfl ?_
  refine gg_X11_127 (pc' := 98) C dX11_passes_95 rfl ?_
  refine g_iconst (pc' := 99) (v := 2) C dX11_passes_98 (by decide) rfl ?_
  refine g_iteI (σ := s20) (pj := 109) (lv := [(0, .ref (base + 0)), (2, .int x2), (3, .int x3), (7, .int x7), (8, .int x8)]) (st := [.ref (base + 0)]) (cd := (rF s20 0 6) = 2) (a := x8) (b := x7) C ?_ (fun kt kf => ?_)
  · exact g_sub C [0, 1, 2, 3, 4] rfl (w_X11_passes_B109 C hr hR r50 hr50 _ _ _ _ _ _ h)
  · refine g_icmp_ne (pc' := 102) (tgt := 107) C dX11_passes_99 (by decide) rfl (fun hc => ?_) (fun hc => ?_)
    · refine g_iload (pc' := 109) C dX11_passes_107 3 rfl rfl ?_
      exact kf hc
    · refine g_iload (pc' := 104) C dX11_passes_102 4 rfl rfl ?_
      refine g_goto (tgt := 109) C dX11_passes_104 (by decide) ?_
      exact kt hc
noncomputable def f_X11_passes_L50  : Nat → cr_S → Int32 → Int32 → Int32 → Int32 → Option (cr_S)
  | 0, _, _, _, _, _ => none
  | n + 1, σ, x2, x3, x7, x8 =>
    (if x7 ≤ x8 then some σ else (if (rF σ 0 6) = 0 then Option.bind (f_X11_isOpen σ x2 x8 x3) (fun q16 => (if q16.2 = 0 then f_X11_passes_B90 (f_X11_passes_L50 n) q16.1 x2 x3 x7 x8 (if x8 = (x7 - 1) then 1 else 2) else f_X11_passes_B112 (f_X11_passes_L50 n) q16.1 x2 x3 x7 x8)) else some σ))
set_option maxRecDepth 100000 in
set_option maxHeartbeats 4000000 in
theorem w_X11_passes_L50 (C : cr_C p l e R s m args below meth c sfM 17 base D cA cX11_passes 9 RX11) (hr : meth.sig.returnType = none) (hR : 2 ≤ R.frames ∧ 46 ≤ R.locals) {res : cr_S}  : ∀ (n : Nat) (σ : cr_S) (x2 : Int32) (x3 : Int32) (x7 : Int32) (x8 : Int32), f_X11_passes_L50 n σ x2 x3 x7 x8 = some res → cr_W p l e R s m args below meth c sfM 17 base D cA 9 (MQ below (cr_Qv sfM 17 base D cA res) args s 0 0 (cr_A 17 base)) σ 50 [(0, .ref (base + 0)), (2, .int x2), (3, .int x3), (7, .int x7), (8, .int x8)] [] := by
  intro n
  induction n with
  | zero =>
    intro σ x2 x3 x7 x8 h
    cases h
  | succ n ih =>
    intro σ x2 x3 x7 x8 h
    rw [f_X11_passes_L50] at h
    refine g_iload (pc' := 52) C dX11_passes_50 4 rfl rfl ?_
    refine g_iload (pc' := 54) C dX11_passes_52 3 rfl rfl ?_
    refine g_icmp_ge (pc' := 57) (tgt := 118) C dX11_passes_54 (by decide) rfl (fun hc => ?_) (fun hc => ?_)
    · rw [if_pos hc] at h
      exact g_vret C hr dX11_passes_118 h
    · rw [if_neg hc] at h
      refine g_aload_n (pc' := 58) C dX11_passes_57 0 rfl rfl ?_
      refine gg_X11_127 (pc' := 61) C dX11_passes_58 rfl ?_
      refine g_if_ne (pc' := 64) (tgt := 118) C dX11_passes_61 (by decide) rfl (fun hc => ?_) (fun hc => ?_)
      · rw [if_neg hc] at h
        exact g_vret C hr dX11_passes_118 h
      · rw [if_pos hc] at h
        refine g_aload_n (pc' := 65) C dX11_passes_64 0 rfl rfl ?_
        refine g_iload_n (pc' := 66) C dX11_passes_65 1 rfl rfl ?_
        refine g_iload (pc' := 68) C dX11_passes_66 4 rfl rfl ?_
        refine g_iload_n (pc' := 69) C dX11_passes_68 2 rfl rfl ?_
        obtain ⟨q16, h17, h⟩ := bind_some h
        refine g_callVi (pc' := 72) (res := q16) C [.int x2, .int x8, .int x3] cY_X11_isOpen rfl (o := 0) (by decide) rfl mv_X11_isOpen mm_X11_120 ⟨Nat.le_trans (by decide) hR.1, Nat.le_trans (by decide) hR.2⟩ rfl (Nat.le_of_ble_eq_true rfl) rfl dX11_passes_69 (c_X11_isOpen l base D cA σ x2 x8 x3 q16 h17) rfl ?_
        refine g_if_ne (pc' := 75) (tgt := 112) C dX11_passes_72 (by decide) rfl (fun hc => ?_) (fun hc => ?_)
        · rw [if_neg hc] at h
          exact g_sub C [0, 1, 2, 3, 4] rfl (w_X11_passes_B112 C hr hR (f_X11_passes_L50 n) ih _ _ _ _ _ h)
        · rw [if_pos hc] at h
          refine g_aload_n (pc' := 76) C dX11_passes_75 0 rfl rfl ?_
          refine g_iload (pc' := 78) C dX11_passes_76 4 rfl rfl ?_
          refine g_iload (pc' := 80) C dX11_passes_78 3 rfl rfl ?_
          refine g_iconst (pc' := 81) (v := 1) C dX11_passes_80 (by decide) rfl ?_
          refine g_isub (pc' := 82) C dX11_passes_81 rfl ?_
          refine g_iteI (σ := q16.1) (pj := 90) (lv := [(0, .ref (base + 0)), (2, .int x2), (3, .int x3), (7, .int x7), (8, .int x8)]) (st := [.ref (base + 0)]) (cd := x8 = (x7 - 1)) (a := 1) (b := 2) C ?_ (fun kt kf => ?_)
          · exact g_sub C [0, 1, 2, 3, 4] rfl (w_X11_passes_B90 C hr hR (f_X11_passes_L50 n) ih _ _ _ _ _ _ h)
          · refine g_icmp_ne (pc' := 85) (tgt := 89) C dX11_passes_82 (by decide) rfl (fun hc => ?_) (fun hc => ?_)
            · refine g_iconst (pc' := 90) (v := 2) C dX11_passes_89 (by decide) rfl ?_
              exact kf hc
            · refine g_iconst (pc' := 86) (v := 1) C dX11_passes_85 (by decide) rfl ?_
              refine g_goto (tgt := 90) C dX11_passes_86 (by decide) ?_
              exact kt hc
noncomputable def f_X11_passes (σ : cr_S) (a1 : Int32) (a2 : Int32) (a3 : Int32) (a4 : Int32) (a5 : Int32) : Option (cr_S) :=
  chk (inb ((5 * a2) + 1) 30) (Option.bind (f_X11_upwards σ (rA σ 1 ((5 * a2) + 1)) a5) (fun q2 => cr_let (a4 + q2.2) (fun v4 => Option.bind (f_X11_span q2.1 a1) (fun q6 => Option.bind (f_X11_upwards q6.1 q6.2 a5) (fun q8 => cr_let (v4 + q8.2) (fun v10 => cr_let (sF q8.1 0 6 0) (fun s12 => cr_let (sF s12 0 7 v10) (fun s14 => f_X11_passes_L50 cr_fuel s14 a2 a3 v10 v4))))))))
set_option maxRecDepth 100000 in
set_option maxHeartbeats 4000000 in
theorem w_X11_passes (C : cr_C p l e R s m args below meth c sfM 17 base D cA cX11_passes 9 RX11) (hr : meth.sig.returnType = none) (hR : 2 ≤ R.frames ∧ 46 ≤ R.locals) {res : cr_S} (σ : cr_S) (a1 : Int32) (a2 : Int32) (a3 : Int32) (a4 : Int32) (a5 : Int32) (h : f_X11_passes σ a1 a2 a3 a4 a5 = some res) : cr_W p l e R s m args below meth c sfM 17 base D cA 9 (MQ below (cr_Qv sfM 17 base D cA res) args s 0 0 (cr_A 17 base)) σ 0 [(0, .ref (base + 0)), (1, .int a1), (2, .int a2), (3, .int a3), (4, .int a4), (5, .int a5)] [] := by
  unfold f_X11_passes at h
  refine g_iload (pc' := 2) C dX11_passes_0 4 rfl rfl ?_
  refine g_aload_n (pc' := 3) C dX11_passes_2 0 rfl rfl ?_
  refine gg_X11_7 (pc' := 6) C dX11_passes_3 rfl ?_
  refine g_iconst (pc' := 7) (v := 5) C dX11_passes_6 (by decide) rfl ?_
  refine g_iload_n (pc' := 8) C dX11_passes_7 2 rfl rfl ?_
  refine g_imul (pc' := 9) C dX11_passes_8 rfl ?_
  refine g_iconst (pc' := 10) (v := 1) C dX11_passes_9 (by decide) rfl ?_
  refine g_iadd (pc' := 11) C dX11_passes_10 rfl ?_
  obtain ⟨h1, h⟩ := chk_some h
  refine g_iald (pc' := 12) C (o := 1) (by decide) rfl (inb_d h1) dX11_passes_11 rfl ?_
  refine g_iload (pc' := 14) C dX11_passes_12 5 rfl rfl ?_
  obtain ⟨q2, h3, h⟩ := bind_some h
  refine g_callSi (pc' := 17) (res := q2) C [.int (rA σ 1 ((5 * a2) + 1)), .int a5] cY_X11_upwards mv_X11_upwards mm_X11_123 ⟨Nat.le_trans (by decide) hR.1, Nat.le_trans (by decide) hR.2⟩ rfl (Nat.le_of_ble_eq_true rfl) rfl dX11_passes_14 (c_X11_upwards l base D cA σ (rA σ 1 ((5 * a2) + 1)) a5 q2 h3) rfl ?_
  refine g_iadd (pc' := 18) C dX11_passes_17 rfl ?_
  obtain ⟨v4, e5, h⟩ := let_some h
  refine g_nameI e5 ?_
  refine g_istore (pc' := 20) (lv' := [(6, .int v4), (0, .ref (base + 0)), (1, .int a1), (2, .int a2), (3, .int a3), (4, .int a4), (5, .int a5)]) C dX11_passes_18 (by decide) rfl rfl ?_
  refine g_iload (pc' := 22) C dX11_passes_20 0 rfl rfl ?_
  refine g_aload_n (pc' := 23) C dX11_passes_22 1 rfl rfl ?_
  refine g_iload_n (pc' := 24) C dX11_passes_23 2 rfl rfl ?_
  obtain ⟨q6, h7, h⟩ := bind_some h
  refine g_callVi (pc' := 27) (res := q6) C [.int a1] cY_X11_span rfl (o := 0) (by decide) rfl mv_X11_span mm_X11_111 ⟨Nat.le_trans (by decide) hR.1, Nat.le_trans (by decide) hR.2⟩ rfl (Nat.le_of_ble_eq_true rfl) rfl dX11_passes_24 (c_X11_span l base D cA q2.1 a1 q6 h7) rfl ?_
  refine g_iload (pc' := 29) C dX11_passes_27 6 rfl rfl ?_
  obtain ⟨q8, h9, h⟩ := bind_some h
  refine g_callSi (pc' := 32) (res := q8) C [.int q6.2, .int a5] cY_X11_upwards mv_X11_upwards mm_X11_123 ⟨Nat.le_trans (by decide) hR.1, Nat.le_trans (by decide) hR.2⟩ rfl (Nat.le_of_ble_eq_true rfl) rfl dX11_passes_29 (c_X11_upwards l base D cA q6.1 q6.2 a5 q8 h9) rfl ?_
  refine g_iadd (pc' := 33) C dX11_passes_32 rfl ?_
  obtain ⟨v10, e11, h⟩ := let_some h
  refine g_nameI e11 ?_
  refine g_istore (pc' := 35) (lv' := [(7, .int v10), (6, .int v4), (0, .ref (base + 0)), (1, .int a1), (2, .int a2), (3, .int a3), (4, .int a4), (5, .int a5)]) C dX11_passes_33 (by decide) rfl rfl ?_
  refine g_aload_n (pc' := 36) C dX11_passes_35 2 rfl rfl ?_
  refine g_iconst (pc' := 37) (v := 0) C dX11_passes_36 (by decide) rfl ?_
  obtain ⟨s12, e13, h⟩ := let_some h
  refine gp_X11_127 (pc' := 40) C dX11_passes_37 rfl e13 ?_
  refine g_aload_n (pc' := 41) C dX11_passes_40 2 rfl rfl ?_
  refine g_iload (pc' := 43) C dX11_passes_41 0 rfl rfl ?_
  obtain ⟨s14, e15, h⟩ := let_some h
  refine gp_X11_130 (pc' := 46) C dX11_passes_43 rfl e15 ?_
  refine g_iload (pc' := 48) C dX11_passes_46 1 rfl rfl ?_
  refine g_istore (pc' := 50) (lv' := [(8, .int v4), (7, .int v10), (6, .int v4), (0, .ref (base + 0)), (1, .int a1), (2, .int a2), (3, .int a3), (4, .int a4), (5, .int a5)]) C dX11_passes_48 (by decide) rfl rfl ?_
  exact g_sub C [3, 5, 6, 1, 0] rfl (w_X11_passes_L50 C hr hR _ _ _ _ _ _ h)
theorem c_X11_passes (l : Launch) (base : Nat) (D : va_G) (cA : Nat → ClassId) (σ : cr_S) (a1 : Int32) (a2 : Int32) (a3 : Int32) (a4 : Int32) (a5 : Int32) (res : cr_S) (h : f_X11_passes σ a1 a2 a3 a4 a5 = some res) : cr_M l yX11_passes cX11_passes 9 none 2 46 sfM 17 base D cA [.ref (base + 0), .int a1, .int a2, .int a3, .int a4, .int a5] σ (cr_Qv sfM 17 base D cA res) := by
  refine cr_enter [.ref (base + 0), .int a1, .int a2, .int a3, .int a4, .int a5] [(0, .ref (base + 0)), (1, .int a1), (2, .int a2), (3, .int a3), (4, .int a4), (5, .int a5)] (by decide) (Nat.le_of_ble_eq_true rfl) rfl ?_
  intro p e R s m below meth c C hr hR
  exact w_X11_passes C hr hR σ a1 a2 a3 a4 a5 h
end

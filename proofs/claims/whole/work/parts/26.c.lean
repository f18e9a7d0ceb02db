section
variable {p : Program} {l : Launch} {e : Env} {R : Room} {s : State} {m : MethodId} {args : Array Value} {below : List Frame} {meth : Method} {c : Code} {base : Nat} {D : va_G} {cA : Nat → ClassId}
noncomputable def f_X10_sure_B77 (r19 : cr_S → Int32 → Int32 → Int32 → Int32 → Int32 → Option (cr_S × Int32)) (σ : cr_S) (x1 : Int32) (x2 : Int32) (x3 : Int32) (x4 : Int32) (x5 : Int32) : Option (cr_S × Int32) :=
  cr_let (x5 + 1) (fun v10 => r19 σ x1 x2 x3 x4 v10)
set_option maxRecDepth 100000 in
set_option maxHeartbeats 4000000 in
theorem w_X10_sure_B77 (C : cr_C p l e R s m args below meth c sfC 97 base D cA cX10_sure 7 RX10) (hr : meth.sig.returnType = some .int) (hR : 6 ≤ R.frames ∧ 137 ≤ R.locals) {res : cr_S × Int32} (r19 : cr_S → Int32 → Int32 → Int32 → Int32 → Int32 → Option (cr_S × Int32)) (hr19 : ∀ (σ : cr_S) (x1 : Int32) (x2 : Int32) (x3 : Int32) (x4 : Int32) (x5 : Int32), r19 σ x1 x2 x3 x4 x5 = some res → cr_W p l e R s m args below meth c sfC 97 base D cA 7 (MQ below (cr_Qi sfC 97 base D cA res) args s 0 0 (cr_A 97 base)) σ 19 [(0, .ref (base + 0)), (1, .int x1), (2, .int x2), (3, .int x3), (4, .int x4), (5, .int x5)] []) (σ : cr_S) (x1 : Int32) (x2 : Int32) (x3 : Int32) (x4 : Int32) (x5 : Int32) (h : f_X10_sure_B77 r19 σ x1 x2 x3 x4 x5 = some res) : cr_W p l e R s m args below meth c sfC 97 base D cA 7 (MQ below (cr_Qi sfC 97 base D cA res) args s 0 0 (cr_A 97 base)) σ 77 [(0, .ref (base + 0)), (1, .int x1), (2, .int x2), (3, .int x3), (4, .int x4), (5, .int x5)] [] := by
  unfold f_X10_sure_B77 at h
  obtain ⟨v10, e11, h⟩ := let_some h
  refine g_iinc (pc' := 80) (v := v10) (lv' := [(5, .int v10), (0, .ref (base + 0)), (1, .int x1), (2, .int x2), (3, .int x3), (4, .int x4)]) C dX10_sure_77 5 rfl (by rw [e11]; rfl) (by decide) rfl rfl ?_
  refine g_goto (tgt := 19) C dX10_sure_80 (by decide) ?_
  exact g_sub C [1, 2, 3, 4, 5, 0] rfl (hr19 _ _ _ _ _ _ h)
noncomputable def f_X10_sure_L19  : Nat → cr_S → Int32 → Int32 → Int32 → Int32 → Int32 → Option (cr_S × Int32)
  | 0, _, _, _, _, _, _ => none
  | n + 1, σ, x1, x2, x3, x4, x5 =>
    (if (x2 + 60) ≤ x5 then some (σ, x3) else chk (inb x1 5) (Option.bind (f_X0_planFull_70_1 σ (15 + x1.toNatClampNeg) x5) (fun q4 => Option.bind (f_X0_fogWeight_70_1 q4) (fun q6 => cr_let q6.2 (fun v8 => (if v8 ≤ x4 then f_X10_sure_B77 (f_X10_sure_L19 n) q6.1 x1 x2 x3 x4 x5 else f_X10_sure_B77 (f_X10_sure_L19 n) q6.1 x1 x2 x5 v8 x5))))))
set_option maxRecDepth 100000 in
set_option maxHeartbeats 4000000 in
theorem w_X10_sure_L19 (C : cr_C p l e R s m args below meth c sfC 97 base D cA cX10_sure 7 RX10) (hr : meth.sig.returnType = some .int) (hR : 6 ≤ R.frames ∧ 137 ≤ R.locals) {res : cr_S × Int32}  : ∀ (n : Nat) (σ : cr_S) (x1 : Int32) (x2 : Int32) (x3 : Int32) (x4 : Int32) (x5 : Int32), f_X10_sure_L19 n σ x1 x2 x3 x4 x5 = some res → cr_W p l e R s m args below meth c sfC 97 base D cA 7 (MQ below (cr_Qi sfC 97 base D cA res) args s 0 0 (cr_A 97 base)) σ 19 [(0, .ref (base + 0)), (1, .int x1), (2, .int x2), (3, .int x3), (4, .int x4), (5, .int x5)] [] := by
  intro n
  induction n with
  | zero =>
    intro σ x1 x2 x3 x4 x5 h
    cases h
  | succ n ih =>
    intro σ x1 x2 x3 x4 x5 h
    rw [f_X10_sure_L19] at h
    refine g_iload (pc' := 21) C dX10_sure_19 5 rfl rfl ?_
    refine g_iload_n (pc' := 22) C dX10_sure_21 2 rfl rfl ?_
    refine g_bipush (pc' := 24) (v := 60) C dX10_sure_22 (by decide) rfl ?_
    refine g_iadd (pc' := 25) C dX10_sure_24 rfl ?_
    refine g_icmp_ge (pc' := 28) (tgt := 83) C dX10_sure_25 (by decide) rfl (fun hc => ?_) (fun hc => ?_)
    · rw [if_pos hc] at h
      refine g_iload_n (pc' := 84) C dX10_sure_83 3 rfl rfl ?_
      exact g_iret C hr dX10_sure_84 h
    · rw [if_neg hc] at h
      refine g_aload_n (pc' := 29) C dX10_sure_28 0 rfl rfl ?_
      refine gg_X10_29 (pc' := 32) (o := 0) (r := 70) C rfl rfl dX10_sure_29 rfl ?_
      refine g_aload_n (pc' := 33) C dX10_sure_32 0 rfl rfl ?_
      refine gg_X10_12 (pc' := 36) (o := 0) (r := 1) C rfl rfl dX10_sure_33 rfl ?_
      refine g_aload_n (pc' := 37) C dX10_sure_36 0 rfl rfl ?_
      refine gg_X10_12 (pc' := 40) (o := 0) (r := 1) C rfl rfl dX10_sure_37 rfl ?_
      refine gg_X10_85 (pc' := 43) (o := 1) (r := 3) C rfl rfl dX10_sure_40 rfl ?_
      refine g_iload_n (pc' := 44) C dX10_sure_43 1 rfl rfl ?_
      obtain ⟨h3, h⟩ := chk_some h
      refine g_aald (pc' := 45) C (o := 3) (by decide) rfl (cn := "ClashRocks$Ship") rfl (inb_d h3) dX10_sure_44 rfl ?_
      refine g_iload (pc' := 47) C dX10_sure_45 5 rfl rfl ?_
      obtain ⟨q4, h5, h⟩ := bind_some h
      refine g_callVv (pc' := 50) (res := q4) C [.ref (base + 1), .ref (base + (15 + x1.toNatClampNeg)), .int x5] cY_X0_planFull rfl (o := 70) (by decide) rfl mv_X0_planFull mm_X10_232 ⟨Nat.le_trans (by decide) hR.1, Nat.le_trans (by decide) hR.2⟩ rfl (Nat.le_of_ble_eq_true rfl) rfl dX10_sure_47 (c_X0_planFull_70_1 l base D cA σ (15 + x1.toNatClampNeg) x5 q4 h5) rfl ?_
      refine g_aload_n (pc' := 51) C dX10_sure_50 0 rfl rfl ?_
      refine gg_X10_29 (pc' := 54) (o := 0) (r := 70) C rfl rfl dX10_sure_51 rfl ?_
      refine g_aload_n (pc' := 55) C dX10_sure_54 0 rfl rfl ?_
      refine gg_X10_12 (pc' := 58) (o := 0) (r := 1) C rfl rfl dX10_sure_55 rfl ?_
      obtain ⟨q6, h7, h⟩ := bind_some h
      refine g_callVi (pc' := 61) (res := q6) C [.ref (base + 1)] cY_X0_fogWeight rfl (o := 70) (by decide) rfl mv_X0_fogWeight mm_X10_235 ⟨Nat.le_trans (by decide) hR.1, Nat.le_trans (by decide) hR.2⟩ rfl (Nat.le_of_ble_eq_true rfl) rfl dX10_sure_58 (c_X0_fogWeight_70_1 l base D cA q4 q6 h7) rfl ?_
      obtain ⟨v8, e9, h⟩ := let_some h
      refine g_nameI e9 ?_
      refine g_istore (pc' := 63) (lv' := [(6, .int v8), (0, .ref (base + 0)), (1, .int x1), (2, .int x2), (3, .int x3), (4, .int x4), (5, .int x5)]) C dX10_sure_61 (by decide) rfl rfl ?_
      refine g_iload (pc' := 65) C dX10_sure_63 0 rfl rfl ?_
      refine g_iload (pc' := 67) C dX10_sure_65 5 rfl rfl ?_
      refine g_icmp_le (pc' := 70) (tgt := 77) C dX10_sure_67 (by decide) rfl (fun hc => ?_) (fun hc => ?_)
      · rw [if_pos hc] at h
        exact g_sub C [1, 2, 3, 4, 5, 6] rfl (w_X10_sure_B77 C hr hR (f_X10_sure_L19 n) ih _ _ _ _ _ _ h)
      · rw [if_neg hc] at h
        refine g_iload (pc' := 72) C dX10_sure_70 0 rfl rfl ?_
        refine g_istore (pc' := 74) (lv' := [(4, .int v8), (6, .int v8), (0, .ref (base + 0)), (1, .int x1), (2, .int x2), (3, .int x3), (5, .int x5)]) C dX10_sure_72 (by decide) rfl rfl ?_
        refine g_iload (pc' := 76) C dX10_sure_74 6 rfl rfl ?_
        refine g_istore_n (pc' := 77) (lv' := [(3, .int x5), (4, .int v8), (6, .int v8), (0, .ref (base + 0)), (1, .int x1), (2, .int x2), (5, .int x5)]) C dX10_sure_76 rfl (by decide) rfl rfl ?_
        exact g_sub C [3, 4, 5, 0, 1, 6] rfl (w_X10_sure_B77 C hr hR (f_X10_sure_L19 n) ih _ _ _ _ _ _ h)
noncomputable def f_X10_sure (σ : cr_S) (a1 : Int32) (a2 : Int32) : Option (cr_S × Int32) :=
  Option.bind (f_X10_isBegin σ a1 a2) (fun q1 => (if q1.2 = 0 then some (q1.1, (-1)) else f_X10_sure_L19 cr_fuel q1.1 a1 a2 a2 (-1) a2))
set_option maxRecDepth 100000 in
set_option maxHeartbeats 4000000 in
theorem w_X10_sure (C : cr_C p l e R s m args below meth c sfC 97 base D cA cX10_sure 7 RX10) (hr : meth.sig.returnType = some .int) (hR : 6 ≤ R.frames ∧ 137 ≤ R.locals) {res : cr_S × Int32} (σ : cr_S) (a1 : Int32) (a2 : Int32) (h : f_X10_sure σ a1 a2 = some res) : cr_W p l e R s m args below meth c sfC 97 base D cA 7 (MQ below (cr_Qi sfC 97 base D cA res) args s 0 0 (cr_A 97 base)) σ 0 [(0, .ref (base + 0)), (1, .int a1), (2, .int a2)] [] := by
  unfold f_X10_sure at h
  refine g_aload_n (pc' := 1) C dX10_sure_0 0 rfl rfl ?_
  refine g_iload_n (pc' := 2) C dX10_sure_1 1 rfl rfl ?_
  refine g_iload_n (pc' := 3) C dX10_sure_2 2 rfl rfl ?_
  obtain ⟨q1, h2, h⟩ := bind_some h
  refine g_callVi (pc' := 6) (res := q1) C [.int a1, .int a2] cY_X10_isBegin rfl (o := 0) (by decide) rfl mv_X10_isBegin mm_X10_210 ⟨Nat.le_trans (by decide) hR.1, Nat.le_trans (by decide) hR.2⟩ rfl (Nat.le_of_ble_eq_true rfl) rfl dX10_sure_3 (c_X10_isBegin l base D cA σ a1 a2 q1 h2) rfl ?_
  refine g_if_ne (pc' := 9) (tgt := 11) C dX10_sure_6 (by decide) rfl (fun hc => ?_) (fun hc => ?_)
  · rw [if_neg hc] at h
    refine g_iload_n (pc' := 12) C dX10_sure_11 2 rfl rfl ?_
    refine g_istore_n (pc' := 13) (lv' := [(3, .int a2), (0, .ref (base + 0)), (1, .int a1), (2, .int a2)]) C dX10_sure_12 rfl (by decide) rfl rfl ?_
    refine g_iconst (pc' := 14) (v := (-1)) C dX10_sure_13 (by decide) rfl ?_
    refine g_istore (pc' := 16) (lv' := [(4, .int (-1)), (3, .int a2), (0, .ref (base + 0)), (1, .int a1), (2, .int a2)]) C dX10_sure_14 (by decide) rfl rfl ?_
    refine g_iload_n (pc' := 17) C dX10_sure_16 4 rfl rfl ?_
    refine g_istore (pc' := 19) (lv' := [(5, .int a2), (4, .int (-1)), (3, .int a2), (0, .ref (base + 0)), (1, .int a1), (2, .int a2)]) C dX10_sure_17 (by decide) rfl rfl ?_
    exact g_sub C [3, 4, 5, 2, 1, 0] rfl (w_X10_sure_L19 C hr hR _ _ _ _ _ _ _ h)
  · rw [if_pos hc] at h
    refine g_iconst (pc' := 10) (v := (-1)) C dX10_sure_9 (by decide) rfl ?_
    exact g_iret C hr dX10_sure_10 h
theorem c_X10_sure (l : Launch) (base : Nat) (D : va_G) (cA : Nat → ClassId) (σ : cr_S) (a1 : Int32) (a2 : Int32) (res : cr_S × Int32) (h : f_X10_sure σ a1 a2 = some res) : cr_M l yX10_sure cX10_sure 7 (some .int) 6 137 sfC 97 base D cA [.ref (base + 0), .int a1, .int a2] σ (cr_Qi sfC 97 base D cA res) := by
  refine cr_enter [.ref (base + 0), .int a1, .int a2] [(0, .ref (base + 0)), (1, .int a1), (2, .int a2)] (by decide) (Nat.le_of_ble_eq_true rfl) rfl ?_
  intro p e R s m below meth c C hr hR
  exact w_X10_sure C hr hR σ a1 a2 h
noncomputable def f_X0_fewestStones_70_1_L10  : Nat → cr_S → Int32 → Nat → Int32 → Option (cr_S × Int32)
  | 0, _, _, _, _ => none
  | n + 1, σ, x2, x3, x4 =>
    chk (kC x3 = 3) ((if (rF σ x3 2) ≤ x4 then some (σ, (-4)) else Option.bind (f_X3_phaseBehind σ x3 (-x4)) (fun q3 => chk (kC x3 = 3) (Option.bind (f_X0_isThroughBy_70_1 q3.1 x2 q3.2) (fun q6 => (if q6.2 = 0 then cr_let (x4 + 1) (fun v8 => f_X0_fewestStones_70_1_L10 n q6.1 x2 x3 v8) else some (q6.1, x4)))))))
set_option maxRecDepth 100000 in
set_option maxHeartbeats 4000000 in
theorem w_X0_fewestStones_70_1_L10 (C : cr_C p l e R s m args below meth c sfC 97 base D cA cX0_fewestStones 5 RX0) (hr : meth.sig.returnType = some .int) (hR : 4 ≤ R.frames ∧ 91 ≤ R.locals) {res : cr_S × Int32}  : ∀ (n : Nat) (σ : cr_S) (x2 : Int32) (x3 : Nat) (x4 : Int32), f_X0_fewestStones_70_1_L10 n σ x2 x3 x4 = some res → cr_W p l e R s m args below meth c sfC 97 base D cA 5 (MQ below (cr_Qi sfC 97 base D cA res) args s 0 0 (cr_A 97 base)) σ 10 [(0, .ref (base + 70)), (1, .ref (base + 1)), (2, .int x2), (3, .ref (base + x3)), (4, .int x4)] [] := by
  intro n
  induction n with
  | zero =>
    intro σ x2 x3 x4 h
    cases h
  | succ n ih =>
    intro σ x2 x3 x4 h
    rw [f_X0_fewestStones_70_1_L10] at h
    refine g_iload (pc' := 12) C dX0_fewestStones_10 4 rfl rfl ?_
    refine g_aload_n (pc' := 13) C dX0_fewestStones_12 3 rfl rfl ?_
    obtain ⟨h2, h⟩ := chk_some h
    refine gg_X0_85 (pc' := 16) (o := x3) C h2 dX0_fewestStones_13 rfl ?_
    refine g_icmp_ge (pc' := 19) (tgt := 44) C dX0_fewestStones_16 (by decide) rfl (fun hc => ?_) (fun hc => ?_)
    · rw [if_pos hc] at h
      refine g_bipush (pc' := 46) (v := (-4)) C dX0_fewestStones_44 (by decide) rfl ?_
      exact g_iret C hr dX0_fewestStones_46 h
    · rw [if_neg hc] at h
      refine g_aload_n (pc' := 20) C dX0_fewestStones_19 0 rfl rfl ?_
      refine g_aload_n (pc' := 21) C dX0_fewestStones_20 1 rfl rfl ?_
      refine g_iload_n (pc' := 22) C dX0_fewestStones_21 2 rfl rfl ?_
      refine g_aload_n (pc' := 23) C dX0_fewestStones_22 3 rfl rfl ?_
      refine g_iload (pc' := 25) C dX0_fewestStones_23 4 rfl rfl ?_
      refine g_ineg (pc' := 26) C dX0_fewestStones_25 rfl ?_
      obtain ⟨q3, h4, h⟩ := bind_some h
      obtain ⟨h5, h⟩ := chk_some h
      refine g_callVi (pc' := 29) (res := q3) C [.int (-x4)] cY_X3_phaseBehind rfl (o := x3) (kC_lt h5 (by decide)) (sfC_3 h5) mv_X3_phaseBehind mm_X0_81 ⟨Nat.le_trans (by decide) hR.1, Nat.le_trans (by decide) hR.2⟩ rfl (Nat.le_of_ble_eq_true rfl) rfl dX0_fewestStones_26 (c_X3_phaseBehind l base D cA σ x3 (-x4) q3 h4) rfl ?_
      obtain ⟨q6, h7, h⟩ := bind_some h
      refine g_callVi (pc' := 32) (res := q6) C [.ref (base + 1), .int x2, .int q3.2] cY_X0_isThroughBy rfl (o := 70) (by decide) rfl mv_X0_isThroughBy mm_X0_69 ⟨Nat.le_trans (by decide) hR.1, Nat.le_trans (by decide) hR.2⟩ rfl (Nat.le_of_ble_eq_true rfl) rfl dX0_fewestStones_29 (c_X0_isThroughBy_70_1 l base D cA q3.1 x2 q3.2 q6 h7) rfl ?_
      refine g_if_eq (pc' := 35) (tgt := 38) C dX0_fewestStones_32 (by decide) rfl (fun hc => ?_) (fun hc => ?_)
      · rw [if_pos hc] at h
        obtain ⟨v8, e9, h⟩ := let_some h
        refine g_iinc (pc' := 41) (v := v8) (lv' := [(4, .int v8), (0, .ref (base + 70)), (1, .ref (base + 1)), (2, .int x2), (3, .ref (base + x3))]) C dX0_fewestStones_38 4 rfl (by rw [e9]; rfl) (by decide) rfl rfl ?_
        refine g_goto (tgt := 10) C dX0_fewestStones_41 (by decide) ?_
        exact g_sub C [1, 2, 3, 4, 0] rfl (ih _ _ _ _ h)
      · rw [if_neg hc] at h
        refine g_iload (pc' := 37) C dX0_fewestStones_35 4 rfl rfl ?_
        exact g_iret C hr dX0_fewestStones_37 h
noncomputable def f_X0_fewestStones_70_1 (σ : cr_S) (a2 : Int32) : Option (cr_S × Int32) :=
  chk (inb a2 6) (f_X0_fewestStones_70_1_L10 cr_fuel σ a2 (9 + a2.toNatClampNeg) 0)
set_option maxRecDepth 100000 in
set_option maxHeartbeats 4000000 in
theorem w_X0_fewestStones_70_1 (C : cr_C p l e R s m args below meth c sfC 97 base D cA cX0_fewestStones 5 RX0) (hr : meth.sig.returnType = some .int) (hR : 4 ≤ R.frames ∧ 91 ≤ R.locals) {res : cr_S × Int32} (σ : cr_S) (a2 : Int32) (h : f_X0_fewestStones_70_1 σ a2 = some res) : cr_W p l e R s m args below meth c sfC 97 base D cA 5 (MQ below (cr_Qi sfC 97 base D cA res) args s 0 0 (cr_A 97 base)) σ 0 [(0, .ref (base + 70)), (1, .ref (base + 1)), (2, .int a2)] [] := by
  unfold f_X0_fewestStones_70_1 at h
  refine g_aload_n (pc' := 1) C dX0_fewestStones_0 1 rfl rfl ?_
  refine gg_X0_58 (pc' := 4) (o := 1) (r := 2) C rfl rfl dX0_fewestStones_1 rfl ?_
  refine g_iload_n (pc' := 5) C dX0_fewestStones_4 2 rfl rfl ?_
  obtain ⟨h1, h⟩ := chk_some h
  refine g_aald (pc' := 6) C (o := 2) (by decide) rfl (cn := "ClashRocks$Pair") rfl (inb_d h1) dX0_fewestStones_5 rfl ?_
  refine g_astore_n (pc' := 7) (lv' := [(3, .ref (base + (9 + a2.toNatClampNeg))), (0, .ref (base + 70)), (1, .ref (base + 1)), (2, .int a2)]) C dX0_fewestStones_6 rfl (by decide) rfl rfl ?_
  refine g_iconst (pc' := 8) (v := 0) C dX0_fewestStones_7 (by decide) rfl ?_
  refine g_istore (pc' := 10) (lv' := [(4, .int 0), (3, .ref (base + (9 + a2.toNatClampNeg))), (0, .ref (base + 70)), (1, .ref (base + 1)), (2, .int a2)]) C dX0_fewestStones_8 (by decide) rfl rfl ?_
  exact g_sub C [2, 3, 4, 1, 0] rfl (w_X0_fewestStones_70_1_L10 C hr hR _ _ _ _ _ h)
theorem c_X0_fewestStones_70_1 (l : Launch) (base : Nat) (D : va_G) (cA : Nat → ClassId) (σ : cr_S) (a2 : Int32) (res : cr_S × Int32) (h : f_X0_fewestStones_70_1 σ a2 = some res) : cr_M l yX0_fewestStones cX0_fewestStones 5 (some .int) 4 91 sfC 97 base D cA [.ref (base + 70), .ref (base + 1), .int a2] σ (cr_Qi sfC 97 base D cA res) := by
  refine cr_enter [.ref (base + 70), .ref (base + 1), .int a2] [(0, .ref (base + 70)), (1, .ref (base + 1)), (2, .int a2)] (by decide) (Nat.le_of_ble_eq_true rfl) rfl ?_
  intro p e R s m below meth c C hr hR
  exact w_X0_fewestStones_70_1 C hr hR σ a2 h
noncomputable def f_X10_stones_B123  (σ : cr_S) (x3 : Int32) (x4 : Int32) (x5 : Int32) : Option (cr_S × Int32) :=
  some (σ, if x3 = (-1) then x4 else x5)
set_option maxRecDepth 100000 in
set_option maxHeartbeats 4000000 in
theorem w_X10_stones_B123 (C : cr_C p l e R s m args below meth c sfC 97 base D cA cX10_stones 8 RX10) (hr : meth.sig.returnType = some .int) (hR : 5 ≤ R.frames ∧ 115 ≤ R.locals) {res : cr_S × Int32}  (σ : cr_S) (x3 : Int32) (x4 : Int32) (x5 : Int32) (h : f_X10_stones_B123 σ x3 x4 x5 = some res) : cr_W p l e R s m args below meth c sfC 97 base D cA 8 (MQ below (cr_Qi sfC 97 base D cA res) args s 0 0 (cr_A 97 base)) σ 123 [(3, .int x3), (4, .int x4), (5, .int x5)] [] := by
  unfold f_X10_stones_B123 at h
  refine g_iload_n (pc' := 124) C dX10_stones_123 0 rfl rfl ?_
  refine g_iconst (pc' := 125) (v := (-1)) C dX10_stones_124 (by decide) rfl ?_
  refine g_iteI (σ := σ) (pj := 135) (lv := [(3, .int x3), (4, .int x4), (5, .int x5)]) (st := []) (cd := x3 = (-1)) (a := x4) (b := x5) C ?_ (fun kt kf => ?_)
  · exact g_iret C hr dX10_stones_135 h
  · refine g_icmp_ne (pc' := 128) (tgt := 133) C dX10_stones_125 (by decide) rfl (fun hc => ?_) (fun hc => ?_)
    · refine g_iload (pc' := 135) C dX10_stones_133 2 rfl rfl ?_
      exact kf hc
    · refine g_iload (pc' := 130) C dX10_stones_128 1 rfl rfl ?_
      refine g_goto (tgt := 135) C dX10_stones_130 (by decide) ?_
      exact kt hc
noncomputable def f_X10_stones_B115 (r58 : cr_S → Int32 → Int32 → Int32 → Int32 → Option (cr_S × Int32)) (σ : cr_S) (x3 : Int32) (x4 : Int32) (x6 : Int32) (t0 : Int32) : Option (cr_S × Int32) :=
  cr_let (x6 + 1) (fun v14 => r58 σ x3 x4 t0 v14)
set_option maxRecDepth 100000 in
set_option maxHeartbeats 4000000 in
theorem w_X10_stones_B115 (C : cr_C p l e R s m args below meth c sfC 97 base D cA cX10_stones 8 RX10) (hr : meth.sig.returnType = some .int) (hR : 5 ≤ R.frames ∧ 115 ≤ R.locals) {res : cr_S × Int32} (r58 : cr_S → Int32 → Int32 → Int32 → Int32 → Option (cr_S × Int32)) (hr58 : ∀ (σ : cr_S) (x3 : Int32) (x4 : Int32) (x5 : Int32) (x6 : Int32), r58 σ x3 x4 x5 x6 = some res → cr_W p l e R s m args below meth c sfC 97 base D cA 8 (MQ below (cr_Qi sfC 97 base D cA res) args s 0 0 (cr_A 97 base)) σ 58 [(0, .ref (base + 0)), (3, .int x3), (4, .int x4), (5, .int x5), (6, .int x6)] []) (σ : cr_S) (x3 : Int32) (x4 : Int32) (x6 : Int32) (t0 : Int32) (h : f_X10_stones_B115 r58 σ x3 x4 x6 t0 = some res) : cr_W p l e R s m args below meth c sfC 97 base D cA 8 (MQ below (cr_Qi sfC 97 base D cA res) args s 0 0 (cr_A 97 base)) σ 115 [(0, .ref (base + 0)), (3, .int x3), (4, .int x4), (6, .int x6)] [.int t0] := by
  unfold f_X10_stones_B115 at h
  refine g_istore (pc' := 117) (lv' := [(5, .int t0), (0, .ref (base + 0)), (3, .int x3), (4, .int x4), (6, .int x6)]) C dX10_stones_115 (by decide) rfl rfl ?_
  obtain ⟨v14, e15, h⟩ := let_some h
  refine g_iinc (pc' := 120) (v := v14) (lv' := [(6, .int v14), (5, .int t0), (0, .ref (base + 0)), (3, .int x3), (4, .int x4)]) C dX10_stones_117 4 rfl (by rw [e15]; rfl) (by decide) rfl rfl ?_
  refine g_goto (tgt := 58) C dX10_stones_120 (by decide) ?_
  exact g_sub C [2, 3, 4, 1, 0] rfl (hr58 _ _ _ _ _ h)
noncomputable def f_X10_stones_L58  : Nat → cr_S → Int32 → Int32 → Int32 → Int32 → Option (cr_S × Int32)
  | 0, _, _, _, _, _ => none
  | n + 1, σ, x3, x4, x5, x6 =>
    (if (rF σ 1 5) ≤ x6 then f_X10_stones_B123 σ x3 x4 x5 else Option.bind (f_X0_fewestStones_70_1 σ x6) (fun q8 => cr_let q8.2 (fun v10 => (if v10 = (-4) then some (q8.1, (-4)) else cr_let (x4 + v10) (fun v12 => f_X10_stones_B115 (f_X10_stones_L58 n) q8.1 x3 v12 x6 (if x6 = x3 then v10 else x5))))))
set_option maxRecDepth 100000 in
set_option maxHeartbeats 4000000 in
theorem w_X10_stones_L58 (C : cr_C p l e R s m args below meth c sfC 97 base D cA cX10_stones 8 RX10) (hr : meth.sig.returnType = some .int) (hR : 5 ≤ R.frames ∧ 115 ≤ R.locals) {res : cr_S × Int32}  : ∀ (n : Nat) (σ : cr_S) (x3 : Int32) (x4 : Int32) (x5 : Int32) (x6 : Int32), f_X10_stones_L58 n σ x3 x4 x5 x6 = some res → cr_W p l e R s m args below meth c sfC 97 base D cA 8 (MQ below (cr_Qi sfC 97 base D cA res) args s 0 0 (cr_A 97 base)) σ 58 [(0, .ref (base + 0)), (3, .int x3), (4, .int x4), (5, .int x5), (6, .int x6)] [] := by
  intro n
  induction n with
  | zero =>
    intro σ x3 x4 x5 x6 h
    cases h
  | succ n ih =>
    intro σ x3 x4 x5 x6 h
    rw [f_X10_stones_L58] at h
    refine g_iload (pc' := 60) C dX10_stones_58 4 rfl rfl ?_
    refine g_aload_n (pc' := 61) C dX10_stones_60 0 rfl rfl ?_
    refine gg_X10_12 (pc' := 64) (o := 0) (r := 1) C rfl rfl dX10_stones_61 rfl ?_
    refine gg_X10_58 (pc' := 67) (o := 1) C rfl dX10_stones_64 rfl ?_
    refine g_icmp_ge (pc' := 70) (tgt := 123) C dX10_stones_67 (by decide) rfl (fun hc => ?_) (fun hc => ?_)
    · rw [if_pos hc] at h
      exact g_sub C [1, 2, 3] rfl (w_X10_stones_B123 C hr hR _ _ _ _ h)
    · rw [if_neg hc] at h
      refine g_aload_n (pc' := 71) C dX10_stones_70 0 rfl rfl ?_
      refine gg_X10_29 (pc' := 74) (o := 0) (r := 70) C rfl rfl dX10_stones_71 rfl ?_
      refine g_aload_n (pc' := 75) C dX10_stones_74 0 rfl rfl ?_
      refine gg_X10_12 (pc' := 78) (o := 0) (r := 1) C rfl rfl dX10_stones_75 rfl ?_
      refine g_iload (pc' := 80) C dX10_stones_78 4 rfl rfl ?_
      obtain ⟨q8, h9, h⟩ := bind_some h
      refine g_callVi (pc' := 83) (res := q8) C [.ref (base + 1), .int x6] cY_X0_fewestStones rfl (o := 70) (by decide) rfl mv_X0_fewestStones mm_X10_239 ⟨Nat.le_trans (by decide) hR.1, Nat.le_trans (by decide) hR.2⟩ rfl (Nat.le_of_ble_eq_true rfl) rfl dX10_stones_80 (c_X0_fewestStones_70_1 l base D cA σ x6 q8 h9) rfl ?_
      obtain ⟨v10, e11, h⟩ := let_some h
      refine g_nameI e11 ?_
      refine g_istore (pc' := 85) (lv' := [(7, .int v10), (0, .ref (base + 0)), (3, .int x3), (4, .int x4), (5, .int x5), (6, .int x6)]) C dX10_stones_83 (by decide) rfl rfl ?_
      refine g_iload (pc' := 87) C dX10_stones_85 0 rfl rfl ?_
      refine g_bipush (pc' := 89) (v := (-4)) C dX10_stones_87 (by decide) rfl ?_
      refine g_icmp_ne (pc' := 92) (tgt := 95) C dX10_stones_89 (by decide) rfl (fun hc => ?_) (fun hc => ?_)
      · rw [if_neg hc] at h
        refine g_iload (pc' := 97) C dX10_stones_95 3 rfl rfl ?_
        refine g_iload (pc' := 99) C dX10_stones_97 0 rfl rfl ?_
        refine g_iadd (pc' := 100) C dX10_stones_99 rfl ?_
        obtain ⟨v12, e13, h⟩ := let_some h
        refine g_nameI e13 ?_
        refine g_istore (pc' := 102) (lv' := [(4, .int v12), (7, .int v10), (0, .ref (base + 0)), (3, .int x3), (5, .int x5), (6, .int x6)]) C dX10_stones_100 (by decide) rfl rfl ?_
        refine g_iload (pc' := 104) C dX10_stones_102 5 rfl rfl ?_
        refine g_iload_n (pc' := 105) C dX10_stones_104 3 rfl rfl ?_
        refine g_iteI (σ := q8.1) (pj := 115) (lv := [(4, .int v12), (7, .int v10), (0, .ref (base + 0)), (3, .int x3), (5, .int x5), (6, .int x6)]) (st := []) (cd := x6 = x3) (a := v10) (b := x5) C ?_ (fun kt kf => ?_)
        · exact g_sub C [2, 3, 0, 5] rfl (w_X10_stones_B115 C hr hR (f_X10_stones_L58 n) ih _ _ _ _ _ h)
        · refine g_icmp_ne (pc' := 108) (tgt := 113) C dX10_stones_105 (by decide) rfl (fun hc => ?_) (fun hc => ?_)
          · refine g_iload (pc' := 115) C dX10_stones_113 4 rfl rfl ?_
            exact kf hc
          · refine g_iload (pc' := 110) C dX10_stones_108 1 rfl rfl ?_
            refine g_goto (tgt := 115) C dX10_stones_110 (by decide) ?_
            exact kt hc
      · rw [if_pos hc] at h
        refine g_bipush (pc' := 94) (v := (-4)) C dX10_stones_92 (by decide) rfl ?_
        exact g_iret C hr dX10_stones_94 h
noncomputable def f_X10_stones (σ : cr_S) (a1 : Int32) (a2 : Int32) (a3 : Int32) : Option (cr_S × Int32) :=
  Option.bind (f_X10_isBegin σ a1 a2) (fun q1 => (if q1.2 = 0 then some (q1.1, (-1)) else Option.bind (f_X10_isWithin q1.1 a3 (-1) ((rF q1.1 1 5) - 1)) (fun q3 => (if q3.2 = 0 then some (q3.1, (-1)) else chk (inb a1 5) (Option.bind (f_X0_planFull_70_1 q3.1 (15 + a1.toNatClampNeg) a2) (fun q6 => f_X10_stones_L58 cr_fuel q6 a3 0 0 0))))))
set_option maxRecDepth 100000 in
set_option maxHeartbeats 4000000 in
theorem w_X10_stones (C : cr_C p l e R s m args below meth c sfC 97 base D cA cX10_stones 8 RX10) (hr : meth.sig.returnType = some .int) (hR : 5 ≤ R.frames ∧ 115 ≤ R.locals) {res : cr_S × Int32} (σ : cr_S) (a1 : Int32) (a2 : Int32) (a3 : Int32) (h : f_X10_stones σ a1 a2 a3 = some res) : cr_W p l e R s m args below meth c sfC 97 base D cA 8 (MQ below (cr_Qi sfC 97 base D cA res) args s 0 0 (cr_A 97 base)) σ 0 [(0, .ref (base + 0)), (1, .int a1), (2, .int a2), (3, .int a3)] [] := by
  unfold f_X10_stones at h
  refine g_aload_n (pc' := 1) C dX10_stones_0 0 rfl rfl ?_
  refine g_iload_n (pc' := 2) C dX10_stones_1 1 rfl rfl ?_
  refine g_iload_n (pc' := 3) C dX10_stones_2 2 rfl rfl ?_
  obtain ⟨q1, h2, h⟩ := bind_some h
  refine g_callVi (pc' := 6) (res := q1) C [.int a1, .int a2] cY_X10_isBegin rfl (o := 0) (by decide) rfl mv_X10_isBegin mm_X10_210 ⟨Nat.le_trans (by decide) hR.1, Nat.le_trans (by decide) hR.2⟩ rfl (Nat.le_of_ble_eq_true rfl) rfl dX10_stones_3 (c_X10_isBegin l base D cA σ a1 a2 q1 h2) rfl ?_
  refine g_if_eq (pc' := 9) (tgt := 26) C dX10_stones_6 (by decide) rfl (fun hc => ?_) (fun hc => ?_)
  · rw [if_pos hc] at h
    refine g_iconst (pc' := 27) (v := (-1)) C dX10_stones_26 (by decide) rfl ?_
    exact g_iret C hr dX10_stones_27 h
  · rw [if_neg hc] at h
    refine g_iload_n (pc' := 10) C dX10_stones_9 3 rfl rfl ?_
    refine g_iconst (pc' := 11) (v := (-1)) C dX10_stones_10 (by decide) rfl ?_
    refine g_aload_n (pc' := 12) C dX10_stones_11 0 rfl rfl ?_
    refine gg_X10_12 (pc' := 15) (o := 0) (r := 1) C rfl rfl dX10_stones_12 rfl ?_
    refine gg_X10_58 (pc' := 18) (o := 1) C rfl dX10_stones_15 rfl ?_
    refine g_iconst (pc' := 19) (v := 1) C dX10_stones_18 (by decide) rfl ?_
    refine g_isub (pc' := 20) C dX10_stones_19 rfl ?_
    obtain ⟨q3, h4, h⟩ := bind_some h
    refine g_callSi (pc' := 23) (res := q3) C [.int a3, .int (-1), .int ((rF q1.1 1 5) - 1)] cY_X10_isWithin mv_X10_isWithin mm_X10_54 ⟨Nat.le_trans (by decide) hR.1, Nat.le_trans (by decide) hR.2⟩ rfl (Nat.le_of_ble_eq_true rfl) rfl dX10_stones_20 (c_X10_isWithin l base D cA q1.1 a3 (-1) ((rF q1.1 1 5) - 1) q3 h4) rfl ?_
    refine g_if_ne (pc' := 26) (tgt := 28) C dX10_stones_23 (by decide) rfl (fun hc => ?_) (fun hc => ?_)
    · rw [if_neg hc] at h
      refine g_aload_n (pc' := 29) C dX10_stones_28 0 rfl rfl ?_
      refine gg_X10_29 (pc' := 32) (o := 0) (r := 70) C rfl rfl dX10_stones_29 rfl ?_
      refine g_aload_n (pc' := 33) C dX10_stones_32 0 rfl rfl ?_
      refine gg_X10_12 (pc' := 36) (o := 0) (r := 1) C rfl rfl dX10_stones_33 rfl ?_
      refine g_aload_n (pc' := 37) C dX10_stones_36 0 rfl rfl ?_
      refine gg_X10_12 (pc' := 40) (o := 0) (r := 1) C rfl rfl dX10_stones_37 rfl ?_
      refine gg_X10_85 (pc' := 43) (o := 1) (r := 3) C rfl rfl dX10_stones_40 rfl ?_
      refine g_iload_n (pc' := 44) C dX10_stones_43 1 rfl rfl ?_
      obtain ⟨h5, h⟩ := chk_some h
      refine g_aald (pc' := 45) C (o := 3) (by decide) rfl (cn := "ClashRocks$Ship") rfl (inb_d h5) dX10_stones_44 rfl ?_
      refine g_iload_n (pc' := 46) C dX10_stones_45 2 rfl rfl ?_
      obtain ⟨q6, h7, h⟩ := bind_some h
      refine g_callVv (pc' := 49) (res := q6) C [.ref (base + 1), .ref (base + (15 + a1.toNatClampNeg)), .int a2] cY_X0_planFull rfl (o := 70) (by decide) rfl mv_X0_planFull mm_X10_232 ⟨Nat.le_trans (by decide) hR.1, Nat.le_trans (by decide) hR.2⟩ rfl (Nat.le_of_ble_eq_true rfl) rfl dX10_stones_46 (c_X0_planFull_70_1 l base D cA q3.1 (15 + a1.toNatClampNeg) a2 q6 h7) rfl ?_
      refine g_iconst (pc' := 50) (v := 0) C dX10_stones_49 (by decide) rfl ?_
      refine g_istore (pc' := 52) (lv' := [(4, .int 0), (0, .ref (base + 0)), (1, .int a1), (2, .int a2), (3, .int a3)]) C dX10_stones_50 (by decide) rfl rfl ?_
      refine g_iconst (pc' := 53) (v := 0) C dX10_stones_52 (by decide) rfl ?_
      refine g_istore (pc' := 55) (lv' := [(5, .int 0), (4, .int 0), (0, .ref (base + 0)), (1, .int a1), (2, .int a2), (3, .int a3)]) C dX10_stones_53 (by decide) rfl rfl ?_
      refine g_iconst (pc' := 56) (v := 0) C dX10_stones_55 (by decide) rfl ?_
      refine g_istore (pc' := 58) (lv' := [(6, .int 0), (5, .int 0), (4, .int 0), (0, .ref (base + 0)), (1, .int a1), (2, .int a2), (3, .int a3)]) C dX10_stones_56 (by decide) rfl rfl ?_
      exact g_sub C [3, 6, 2, 1, 0] rfl (w_X10_stones_L58 C hr hR _ _ _ _ _ _ h)
    · rw [if_pos hc] at h
      refine g_iconst (pc' := 27) (v := (-1)) C dX10_stones_26 (by decide) rfl ?_
      exact g_iret C hr dX10_stones_27 h
theorem c_X10_stones (l : Launch) (base : Nat) (D : va_G) (cA : Nat → ClassId) (σ : cr_S) (a1 : Int32) (a2 : Int32) (a3 : Int32) (res : cr_S × Int32) (h : f_X10_stones σ a1 a2 a3 = some res) : cr_M l yX10_stones cX10_stones 8 (some .int) 5 115 sfC 97 base D cA [.ref (base + 0), .int a1, .int a2, .int a3] σ (cr_Qi sfC 97 base D cA res) := by
  refine cr_enter [.ref (base + 0), .int a1, .int a2, .int a3] [(0, .ref (base + 0)), (1, .int a1), (2, .int a2), (3, .int a3)] (by decide) (Nat.le_of_ble_eq_true rfl) rfl ?_
  intro p e R s m below meth c C hr hR
  exact w_X10_stones C hr hR σ a1 a2 a3 h
noncomputable def f_J6_bitCount_0f7a4 (σ : cr_S) (a0 : Int32) : Option (cr_S × Int32) :=
  cr_let (a0 - ((((Int32.toUInt32 a0) >>> ((Int32.toUInt32 1) &&& Int32.toUInt32 31)).toInt32) &&& 1431655765)) (fun v1 => cr_let ((v1 &&& 858993459) + ((((Int32.toUInt32 v1) >>> ((Int32.toUInt32 2) &&& Int32.toUInt32 31)).toInt32) &&& 858993459)) (fun v3 => cr_let ((v3 + (((Int32.toUInt32 v3) >>> ((Int32.toUInt32 4) &&& Int32.toUInt32 31)).toInt32)) &&& 252645135) (fun v5 => cr_let (v5 + (((Int32.toUInt32 v5) >>> ((Int32.toUInt32 8) &&& Int32.toUInt32 31)).toInt32)) (fun v7 => cr_let (v7 + (((Int32.toUInt32 v7) >>> ((Int32.toUInt32 16) &&& Int32.toUInt32 31)).toInt32)) (fun v9 => some (σ, v9 &&& 63))))))
set_option maxRecDepth 100000 in
set_option maxHeartbeats 4000000 in
theorem w_J6_bitCount_0f7a4 (C : cr_C p l e R s m args below meth c sfC 97 base D cA cJ6_bitCount_0f7a4 1 RJ6) (hr : meth.sig.returnType = some .int) (hR : 0 ≤ R.frames ∧ 0 ≤ R.locals) {res : cr_S × Int32} (σ : cr_S) (a0 : Int32) (h : f_J6_bitCount_0f7a4 σ a0 = some res) : cr_W p l e R s m args below meth c sfC 97 base D cA 1 (MQ below (cr_Qi sfC 97 base D cA res) args s 0 0 (cr_A 97 base)) σ 0 [(0, .int a0)] [] := by
  unfold f_J6_bitCount_0f7a4 at h
  refine g_iload_n (pc' := 1) C dJ6_bitCount_0f7a4_0 0 rfl rfl ?_
  refine g_iload_n (pc' := 2) C dJ6_bitCount_0f7a4_1 0 rfl rfl ?_
  refine g_iconst (pc' := 3) (v := 1) C dJ6_bitCount_0f7a4_2 (by decide) rfl ?_
  refine g_iushr (pc' := 4) C dJ6_bitCount_0f7a4_3 rfl ?_
  refine g_ldcw (pc' := 7) (v := 1431655765) C dJ6_bitCount_0f7a4_4 mk_J6_265 rfl ?_
  refine g_iand (pc' := 8) C dJ6_bitCount_0f7a4_7 rfl ?_
  refine g_isub (pc' := 9) C dJ6_bitCount_0f7a4_8 rfl ?_
  obtain ⟨v1, e2, h⟩ := let_some h
  refine g_nameI e2 ?_
  refine g_istore_n (pc' := 10) (lv' := [(0, .int v1)]) C dJ6_bitCount_0f7a4_9 rfl (by decide) rfl rfl ?_
  refine g_iload_n (pc' := 11) C dJ6_bitCount_0f7a4_10 0 rfl rfl ?_
  refine g_ldcw (pc' := 14) (v := 858993459) C dJ6_bitCount_0f7a4_11 mk_J6_266 rfl ?_
  refine g_iand (pc' := 15) C dJ6_bitCount_0f7a4_14 rfl ?_
  refine g_iload_n (pc' := 16) C dJ6_bitCount_0f7a4_15 0 rfl rfl ?_
  refine g_iconst (pc' := 17) (v := 2) C dJ6_bitCount_0f7a4_16 (by decide) rfl ?_
  refine g_iushr (pc' := 18) C dJ6_bitCount_0f7a4_17 rfl ?_
  refine g_ldcw (pc' := 21) (v := 858993459) C dJ6_bitCount_0f7a4_18 mk_J6_266 rfl ?_
  refine g_iand (pc' := 22) C dJ6_bitCount_0f7a4_21 rfl ?_
  refine g_iadd (pc' := 23) C dJ6_bitCount_0f7a4_22 rfl ?_
  obtain ⟨v3, e4, h⟩ := let_some h
  refine g_nameI e4 ?_
  refine g_istore_n (pc' := 24) (lv' := [(0, .int v3)]) C dJ6_bitCount_0f7a4_23 rfl (by decide) rfl rfl ?_
  refine g_iload_n (pc' := 25) C dJ6_bitCount_0f7a4_24 0 rfl rfl ?_
  refine g_iload_n (pc' := 26) C dJ6_bitCount_0f7a4_25 0 rfl rfl ?_
  refine g_iconst (pc' := 27) (v := 4) C dJ6_bitCount_0f7a4_26 (by decide) rfl ?_
  refine g_iushr (pc' := 28) C dJ6_bitCount_0f7a4_27 rfl ?_
  refine g_iadd (pc' := 29) C dJ6_bitCount_0f7a4_28 rfl ?_
  refine g_ldcw (pc' := 32) (v := 252645135) C dJ6_bitCount_0f7a4_29 mk_J6_267 rfl ?_
  refine g_iand (pc' := 33) C dJ6_bitCount_0f7a4_32 rfl ?_
  obtain ⟨v5, e6, h⟩ := let_some h
  refine g_nameI e6 ?_
  refine g_istore_n (pc' := 34) (lv' := [(0, .int v5)]) C dJ6_bitCount_0f7a4_33 rfl (by decide) rfl rfl ?_
  refine g_iload_n (pc' := 35) C dJ6_bitCount_0f7a4_34 0 rfl rfl ?_
  refine g_iload_n (pc' := 36) C dJ6_bitCount_0f7a4_35 0 rfl rfl ?_
  refine g_bipush (pc' := 38) (v := 8) C dJ6_bitCount_0f7a4_36 (by decide) rfl ?_
  refine g_iushr (pc' := 39) C dJ6_bitCount_0f7a4_38 rfl ?_
  refine g_iadd (pc' := 40) C dJ6_bitCount_0f7a4_39 rfl ?_
  obtain ⟨v7, e8, h⟩ := let_some h
  refine g_nameI e8 ?_
  refine g_istore_n (pc' := 41) (lv' := [(0, .int v7)]) C dJ6_bitCount_0f7a4_40 rfl (by decide) rfl rfl ?_
  refine g_iload_n (pc' := 42) C dJ6_bitCount_0f7a4_41 0 rfl rfl ?_
  refine g_iload_n (pc' := 43) C dJ6_bitCount_0f7a4_42 0 rfl rfl ?_
  refine g_bipush (pc' := 45) (v := 16) C dJ6_bitCount_0f7a4_43 (by decide) rfl ?_
  refine g_iushr (pc' := 46) C dJ6_bitCount_0f7a4_45 rfl ?_
  refine g_iadd (pc' := 47) C dJ6_bitCount_0f7a4_46 rfl ?_
  obtain ⟨v9, e10, h⟩ := let_some h
  refine g_nameI e10 ?_
  refine g_istore_n (pc' := 48) (lv' := [(0, .int v9)]) C dJ6_bitCount_0f7a4_47 rfl (by decide) rfl rfl ?_
  refine g_iload_n (pc' := 49) C dJ6_bitCount_0f7a4_48 0 rfl rfl ?_
  refine g_bipush (pc' := 51) (v := 63) C dJ6_bitCount_0f7a4_49 (by decide) rfl ?_
  refine g_iand (pc' := 52) C dJ6_bitCount_0f7a4_51 rfl ?_
  exact g_iret C hr dJ6_bitCount_0f7a4_52 h
theorem c_J6_bitCount_0f7a4 (l : Launch) (base : Nat) (D : va_G) (cA : Nat → ClassId) (σ : cr_S) (a0 : Int32) (res : cr_S × Int32) (h : f_J6_bitCount_0f7a4 σ a0 = some res) : cr_M l yJ6_bitCount_0f7a4 cJ6_bitCount_0f7a4 1 (some .int) 0 0 sfC 97 base D cA [.int a0] σ (cr_Qi sfC 97 base D cA res) := by
  refine cr_enter [.int a0] [(0, .int a0)] (by decide) (Nat.le_of_ble_eq_true rfl) rfl ?_
  intro p e R s m below meth c C hr hR
  exact w_J6_bitCount_0f7a4 C hr hR σ a0 h
noncomputable def f_X10_convoyTime_B54 (r4 : cr_S → Int32 → Int32 → Int32 → Option (cr_S × Int32)) (σ : cr_S) (x1 : Int32) (x2 : Int32) (x3 : Int32) : Option (cr_S × Int32) :=
  cr_let (x3 + 1) (fun v1 => r4 σ x1 x2 v1)
set_option maxRecDepth 100000 in
set_option maxHeartbeats 4000000 in
theorem w_X10_convoyTime_B54 (C : cr_C p l e R s m args below meth c sfC 97 base D cA cX10_convoyTime 4 RX10) (hr : meth.sig.returnType = some .int) (hR : 1 ≤ R.frames ∧ 21 ≤ R.locals) {res : cr_S × Int32} (r4 : cr_S → Int32 → Int32 → Int32 → Option (cr_S × Int32)) (hr4 : ∀ (σ : cr_S) (x1 : Int32) (x2 : Int32) (x3 : Int32), r4 σ x1 x2 x3 = some res → cr_W p l e R s m args below meth c sfC 97 base D cA 4 (MQ below (cr_Qi sfC 97 base D cA res) args s 0 0 (cr_A 97 base)) σ 4 [(0, .ref (base + 0)), (1, .int x1), (2, .int x2), (3, .int x3)] []) (σ : cr_S) (x1 : Int32) (x2 : Int32) (x3 : Int32) (h : f_X10_convoyTime_B54 r4 σ x1 x2 x3 = some res) : cr_W p l e R s m args below meth c sfC 97 base D cA 4 (MQ below (cr_Qi sfC 97 base D cA res) args s 0 0 (cr_A 97 base)) σ 54 [(0, .ref (base + 0)), (1, .int x1), (2, .int x2), (3, .int x3)] [] := by
  unfold f_X10_convoyTime_B54 at h
  obtain ⟨v1, e2, h⟩ := let_some h
  refine g_iinc (pc' := 57) (v := v1) (lv' := [(3, .int v1), (0, .ref (base + 0)), (1, .int x1), (2, .int x2)]) C dX10_convoyTime_54 3 rfl (by rw [e2]; rfl) (by decide) rfl rfl ?_
  refine g_goto (tgt := 4) C dX10_convoyTime_57 (by decide) ?_
  exact g_sub C [1, 2, 3, 0] rfl (hr4 _ _ _ _ h)
noncomputable def f_X10_convoyTime_L4  : Nat → cr_S → Int32 → Int32 → Int32 → Option (cr_S × Int32)
  | 0, _, _, _, _ => none
  | n + 1, σ, x1, x2, x3 =>
    (if (rF σ 1 6) ≤ x3 then some (σ, x2) else (if ((x1 >>> (x3 &&& 31)) &&& 1) = 1 then chk (inb x3 5) (Option.bind (f_X6_span σ (15 + x3.toNatClampNeg)) (fun q4 => chk (kC (15 + x3.toNatClampNeg) = 6) (chk (inb x3 5) (Option.bind (f_X6_high q4.1 (15 + x3.toNatClampNeg)) (fun q8 => chk (kC (15 + x3.toNatClampNeg) = 6) (Option.bind (f_X10_secondsFor q8.1 q4.2 q8.2) (fun q11 => cr_let (x2 + q11.2) (fun v13 => f_X10_convoyTime_B54 (f_X10_convoyTime_L4 n) q11.1 x1 v13 x3)))))))) else f_X10_convoyTime_B54 (f_X10_convoyTime_L4 n) σ x1 x2 x3))
set_option maxRecDepth 100000 in
set_option maxHeartbeats 4000000 in
theorem w_X10_convoyTime_L4 (C : cr_C p l e R s m args below meth c sfC 97 base D cA cX10_convoyTime 4 RX10) (hr : meth.sig.returnType = some .int) (hR : 1 ≤ R.frames ∧ 21 ≤ R.locals) {res : cr_S × Int32}  : ∀ (n : Nat) (σ : cr_S) (x1 : Int32) (x2 : Int32) (x3 : Int32), f_X10_convoyTime_L4 n σ x1 x2 x3 = some res → cr_W p l e R s m args below meth c sfC 97 base D cA 4 (MQ below (cr_Qi sfC 97 base D cA res) args s 0 0 (cr_A 97 base)) σ 4 [(0, .ref (base + 0)), (1, .int x1), (2, .int x2), (3, .int x3)] [] := by
  intro n
  induction n with
  | zero =>
    intro σ x1 x2 x3 h
    cases h
  | succ n ih =>
    intro σ x1 x2 x3 h
    rw [f_X10_convoyTime_L4] at h
    refine g_iload_n (pc' := 5) C dX10_convoyTime_4 3 rfl rfl ?_
    refine g_aload_n (pc' := 6) C dX10_convoyTime_5 0 rfl rfl ?_
    refine gg_X10_12 (pc' := 9) (o := 0) (r := 1) C rfl rfl dX10_convoyTime_6 rfl ?_
    refine gg_X10_82 (pc' := 12) (o := 1) C rfl dX10_convoyTime_9 rfl ?_
    refine g_icmp_ge (pc' := 15) (tgt := 60) C dX10_convoyTime_12 (by decide) rfl (fun hc => ?_) (fun hc => ?_)
    · rw [if_pos hc] at h
      refine g_iload_n (pc' := 61) C dX10_convoyTime_60 2 rfl rfl ?_
      exact g_iret C hr dX10_convoyTime_61 h
    · rw [if_neg hc] at h
      refine g_iload_n (pc' := 16) C dX10_convoyTime_15 1 rfl rfl ?_
      refine g_iload_n (pc' := 17) C dX10_convoyTime_16 3 rfl rfl ?_
      refine g_ishr (pc' := 18) C dX10_convoyTime_17 rfl ?_
      refine g_iconst (pc' := 19) (v := 1) C dX10_convoyTime_18 (by decide) rfl ?_
      refine g_iand (pc' := 20) C dX10_convoyTime_19 rfl ?_
      refine g_iconst (pc' := 21) (v := 1) C dX10_convoyTime_20 (by decide) rfl ?_
      refine g_icmp_ne (pc' := 24) (tgt := 54) C dX10_convoyTime_21 (by decide) rfl (fun hc => ?_) (fun hc => ?_)
      · rw [if_neg hc] at h
        exact g_sub C [0, 1, 2, 3] rfl (w_X10_convoyTime_B54 C hr hR (f_X10_convoyTime_L4 n) ih _ _ _ _ h)
      · rw [if_pos hc] at h
        refine g_iload_n (pc' := 25) C dX10_convoyTime_24 2 rfl rfl ?_
        refine g_aload_n (pc' := 26) C dX10_convoyTime_25 0 rfl rfl ?_
        refine gg_X10_12 (pc' := 29) (o := 0) (r := 1) C rfl rfl dX10_convoyTime_26 rfl ?_
        refine gg_X10_85 (pc' := 32) (o := 1) (r := 3) C rfl rfl dX10_convoyTime_29 rfl ?_
        refine g_iload_n (pc' := 33) C dX10_convoyTime_32 3 rfl rfl ?_
        obtain ⟨h3, h⟩ := chk_some h
        refine g_aald (pc' := 34) C (o := 3) (by decide) rfl (cn := "ClashRocks$Ship") rfl (inb_d h3) dX10_convoyTime_33 rfl ?_
        obtain ⟨q4, h5, h⟩ := bind_some h
        obtain ⟨h6, h⟩ := chk_some h
        refine g_callVi (pc' := 37) (res := q4) C [] cY_X6_span rfl (o := 15 + x3.toNatClampNeg) (kC_lt h6 (by decide)) (sfC_6 h6) mv_X6_span mm_X10_120 ⟨Nat.le_trans (by decide) hR.1, Nat.le_trans (by decide) hR.2⟩ rfl (Nat.le_of_ble_eq_true rfl) rfl dX10_convoyTime_34 (c_X6_span l base D cA σ (15 + x3.toNatClampNeg) q4 h5) rfl ?_
        refine g_aload_n (pc' := 38) C dX10_convoyTime_37 0 rfl rfl ?_
        refine gg_X10_12 (pc' := 41) (o := 0) (r := 1) C rfl rfl dX10_convoyTime_38 rfl ?_
        refine gg_X10_85 (pc' := 44) (o := 1) (r := 3) C rfl rfl dX10_convoyTime_41 rfl ?_
        refine g_iload_n (pc' := 45) C dX10_convoyTime_44 3 rfl rfl ?_
        obtain ⟨h7, h⟩ := chk_some h
        refine g_aald (pc' := 46) C (o := 3) (by decide) rfl (cn := "ClashRocks$Ship") rfl (inb_d h7) dX10_convoyTime_45 rfl ?_
        obtain ⟨q8, h9, h⟩ := bind_some h
        obtain ⟨h10, h⟩ := chk_some h
        refine g_callVi (pc' := 49) (res := q8) C [] cY_X6_high rfl (o := 15 + x3.toNatClampNeg) (kC_lt h10 (by decide)) (sfC_6 h10) mv_X6_high mm_X10_117 ⟨Nat.le_trans (by decide) hR.1, Nat.le_trans (by decide) hR.2⟩ rfl (Nat.le_of_ble_eq_true rfl) rfl dX10_convoyTime_46 (c_X6_high l base D cA q4.1 (15 + x3.toNatClampNeg) q8 h9) rfl ?_
        obtain ⟨q11, h12, h⟩ := bind_some h
        refine g_callSi (pc' := 52) (res := q11) C [.int q4.2, .int q8.2] cY_X10_secondsFor mv_X10_secondsFor mm_X10_331 ⟨Nat.le_trans (by decide) hR.1, Nat.le_trans (by decide) hR.2⟩ rfl (Nat.le_of_ble_eq_true rfl) rfl dX10_convoyTime_49 (c_X10_secondsFor l base D cA q8.1 q4.2 q8.2 q11 h12) rfl ?_
        refine g_iadd (pc' := 53) C dX10_convoyTime_52 rfl ?_
        obtain ⟨v13, e14, h⟩ := let_some h
        refine g_nameI e14 ?_
        refine g_istore_n (pc' := 54) (lv' := [(2, .int v13), (0, .ref (base + 0)), (1, .int x1), (3, .int x3)]) C dX10_convoyTime_53 rfl (by decide) rfl rfl ?_
        exact g_sub C [1, 2, 0, 3] rfl (w_X10_convoyTime_B54 C hr hR (f_X10_convoyTime_L4 n) ih _ _ _ _ h)
noncomputable def f_X10_convoyTime (σ : cr_S) (a1 : Int32) : Option (cr_S × Int32) :=
  f_X10_convoyTime_L4 cr_fuel σ a1 0 0
set_option maxRecDepth 100000 in
set_option maxHeartbeats 4000000 in
theorem w_X10_convoyTime (C : cr_C p l e R s m args below meth c sfC 97 base D cA cX10_convoyTime 4 RX10) (hr : meth.sig.returnType = some .int) (hR : 1 ≤ R.frames ∧ 21 ≤ R.locals) {res : cr_S × Int32} (σ : cr_S) (a1 : Int32) (h : f_X10_convoyTime σ a1 = some res) : cr_W p l e R s m args below meth c sfC 97 base D cA 4 (MQ below (cr_Qi sfC 97 base D cA res) args s 0 0 (cr_A 97 base)) σ 0 [(0, .ref (base + 0)), (1, .int a1)] [] := by
  unfold f_X10_convoyTime at h
  refine g_iconst (pc' := 1) (v := 0) C dX10_convoyTime_0 (by decide) rfl ?_
  refine g_istore_n (pc' := 2) (lv' := [(2, .int 0), (0, .ref (base + 0)), (1, .int a1)]) C dX10_convoyTime_1 rfl (by decide) rfl rfl ?_
  refine g_iconst (pc' := 3) (v := 0) C dX10_convoyTime_2 (by decide) rfl ?_
  refine g_istore_n (pc' := 4) (lv' := [(3, .int 0), (2, .int 0), (0, .ref (base + 0)), (1, .int a1)]) C dX10_convoyTime_3 rfl (by decide) rfl rfl ?_
  exact g_sub C [2, 3, 1, 0] rfl (w_X10_convoyTime_L4 C hr hR _ _ _ _ _ h)
theorem c_X10_convoyTime (l : Launch) (base : Nat) (D : va_G) (cA : Nat → ClassId) (σ : cr_S) (a1 : Int32) (res : cr_S × Int32) (h : f_X10_convoyTime σ a1 = some res) : cr_M l yX10_convoyTime cX10_convoyTime 4 (some .int) 1 21 sfC 97 base D cA [.ref (base + 0), .int a1] σ (cr_Qi sfC 97 base D cA res) := by
  refine cr_enter [.ref (base + 0), .int a1] [(0, .ref (base + 0)), (1, .int a1)] (by decide) (Nat.le_of_ble_eq_true rfl) rfl ?_
  intro p e R s m below meth c C hr hR
  exact w_X10_convoyTime C hr hR σ a1 h
noncomputable def f_X10_convoy_B131 (r76 : cr_S → Int32 → Int32 → Int32 → Int32 → Option (cr_S × Int32)) (σ : cr_S) (x3 : Int32) (x5 : Int32) (x6 : Int32) (x7 : Int32) : Option (cr_S × Int32) :=
  cr_let (x7 + 1) (fun v14 => r76 σ x3 x5 x6 v14)
set_option maxRecDepth 100000 in
set_option maxHeartbeats 4000000 in
theorem w_X10_convoy_B131 (C : cr_C p l e R s m args below meth c sfC 97 base D cA cX10_convoy 9 RX10) (hr : meth.sig.returnType = some .int) (hR : 3 ≤ R.frames ∧ 68 ≤ R.locals) {res : cr_S × Int32} (r76 : cr_S → Int32 → Int32 → Int32 → Int32 → Option (cr_S × Int32)) (hr76 : ∀ (σ : cr_S) (x3 : Int32) (x5 : Int32) (x6 : Int32) (x7 : Int32), r76 σ x3 x5 x6 x7 = some res → cr_W p l e R s m args below meth c sfC 97 base D cA 9 (MQ below (cr_Qi sfC 97 base D cA res) args s 0 0 (cr_A 97 base)) σ 76 [(0, .ref (base + 0)), (3, .int x3), (5, .int x5), (6, .int x6), (7, .int x7)] []) (σ : cr_S) (x3 : Int32) (x5 : Int32) (x6 : Int32) (x7 : Int32) (h : f_X10_convoy_B131 r76 σ x3 x5 x6 x7 = some res) : cr_W p l e R s m args below meth c sfC 97 base D cA 9 (MQ below (cr_Qi sfC 97 base D cA res) args s 0 0 (cr_A 97 base)) σ 131 [(0, .ref (base + 0)), (3, .int x3), (5, .int x5), (6, .int x6), (7, .int x7)] [] := by
  unfold f_X10_convoy_B131 at h
  obtain ⟨v14, e15, h⟩ := let_some h
  refine g_iinc (pc' := 134) (v := v14) (lv' := [(7, .int v14), (0, .ref (base + 0)), (3, .int x3), (5, .int x5), (6, .int x6)]) C dX10_convoy_131 4 rfl (by rw [e15]; rfl) (by decide) rfl rfl ?_
  refine g_goto (tgt := 76) C dX10_convoy_134 (by decide) ?_
  exact g_sub C [1, 2, 3, 4, 0] rfl (hr76 _ _ _ _ _ h)
noncomputable def f_X10_convoy_B96 (r76 : cr_S → Int32 → Int32 → Int32 → Int32 → Option (cr_S × Int32)) (σ : cr_S) (x3 : Int32) (x5 : Int32) (x6 : Int32) (x7 : Int32) (t0 : Int32) : Option (cr_S × Int32) :=
  (if t0 = 0 then f_X10_convoy_B131 r76 σ x3 x5 x6 x7 else Option.bind (f_J6_bitCount_0f7a4 σ x7) (fun q16 => Option.bind (f_J6_bitCount_0f7a4 q16.1 x6) (fun q18 => (if q16.2 ≤ q18.2 then f_X10_convoy_B131 r76 q18.1 x3 x5 x6 x7 else Option.bind (f_X10_convoyTime q18.1 x7) (fun q20 => (if x5 < q20.2 then f_X10_convoy_B131 r76 q20.1 x3 x5 x6 x7 else f_X10_convoy_B131 r76 q20.1 x3 x5 x7 x7))))))
set_option maxRecDepth 100000 in
set_option maxHeartbeats 4000000 in
theorem w_X10_convoy_B96 (C : cr_C p l e R s m args below meth c sfC 97 base D cA cX10_convoy 9 RX10) (hr : meth.sig.returnType = some .int) (hR : 3 ≤ R.frames ∧ 68 ≤ R.locals) {res : cr_S × Int32} (r76 : cr_S → Int32 → Int32 → Int32 → Int32 → Option (cr_S × Int32)) (hr76 : ∀ (σ : cr_S) (x3 : Int32) (x5 : Int32) (x6 : Int32) (x7 : Int32), r76 σ x3 x5 x6 x7 = some res → cr_W p l e R s m args below meth c sfC 97 base D cA 9 (MQ below (cr_Qi sfC 97 base D cA res) args s 0 0 (cr_A 97 base)) σ 76 [(0, .ref (base + 0)), (3, .int x3), (5, .int x5), (6, .int x6), (7, .int x7)] []) (σ : cr_S) (x3 : Int32) (x5 : Int32) (x6 : Int32) (x7 : Int32) (t0 : Int32) (h : f_X10_convoy_B96 r76 σ x3 x5 x6 x7 t0 = some res) : cr_W p l e R s m args below meth c sfC 97 base D cA 9 (MQ below (cr_Qi sfC 97 base D cA res) args s 0 0 (cr_A 97 base)) σ 96 [(0, .ref (base + 0)), (3, .int x3), (5, .int x5), (6, .int x6), (7, .int x7)] [.int t0] := by
  unfold f_X10_convoy_B96 at h
  refine g_istore (pc' := 98) (lv' := [(8, .int t0), (0, .ref (base + 0)), (3, .int x3), (5, .int x5), (6, .int x6), (7, .int x7)]) C dX10_convoy_96 (by decide) rfl rfl ?_
  refine g_iload (pc' := 100) C dX10_convoy_98 0 rfl rfl ?_
  refine g_if_eq (pc' := 103) (tgt := 131) C dX10_convoy_100 (by decide) rfl (fun hc => ?_) (fun hc => ?_)
  · rw [if_pos hc] at h
    exact g_sub C [1, 2, 3, 4, 5] rfl (w_X10_convoy_B131 C hr hR r76 hr76 _ _ _ _ _ h)
  · rw [if_neg hc] at h
    refine g_iload (pc' := 105) C dX10_convoy_103 5 rfl rfl ?_
    obtain ⟨q16, h17, h⟩ := bind_some h
    refine g_callSi (pc' := 108) (res := q16) C [.int x7] cY_J6_bitCount_0f7a4 mv_J6_bitCount_0f7a4 mm_X10_247 ⟨Nat.le_trans (by decide) hR.1, Nat.le_trans (by decide) hR.2⟩ rfl (Nat.le_of_ble_eq_true rfl) rfl dX10_convoy_105 (c_J6_bitCount_0f7a4 l base D cA σ x7 q16 h17) rfl ?_
    refine g_iload (pc' := 110) C dX10_convoy_108 4 rfl rfl ?_
    obtain ⟨q18, h19, h⟩ := bind_some h
    refine g_callSi (pc' := 113) (res := q18) C [.int x6] cY_J6_bitCount_0f7a4 mv_J6_bitCount_0f7a4 mm_X10_247 ⟨Nat.le_trans (by decide) hR.1, Nat.le_trans (by decide) hR.2⟩ rfl (Nat.le_of_ble_eq_true rfl) rfl dX10_convoy_110 (c_J6_bitCount_0f7a4 l base D cA q16.1 x6 q18 h19) rfl ?_
    refine g_icmp_le (pc' := 116) (tgt := 131) C dX10_convoy_113 (by decide) rfl (fun hc => ?_) (fun hc => ?_)
    · rw [if_pos hc] at h
      exact g_sub C [1, 2, 3, 4, 5] rfl (w_X10_convoy_B131 C hr hR r76 hr76 _ _ _ _ _ h)
    · rw [if_neg hc] at h
      refine g_aload_n (pc' := 117) C dX10_convoy_116 1 rfl rfl ?_
      refine g_iload (pc' := 119) C dX10_convoy_117 5 rfl rfl ?_
      obtain ⟨q20, h21, h⟩ := bind_some h
      refine g_callVi (pc' := 122) (res := q20) C [.int x7] cY_X10_convoyTime rfl (o := 0) (by decide) rfl mv_X10_convoyTime mm_X10_252 ⟨Nat.le_trans (by decide) hR.1, Nat.le_trans (by decide) hR.2⟩ rfl (Nat.le_of_ble_eq_true rfl) rfl dX10_convoy_119 (c_X10_convoyTime l base D cA q18.1 x7 q20 h21) rfl ?_
      refine g_iload (pc' := 124) C dX10_convoy_122 3 rfl rfl ?_
      refine g_icmp_gt (pc' := 127) (tgt := 131) C dX10_convoy_124 (by decide) rfl (fun hc => ?_) (fun hc => ?_)
      · rw [if_pos hc] at h
        exact g_sub C [1, 2, 3, 4, 5] rfl (w_X10_convoy_B131 C hr hR r76 hr76 _ _ _ _ _ h)
      · rw [if_neg hc] at h
        refine g_iload (pc' := 129) C dX10_convoy_127 5 rfl rfl ?_
        refine g_istore (pc' := 131) (lv' := [(6, .int x7), (8, .int t0), (0, .ref (base + 0)), (3, .int x3), (5, .int x5), (7, .int x7)]) C dX10_convoy_129 (by decide) rfl rfl ?_
        exact g_sub C [2, 3, 4, 0, 5] rfl (w_X10_convoy_B131 C hr hR r76 hr76 _ _ _ _ _ h)
noncomputable def f_X10_convoy_L76  : Nat → cr_S → Int32 → Int32 → Int32 → Int32 → Option (cr_S × Int32)
  | 0, _, _, _, _, _ => none
  | n + 1, σ, x3, x5, x6, x7 =>
    (if x3 < x7 then some (σ, x6) else f_X10_convoy_B96 (f_X10_convoy_L76 n) σ x3 x5 x6 x7 (if (x7 &&& (x3 ^^^ (-1))) = 0 then 1 else 0))
set_option maxRecDepth 100000 in
set_option maxHeartbeats 4000000 in
theorem w_X10_convoy_L76 (C : cr_C p l e R s m args below meth c sfC 97 base D cA cX10_convoy 9 RX10) (hr : meth.sig.returnType = some .int) (hR : 3 ≤ R.frames ∧ 68 ≤ R.locals) {res : cr_S × Int32}  : ∀ (n : Nat) (σ : cr_S) (x3 : Int32) (x5 : Int32) (x6 : Int32) (x7 : Int32), f_X10_convoy_L76 n σ x3 x5 x6 x7 = some res → cr_W p l e R s m args below meth c sfC 97 base D cA 9 (MQ below (cr_Qi sfC 97 base D cA res) args s 0 0 (cr_A 97 base)) σ 76 [(0, .ref (base + 0)), (3, .int x3), (5, .int x5), (6, .int x6), (7, .int x7)] [] := by
  intro n
  induction n with
  | zero =>
    intro σ x3 x5 x6 x7 h
    cases h
  | succ n ih =>
    intro σ x3 x5 x6 x7 h
    rw [f_X10_convoy_L76] at h
    refine g_iload (pc' := 78) C dX10_convoy_76 4 rfl rfl ?_
    refine g_iload_n (pc' := 79) C dX10_convoy_78 1 rfl rfl ?_
    refine g_icmp_gt (pc' := 82) (tgt := 137) C dX10_convoy_79 (by decide) rfl (fun hc => ?_) (fun hc => ?_)
    · rw [if_pos hc] at h
      refine g_iload (pc' := 139) C dX10_convoy_137 3 rfl rfl ?_
      exact g_iret C hr dX10_convoy_139 h
    · rw [if_neg hc] at h
      refine g_iload (pc' := 84) C dX10_convoy_82 4 rfl rfl ?_
      refine g_iload_n (pc' := 85) C dX10_convoy_84 1 rfl rfl ?_
      refine g_iconst (pc' := 86) (v := (-1)) C dX10_convoy_85 (by decide) rfl ?_
      refine g_ixor (pc' := 87) C dX10_convoy_86 rfl ?_
      refine g_iand (pc' := 88) C dX10_convoy_87 rfl ?_
      refine g_iteI (σ := σ) (pj := 96) (lv := [(0, .ref (base + 0)), (3, .int x3), (5, .int x5), (6, .int x6), (7, .int x7)]) (st := []) (cd := (x7 &&& (x3 ^^^ (-1))) = 0) (a := 1) (b := 0) C ?_ (fun kt kf => ?_)
      · exact g_sub C [0, 1, 2, 3, 4] rfl (w_X10_convoy_B96 C hr hR (f_X10_convoy_L76 n) ih _ _ _ _ _ _ h)
      · refine g_if_ne (pc' := 91) (tgt := 95) C dX10_convoy_88 (by decide) rfl (fun hc => ?_) (fun hc => ?_)
        · refine g_iconst (pc' := 96) (v := 0) C dX10_convoy_95 (by decide) rfl ?_
          exact kf hc
        · refine g_iconst (pc' := 92) (v := 1) C dX10_convoy_91 (by decide) rfl ?_
          refine g_goto (tgt := 96) C dX10_convoy_92 (by decide) ?_
          exact kt hc
noncomputable def f_X10_convoy (σ : cr_S) (a1 : Int32) (a2 : Int32) (a3 : Int32) : Option (cr_S × Int32) :=
  Option.bind (f_X10_isPair σ a1) (fun q1 => (if q1.2 = 0 then some (q1.1, (-1)) else Option.bind (f_X10_isWithin q1.1 a2 0 9999) (fun q3 => (if q3.2 = 0 then some (q3.1, (-1)) else Option.bind (f_X10_isWithin q3.1 a3 0 ((1 <<< ((rF q3.1 1 6) &&& 31)) - 1)) (fun q5 => (if q5.2 = 0 then some (q5.1, (-1)) else chk (inb a1 6) (chk (kC (9 + a1.toNatClampNeg) = 3) (Option.bind (f_X3_firstShut q5.1 (9 + a1.toNatClampNeg) a2 (a2 + 55) (rF q5.1 (9 + a1.toNatClampNeg) 4)) (fun q9 => chk (kC (9 + a1.toNatClampNeg) = 3) (cr_let (q9.2 - a2) (fun v12 => f_X10_convoy_L76 cr_fuel q9.1 a3 v12 0 1)))))))))))
set_option maxRecDepth 100000 in
set_option maxHeartbeats 4000000 in
theorem w_X10_convoy (C : cr_C p l e R s m args below meth c sfC 97 base D cA cX10_convoy 9 RX10) (hr : meth.sig.returnType = some .int) (hR : 3 ≤ R.frames ∧ 68 ≤ R.locals) {res : cr_S × Int32} (σ : cr_S) (a1 : Int32) (a2 : Int32) (a3 : Int32) (h : f_X10_convoy σ a1 a2 a3 = some res) : cr_W p l e R s m args below meth c sfC 97 base D cA 9 (MQ below (cr_Qi sfC 97 base D cA res) args s 0 0 (cr_A 97 base)) σ 0 [(0, .ref (base + 0)), (1, .int a1), (2, .int a2), (3, .int a3)] [] := by
  unfold f_X10_convoy at h
  refine g_aload_n (pc' := 1) C dX10_convoy_0 0 rfl rfl ?_
  refine g_iload_n (pc' := 2) C dX10_convoy_1 1 rfl rfl ?_
  obtain ⟨q1, h2, h⟩ := bind_some h
  refine g_callVi (pc' := 5) (res := q1) C [.int a1] cY_X10_isPair rfl (o := 0) (by decide) rfl mv_X10_isPair mm_X10_72 ⟨Nat.le_trans (by decide) hR.1, Nat.le_trans (by decide) hR.2⟩ rfl (Nat.le_of_ble_eq_true rfl) rfl dX10_convoy_2 (c_X10_isPair l base D cA σ a1 q1 h2) rfl ?_
  refine g_if_eq (pc' := 8) (tgt := 38) C dX10_convoy_5 (by decide) rfl (fun hc => ?_) (fun hc => ?_)
  · rw [if_pos hc] at h
    refine g_iconst (pc' := 39) (v := (-1)) C dX10_convoy_38 (by decide) rfl ?_
    exact g_iret C hr dX10_convoy_39 h
  · rw [if_neg hc] at h
    refine g_iload_n (pc' := 9) C dX10_convoy_8 2 rfl rfl ?_
    refine g_iconst (pc' := 10) (v := 0) C dX10_convoy_9 (by decide) rfl ?_
    refine g_sipush (pc' := 13) (v := 9999) C dX10_convoy_10 (by decide) rfl ?_
    obtain ⟨q3, h4, h⟩ := bind_some h
    refine g_callSi (pc' := 16) (res := q3) C [.int a2, .int 0, .int 9999] cY_X10_isWithin mv_X10_isWithin mm_X10_54 ⟨Nat.le_trans (by decide) hR.1, Nat.le_trans (by decide) hR.2⟩ rfl (Nat.le_of_ble_eq_true rfl) rfl dX10_convoy_13 (c_X10_isWithin l base D cA q1.1 a2 0 9999 q3 h4) rfl ?_
    refine g_if_eq (pc' := 19) (tgt := 38) C dX10_convoy_16 (by decide) rfl (fun hc => ?_) (fun hc => ?_)
    · rw [if_pos hc] at h
      refine g_iconst (pc' := 39) (v := (-1)) C dX10_convoy_38 (by decide) rfl ?_
      exact g_iret C hr dX10_convoy_39 h
    · rw [if_neg hc] at h
      refine g_iload_n (pc' := 20) C dX10_convoy_19 3 rfl rfl ?_
      refine g_iconst (pc' := 21) (v := 0) C dX10_convoy_20 (by decide) rfl ?_
      refine g_iconst (pc' := 22) (v := 1) C dX10_convoy_21 (by decide) rfl ?_
      refine g_aload_n (pc' := 23) C dX10_convoy_22 0 rfl rfl ?_
      refine gg_X10_12 (pc' := 26) (o := 0) (r := 1) C rfl rfl dX10_convoy_23 rfl ?_
      refine gg_X10_82 (pc' := 29) (o := 1) C rfl dX10_convoy_26 rfl ?_
      refine g_ishl (pc' := 30) C dX10_convoy_29 rfl ?_
      refine g_iconst (pc' := 31) (v := 1) C dX10_convoy_30 (by decide) rfl ?_
      refine g_isub (pc' := 32) C dX10_convoy_31 rfl ?_
      obtain ⟨q5, h6, h⟩ := bind_some h
      refine g_callSi (pc' := 35) (res := q5) C [.int a3, .int 0, .int ((1 <<< ((rF q3.1 1 6) &&& 31)) - 1)] cY_X10_isWithin mv_X10_isWithin mm_X10_54 ⟨Nat.le_trans (by decide) hR.1, Nat.le_trans (by decide) hR.2⟩ rfl (Nat.le_of_ble_eq_true rfl) rfl dX10_convoy_32 (c_X10_isWithin l base D cA q3.1 a3 0 ((1 <<< ((rF q3.1 1 6) &&& 31)) - 1) q5 h6) rfl ?_
      refine g_if_ne (pc' := 38) (tgt := 40) C dX10_convoy_35 (by decide) rfl (fun hc => ?_) (fun hc => ?_)
      · rw [if_neg hc] at h
        refine g_aload_n (pc' := 41) C dX10_convoy_40 0 rfl rfl ?_
        refine gg_X10_12 (pc' := 44) (o := 0) (r := 1) C rfl rfl dX10_convoy_41 rfl ?_
        refine gg_X10_62 (pc' := 47) (o := 1) (r := 2) C rfl rfl dX10_convoy_44 rfl ?_
        refine g_iload_n (pc' := 48) C dX10_convoy_47 1 rfl rfl ?_
        obtain ⟨h7, h⟩ := chk_some h
        refine g_aald (pc' := 49) C (o := 2) (by decide) rfl (cn := "ClashRocks$Pair") rfl (inb_d h7) dX10_convoy_48 rfl ?_
        refine g_astore (pc' := 51) (lv' := [(4, .ref (base + (9 + a1.toNatClampNeg))), (0, .ref (base + 0)), (1, .int a1), (2, .int a2), (3, .int a3)]) C dX10_convoy_49 (by decide) rfl rfl ?_
        refine g_aload (pc' := 53) C dX10_convoy_51 0 rfl rfl ?_
        refine g_iload_n (pc' := 54) C dX10_convoy_53 3 rfl rfl ?_
        refine g_iload_n (pc' := 55) C dX10_convoy_54 3 rfl rfl ?_
        refine g_bipush (pc' := 57) (v := 55) C dX10_convoy_55 (by decide) rfl ?_
        refine g_iadd (pc' := 58) C dX10_convoy_57 rfl ?_
        refine g_aload (pc' := 60) C dX10_convoy_58 0 rfl rfl ?_
        obtain ⟨h8, h⟩ := chk_some h
        refine gg_X10_79 (pc' := 63) (o := 9 + a1.toNatClampNeg) C h8 dX10_convoy_60 rfl ?_
        obtain ⟨q9, h10, h⟩ := bind_some h
        obtain ⟨h11, h⟩ := chk_some h
        refine g_callVi (pc' := 66) (res := q9) C [.int a2, .int (a2 + 55), .int (rF q5.1 (9 + a1.toNatClampNeg) 4)] cY_X3_firstShut rfl (o := 9 + a1.toNatClampNeg) (kC_lt h11 (by decide)) (sfC_3 h11) mv_X3_firstShut mm_X10_243 ⟨Nat.le_trans (by decide) hR.1, Nat.le_trans (by decide) hR.2⟩ rfl (Nat.le_of_ble_eq_true rfl) rfl dX10_convoy_63 (c_X3_firstShut l base D cA q5.1 (9 + a1.toNatClampNeg) a2 (a2 + 55) (rF q5.1 (9 + a1.toNatClampNeg) 4) q9 h10) rfl ?_
        refine g_iload_n (pc' := 67) C dX10_convoy_66 3 rfl rfl ?_
        refine g_isub (pc' := 68) C dX10_convoy_67 rfl ?_
        obtain ⟨v12, e13, h⟩ := let_some h
        refine g_nameI e13 ?_
        refine g_istore (pc' := 70) (lv' := [(5, .int v12), (4, .ref (base + (9 + a1.toNatClampNeg))), (0, .ref (base + 0)), (1, .int a1), (2, .int a2), (3, .int a3)]) C dX10_convoy_68 (by decide) rfl rfl ?_
        refine g_iconst (pc' := 71) (v := 0) C dX10_convoy_70 (by decide) rfl ?_
        refine g_istore (pc' := 73) (lv' := [(6, .int 0), (5, .int v12), (4, .ref (base + (9 + a1.toNatClampNeg))), (0, .ref (base + 0)), (1, .int a1), (2, .int a2), (3, .int a3)]) C dX10_convoy_71 (by decide) rfl rfl ?_
        refine g_iconst (pc' := 74) (v := 1) C dX10_convoy_73 (by decide) rfl ?_
        refine g_istore (pc' := 76) (lv' := [(7, .int 1), (6, .int 0), (5, .int v12), (4, .ref (base + (9 + a1.toNatClampNeg))), (0, .ref (base + 0)), (1, .int a1), (2, .int a2), (3, .int a3)]) C dX10_convoy_74 (by decide) rfl rfl ?_
        exact g_sub C [4, 7, 2, 1, 0] rfl (w_X10_convoy_L76 C hr hR _ _ _ _ _ _ h)
      · rw [if_pos hc] at h
        refine g_iconst (pc' := 39) (v := (-1)) C dX10_convoy_38 (by decide) rfl ?_
        exact g_iret C hr dX10_convoy_39 h
theorem c_X10_convoy (l : Launch) (base : Nat) (D : va_G) (cA : Nat → ClassId) (σ : cr_S) (a1 : Int32) (a2 : Int32) (a3 : Int32) (res : cr_S × Int32) (h : f_X10_convoy σ a1 a2 a3 = some res) : cr_M l yX10_convoy cX10_convoy 9 (some .int) 3 68 sfC 97 base D cA [.ref (base + 0), .int a1, .int a2, .int a3] σ (cr_Qi sfC 97 base D cA res) := by
  refine cr_enter [.ref (base + 0), .int a1, .int a2, .int a3] [(0, .ref (base + 0)), (1, .int a1), (2, .int a2), (3, .int a3)] (by decide) (Nat.le_of_ble_eq_true rfl) rfl ?_
  intro p e R s m below meth c C hr hR
  exact w_X10_convoy C hr hR σ a1 a2 a3 h
noncomputable def f_X10_rudder_B68 (r28 : cr_S → Int32 → Int32 → Int32 → Int32 → Int32 → Option (cr_S × Int32)) (σ : cr_S) (x1 : Int32) (x2 : Int32) (x3 : Int32) (x5 : Int32) (t0 : Int32) (t1 : Int32) : Option (cr_S × Int32) :=
  cr_let (t1 ||| t0) (fun v7 => cr_let (x5 + 1) (fun v9 => r28 σ x1 x2 x3 v7 v9))
set_option maxRecDepth 100000 in
set_option maxHeartbeats 4000000 in
theorem w_X10_rudder_B68 (C : cr_C p l e R s m args below meth c sfC 97 base D cA cX10_rudder 6 RX10) (hr : meth.sig.returnType = some .int) (hR : 6 ≤ R.frames ∧ 143 ≤ R.locals) {res : cr_S × Int32} (r28 : cr_S → Int32 → Int32 → Int32 → Int32 → Int32 → Option (cr_S × Int32)) (hr28 : ∀ (σ : cr_S) (x1 : Int32) (x2 : Int32) (x3 : Int32) (x4 : Int32) (x5 : Int32), r28 σ x1 x2 x3 x4 x5 = some res → cr_W p l e R s m args below meth c sfC 97 base D cA 6 (MQ below (cr_Qi sfC 97 base D cA res) args s 0 0 (cr_A 97 base)) σ 28 [(0, .ref (base + 0)), (1, .int x1), (2, .int x2), (3, .int x3), (4, .int x4), (5, .int x5)] []) (σ : cr_S) (x1 : Int32) (x2 : Int32) (x3 : Int32) (x5 : Int32) (t0 : Int32) (t1 : Int32) (h : f_X10_rudder_B68 r28 σ x1 x2 x3 x5 t0 t1 = some res) : cr_W p l e R s m args below meth c sfC 97 base D cA 6 (MQ below (cr_Qi sfC 97 base D cA res) args s 0 0 (cr_A 97 base)) σ 68 [(0, .ref (base + 0)), (1, .int x1), (2, .int x2), (3, .int x3), (5, .int x5)] [.int t0, .int t1] := by
  unfold f_X10_rudder_B68 at h
  refine g_ior (pc' := 69) C dX10_rudder_68 rfl ?_
  obtain ⟨v7, e8, h⟩ := let_some h
  refine g_nameI e8 ?_
  refine g_istore (pc' := 71) (lv' := [(4, .int v7), (0, .ref (base + 0)), (1, .int x1), (2, .int x2), (3, .int x3), (5, .int x5)]) C dX10_rudder_69 (by decide) rfl rfl ?_
  obtain ⟨v9, e10, h⟩ := let_some h
  refine g_iinc (pc' := 74) (v := v9) (lv' := [(5, .int v9), (4, .int v7), (0, .ref (base + 0)), (1, .int x1), (2, .int x2), (3, .int x3)]) C dX10_rudder_71 5 rfl (by rw [e10]; rfl) (by decide) rfl rfl ?_
  refine g_goto (tgt := 28) C dX10_rudder_74 (by decide) ?_
  exact g_sub C [2, 3, 4, 5, 1, 0] rfl (hr28 _ _ _ _ _ _ h)
noncomputable def f_X10_rudder_L28  : Nat → cr_S → Int32 → Int32 → Int32 → Int32 → Int32 → Option (cr_S × Int32)
  | 0, _, _, _, _, _, _ => none
  | n + 1, σ, x1, x2, x3, x4, x5 =>
    (if (x2 + x3) < x5 then some (σ, x4) else Option.bind (f_X10_goFull σ x1 x5) (fun q5 => f_X10_rudder_B68 (f_X10_rudder_L28 n) q5 x1 x2 x3 x5 (if (rF q5 70 3) = (-4) then rF q5 70 4 else 0) x4))
set_option maxRecDepth 100000 in
set_option maxHeartbeats 4000000 in
theorem w_X10_rudder_L28 (C : cr_C p l e R s m args below meth c sfC 97 base D cA cX10_rudder 6 RX10) (hr : meth.sig.returnType = some .int) (hR : 6 ≤ R.frames ∧ 143 ≤ R.locals) {res : cr_S × Int32}  : ∀ (n : Nat) (σ : cr_S) (x1 : Int32) (x2 : Int32) (x3 : Int32) (x4 : Int32) (x5 : Int32), f_X10_rudder_L28 n σ x1 x2 x3 x4 x5 = some res → cr_W p l e R s m args below meth c sfC 97 base D cA 6 (MQ below (cr_Qi sfC 97 base D cA res) args s 0 0 (cr_A 97 base)) σ 28 [(0, .ref (base + 0)), (1, .int x1), (2, .int x2), (3, .int x3), (4, .int x4), (5, .int x5)] [] := by
  intro n
  induction n with
  | zero =>
    intro σ x1 x2 x3 x4 x5 h
    cases h
  | succ n ih =>
    intro σ x1 x2 x3 x4 x5 h
    rw [f_X10_rudder_L28] at h
    refine g_iload (pc' := 30) C dX10_rudder_28 5 rfl rfl ?_
    refine g_iload_n (pc' := 31) C dX10_rudder_30 2 rfl rfl ?_
    refine g_iload_n (pc' := 32) C dX10_rudder_31 3 rfl rfl ?_
    refine g_iadd (pc' := 33) C dX10_rudder_32 rfl ?_
    refine g_icmp_gt (pc' := 36) (tgt := 77) C dX10_rudder_33 (by decide) rfl (fun hc => ?_) (fun hc => ?_)
    · rw [if_pos hc] at h
      refine g_iload (pc' := 79) C dX10_rudder_77 4 rfl rfl ?_
      exact g_iret C hr dX10_rudder_79 h
    · rw [if_neg hc] at h
      refine g_aload_n (pc' := 37) C dX10_rudder_36 0 rfl rfl ?_
      refine g_iload_n (pc' := 38) C dX10_rudder_37 1 rfl rfl ?_
      refine g_iload (pc' := 40) C dX10_rudder_38 5 rfl rfl ?_
      obtain ⟨q5, h6, h⟩ := bind_some h
      refine g_callVv (pc' := 43) (res := q5) C [.int x1, .int x5] cY_X10_goFull rfl (o := 0) (by decide) rfl mv_X10_goFull mm_X10_200 ⟨Nat.le_trans (by decide) hR.1, Nat.le_trans (by decide) hR.2⟩ rfl (Nat.le_of_ble_eq_true rfl) rfl dX10_rudder_40 (c_X10_goFull l base D cA σ x1 x5 q5 h6) rfl ?_
      refine g_iload (pc' := 45) C dX10_rudder_43 4 rfl rfl ?_
      refine g_aload_n (pc' := 46) C dX10_rudder_45 0 rfl rfl ?_
      refine gg_X10_29 (pc' := 49) (o := 0) (r := 70) C rfl rfl dX10_rudder_46 rfl ?_
      refine gg_X10_207 (pc' := 52) (o := 70) C rfl dX10_rudder_49 rfl ?_
      refine g_bipush (pc' := 54) (v := (-4)) C dX10_rudder_52 (by decide) rfl ?_
      refine g_iteI (σ := q5) (pj := 68) (lv := [(0, .ref (base + 0)), (1, .int x1), (2, .int x2), (3, .int x3), (4, .int x4), (5, .int x5)]) (st := [.int x4]) (cd := (rF q5 70 3) = (-4)) (a := rF q5 70 4) (b := 0) C ?_ (fun kt kf => ?_)
      · exact g_sub C [0, 1, 2, 3, 5] rfl (w_X10_rudder_B68 C hr hR (f_X10_rudder_L28 n) ih _ _ _ _ _ _ _ h)
      · refine g_icmp_ne (pc' := 57) (tgt := 67) C dX10_rudder_54 (by decide) rfl (fun hc => ?_) (fun hc => ?_)
        · refine g_iconst (pc' := 68) (v := 0) C dX10_rudder_67 (by decide) rfl ?_
          exact kf hc
        · refine g_aload_n (pc' := 58) C dX10_rudder_57 0 rfl rfl ?_
          refine gg_X10_29 (pc' := 61) (o := 0) (r := 70) C rfl rfl dX10_rudder_58 rfl ?_
          refine gg_X10_255 (pc' := 64) (o := 70) C rfl dX10_rudder_61 rfl ?_
          refine g_goto (tgt := 68) C dX10_rudder_64 (by decide) ?_
          exact kt hc
noncomputable def f_X10_rudder (σ : cr_S) (a1 : Int32) (a2 : Int32) (a3 : Int32) : Option (cr_S × Int32) :=
  Option.bind (f_X10_isBegin σ a1 a2) (fun q1 => (if q1.2 = 0 then some (q1.1, (-1)) else Option.bind (f_X10_isWithin q1.1 a3 0 999) (fun q3 => (if q3.2 = 0 then some (q3.1, (-1)) else f_X10_rudder_L28 cr_fuel q3.1 a1 a2 a3 0 a2))))
set_option maxRecDepth 100000 in
set_option maxHeartbeats 4000000 in
theorem w_X10_rudder (C : cr_C p l e R s m args below meth c sfC 97 base D cA cX10_rudder 6 RX10) (hr : meth.sig.returnType = some .int) (hR : 6 ≤ R.frames ∧ 143 ≤ R.locals) {res : cr_S × Int32} (σ : cr_S) (a1 : Int32) (a2 : Int32) (a3 : Int32) (h : f_X10_rudder σ a1 a2 a3 = some res) : cr_W p l e R s m args below meth c sfC 97 base D cA 6 (MQ below (cr_Qi sfC 97 base D cA res) args s 0 0 (cr_A 97 base)) σ 0 [(0, .ref (base + 0)), (1, .int a1), (2, .int a2), (3, .int a3)] [] := by
  unfold f_X10_rudder at h
  refine g_aload_n (pc' := 1) C dX10_rudder_0 0 rfl rfl ?_
  refine g_iload_n (pc' := 2) C dX10_rudder_1 1 rfl rfl ?_
  refine g_iload_n (pc' := 3) C dX10_rudder_2 2 rfl rfl ?_
  obtain ⟨q1, h2, h⟩ := bind_some h
  refine g_callVi (pc' := 6) (res := q1) C [.int a1, .int a2] cY_X10_isBegin rfl (o := 0) (by decide) rfl mv_X10_isBegin mm_X10_210 ⟨Nat.le_trans (by decide) hR.1, Nat.le_trans (by decide) hR.2⟩ rfl (Nat.le_of_ble_eq_true rfl) rfl dX10_rudder_3 (c_X10_isBegin l base D cA σ a1 a2 q1 h2) rfl ?_
  refine g_if_eq (pc' := 9) (tgt := 20) C dX10_rudder_6 (by decide) rfl (fun hc => ?_) (fun hc => ?_)
  · rw [if_pos hc] at h
    refine g_iconst (pc' := 21) (v := (-1)) C dX10_rudder_20 (by decide) rfl ?_
    exact g_iret C hr dX10_rudder_21 h
  · rw [if_neg hc] at h
    refine g_iload_n (pc' := 10) C dX10_rudder_9 3 rfl rfl ?_
    refine g_iconst (pc' := 11) (v := 0) C dX10_rudder_10 (by decide) rfl ?_
    refine g_sipush (pc' := 14) (v := 999) C dX10_rudder_11 (by decide) rfl ?_
    obtain ⟨q3, h4, h⟩ := bind_some h
    refine g_callSi (pc' := 17) (res := q3) C [.int a3, .int 0, .int 999] cY_X10_isWithin mv_X10_isWithin mm_X10_54 ⟨Nat.le_trans (by decide) hR.1, Nat.le_trans (by decide) hR.2⟩ rfl (Nat.le_of_ble_eq_true rfl) rfl dX10_rudder_14 (c_X10_isWithin l base D cA q1.1 a3 0 999 q3 h4) rfl ?_
    refine g_if_ne (pc' := 20) (tgt := 22) C dX10_rudder_17 (by decide) rfl (fun hc => ?_) (fun hc => ?_)
    · rw [if_neg hc] at h
      refine g_iconst (pc' := 23) (v := 0) C dX10_rudder_22 (by decide) rfl ?_
      refine g_istore (pc' := 25) (lv' := [(4, .int 0), (0, .ref (base + 0)), (1, .int a1), (2, .int a2), (3, .int a3)]) C dX10_rudder_23 (by decide) rfl rfl ?_
      refine g_iload_n (pc' := 26) C dX10_rudder_25 3 rfl rfl ?_
      refine g_istore (pc' := 28) (lv' := [(5, .int a2), (4, .int 0), (0, .ref (base + 0)), (1, .int a1), (2, .int a2), (3, .int a3)]) C dX10_rudder_26 (by decide) rfl rfl ?_
      exact g_sub C [2, 3, 4, 5, 1, 0] rfl (w_X10_rudder_L28 C hr hR _ _ _ _ _ _ _ h)
    · rw [if_pos hc] at h
      refine g_iconst (pc' := 21) (v := (-1)) C dX10_rudder_20 (by decide) rfl ?_
      exact g_iret C hr dX10_rudder_21 h
theorem c_X10_rudder (l : Launch) (base : Nat) (D : va_G) (cA : Nat → ClassId) (σ : cr_S) (a1 : Int32) (a2 : Int32) (a3 : Int32) (res : cr_S × Int32) (h : f_X10_rudder σ a1 a2 a3 = some res) : cr_M l yX10_rudder cX10_rudder 6 (some .int) 6 143 sfC 97 base D cA [.ref (base + 0), .int a1, .int a2, .int a3] σ (cr_Qi sfC 97 base D cA res) := by
  refine cr_enter [.ref (base + 0), .int a1, .int a2, .int a3] [(0, .ref (base + 0)), (1, .int a1), (2, .int a2), (3, .int a3)] (by decide) (Nat.le_of_ble_eq_true rfl) rfl ?_
  intro p e R s m below meth c C hr hR
  exact w_X10_rudder C hr hR σ a1 a2 a3 h
noncomputable def f_X0_isThroughBut_70_1_B26 (r2 : cr_S → Int32 → Int32 → Option (cr_S × Int32)) (σ : cr_S) (x2 : Int32) (x3 : Int32) : Option (cr_S × Int32) :=
  cr_let (x3 + 1) (fun v1 => r2 σ x2 v1)
set_option maxRecDepth 100000 in
set_option maxHeartbeats 4000000 in
theorem w_X0_isThroughBut_70_1_B26 (C : cr_C p l e R s m args below meth c sfC 97 base D cA cX0_isThroughBut 4 RX0) (hr : meth.sig.returnType = some .boolean) (hR : 5 ≤ R.frames ∧ 113 ≤ R.locals) {res : cr_S × Int32} (r2 : cr_S → Int32 → Int32 → Option (cr_S × Int32)) (hr2 : ∀ (σ : cr_S) (x2 : Int32) (x3 : Int32), r2 σ x2 x3 = some res → cr_W p l e R s m args below meth c sfC 97 base D cA 4 (MQ below (cr_Qi sfC 97 base D cA res) args s 0 0 (cr_A 97 base)) σ 2 [(0, .ref (base + 70)), (1, .ref (base + 1)), (2, .int x2), (3, .int x3)] []) (σ : cr_S) (x2 : Int32) (x3 : Int32) (h : f_X0_isThroughBut_70_1_B26 r2 σ x2 x3 = some res) : cr_W p l e R s m args below meth c sfC 97 base D cA 4 (MQ below (cr_Qi sfC 97 base D cA res) args s 0 0 (cr_A 97 base)) σ 26 [(0, .ref (base + 70)), (1, .ref (base + 1)), (2, .int x2), (3, .int x3)] [] := by
  unfold f_X0_isThroughBut_70_1_B26 at h
  obtain ⟨v1, e2, h⟩ := let_some h
  refine g_iinc (pc' := 29) (v := v1) (lv' := [(3, .int v1), (0, .ref (base + 70)), (1, .ref (base + 1)), (2, .int x2)]) C dX0_isThroughBut_26 3 rfl (by rw [e2]; rfl) (by decide) rfl rfl ?_
  refine g_goto (tgt := 2) C dX0_isThroughBut_29 (by decide) ?_
  exact g_sub C [1, 2, 3, 0] rfl (hr2 _ _ _ h)
noncomputable def f_X0_isThroughBut_70_1_L2  : Nat → cr_S → Int32 → Int32 → Option (cr_S × Int32)
  | 0, _, _, _ => none
  | n + 1, σ, x2, x3 =>
    (if (rF σ 1 5) ≤ x3 then some (σ, 1) else (if x3 = x2 then f_X0_isThroughBut_70_1_B26 (f_X0_isThroughBut_70_1_L2 n) σ x2 x3 else Option.bind (f_X0_isThrough_70_1 σ x3) (fun q3 => (if q3.2 = 0 then some (q3.1, 0) else f_X0_isThroughBut_70_1_B26 (f_X0_isThroughBut_70_1_L2 n) q3.1 x2 x3))))
set_option maxRecDepth 100000 in
set_option maxHeartbeats 4000000 in
theorem w_X0_isThroughBut_70_1_L2 (C : cr_C p l e R s m args below meth c sfC 97 base D cA cX0_isThroughBut 4 RX0) (hr : meth.sig.returnType = some .boolean) (hR : 5 ≤ R.frames ∧ 113 ≤ R.locals) {res : cr_S × Int32}  : ∀ (n : Nat) (σ : cr_S) (x2 : Int32) (x3 : Int32), f_X0_isThroughBut_70_1_L2 n σ x2 x3 = some res → cr_W p l e R s m args below meth c sfC 97 base D cA 4 (MQ below (cr_Qi sfC 97 base D cA res) args s 0 0 (cr_A 97 base)) σ 2 [(0, .ref (base + 70)), (1, .ref (base + 1)), (2, .int x2), (3, .int x3)] [] := by
  intro n
  induction n with
  | zero =>
    intro σ x2 x3 h
    cases h
  | succ n ih =>
    intro σ x2 x3 h
    rw [f_X0_isThroughBut_70_1_L2] at h
    refine g_iload_n (pc' := 3) C dX0_isThroughBut_2 3 rfl rfl ?_
    refine g_aload_n (pc' := 4) C dX0_isThroughBut_3 1 rfl rfl ?_
    refine gg_X0_53 (pc' := 7) (o := 1) C rfl dX0_isThroughBut_4 rfl ?_
    refine g_icmp_ge (pc' := 10) (tgt := 32) C dX0_isThroughBut_7 (by decide) rfl (fun hc => ?_) (fun hc => ?_)
    · rw [if_pos hc] at h
      refine g_iconst (pc' := 33) (v := 1) C dX0_isThroughBut_32 (by decide) rfl ?_
      exact g_zret C hr rfl dX0_isThroughBut_33 h
    · rw [if_neg hc] at h
      refine g_iload_n (pc' := 11) C dX0_isThroughBut_10 3 rfl rfl ?_
      refine g_iload_n (pc' := 12) C dX0_isThroughBut_11 2 rfl rfl ?_
      refine g_icmp_eq (pc' := 15) (tgt := 26) C dX0_isThroughBut_12 (by decide) rfl (fun hc => ?_) (fun hc => ?_)
      · rw [if_pos hc] at h
        exact g_sub C [0, 1, 2, 3] rfl (w_X0_isThroughBut_70_1_B26 C hr hR (f_X0_isThroughBut_70_1_L2 n) ih _ _ _ h)
      · rw [if_neg hc] at h
        refine g_aload_n (pc' := 16) C dX0_isThroughBut_15 0 rfl rfl ?_
        refine g_aload_n (pc' := 17) C dX0_isThroughBut_16 1 rfl rfl ?_
        refine g_iload_n (pc' := 18) C dX0_isThroughBut_17 3 rfl rfl ?_
        obtain ⟨q3, h4, h⟩ := bind_some h
        refine g_callVi (pc' := 21) (res := q3) C [.ref (base + 1), .int x3] cY_X0_isThrough rfl (o := 70) (by decide) rfl mv_X0_isThrough mm_X0_73 ⟨Nat.le_trans (by decide) hR.1, Nat.le_trans (by decide) hR.2⟩ rfl (Nat.le_of_ble_eq_true rfl) rfl dX0_isThroughBut_18 (c_X0_isThrough_70_1 l base D cA σ x3 q3 h4) rfl ?_
        refine g_if_ne (pc' := 24) (tgt := 26) C dX0_isThroughBut_21 (by decide) rfl (fun hc => ?_) (fun hc => ?_)
        · rw [if_neg hc] at h
          exact g_sub C [0, 1, 2, 3] rfl (w_X0_isThroughBut_70_1_B26 C hr hR (f_X0_isThroughBut_70_1_L2 n) ih _ _ _ h)
        · rw [if_pos hc] at h
          refine g_iconst (pc' := 25) (v := 0) C dX0_isThroughBut_24 (by decide) rfl ?_
          exact g_zret C hr rfl dX0_isThroughBut_25 h
noncomputable def f_X0_isThroughBut_70_1 (σ : cr_S) (a2 : Int32) : Option (cr_S × Int32) :=
  f_X0_isThroughBut_70_1_L2 cr_fuel σ a2 0
set_option maxRecDepth 100000 in
set_option maxHeartbeats 4000000 in
theorem w_X0_isThroughBut_70_1 (C : cr_C p l e R s m args below meth c sfC 97 base D cA cX0_isThroughBut 4 RX0) (hr : meth.sig.returnType = some .boolean) (hR : 5 ≤ R.frames ∧ 113 ≤ R.locals) {res : cr_S × Int32} (σ : cr_S) (a2 : Int32) (h : f_X0_isThroughBut_70_1 σ a2 = some res) : cr_W p l e R s m args below meth c sfC 97 base D cA 4 (MQ below (cr_Qi sfC 97 base D cA res) args s 0 0 (cr_A 97 base)) σ 0 [(0, .ref (base + 70)), (1, .ref (base + 1)), (2, .int a2)] [] := by
  unfold f_X0_isThroughBut_70_1 at h
  refine g_iconst (pc' := 1) (v := 0) C dX0_isThroughBut_0 (by decide) rfl ?_
  refine g_istore_n (pc' := 2) (lv' := [(3, .int 0), (0, .ref (base + 70)), (1, .ref (base + 1)), (2, .int a2)]) C dX0_isThroughBut_1 rfl (by decide) rfl rfl ?_
  exact g_sub C [1, 2, 3, 0] rfl (w_X0_isThroughBut_70_1_L2 C hr hR _ _ _ _ h)
theorem c_X0_isThroughBut_70_1 (l : Launch) (base : Nat) (D : va_G) (cA : Nat → ClassId) (σ : cr_S) (a2 : Int32) (res : cr_S × Int32) (h : f_X0_isThroughBut_70_1 σ a2 = some res) : cr_M l yX0_isThroughBut cX0_isThroughBut 4 (some .boolean) 5 113 sfC 97 base D cA [.ref (base + 70), .ref (base + 1), .int a2] σ (cr_Qi sfC 97 base D cA res) := by
  refine cr_enter [.ref (base + 70), .ref (base + 1), .int a2] [(0, .ref (base + 70)), (1, .ref (base + 1)), (2, .int a2)] (by decide) (Nat.le_of_ble_eq_true rfl) rfl ?_
  intro p e R s m below meth c C hr hR
  exact w_X0_isThroughBut_70_1 C hr hR σ a2 h
noncomputable def f_X10_worth_B100 (r23 : cr_S → Int32 → Int32 → Int32 → Int32 → Option (cr_S × Int32)) (σ : cr_S) (x1 : Int32) (x2 : Int32) (x4 : Int32) (t0 : Int32) (t1 : Int32) : Option (cr_S × Int32) :=
  cr_let (t1 + t0) (fun v10 => cr_let (x4 + 1) (fun v12 => r23 σ x1 x2 v10 v12))
set_option maxRecDepth 100000 in
set_option maxHeartbeats 4000000 in
theorem w_X10_worth_B100 (C : cr_C p l e R s m args below meth c sfC 97 base D cA cX10_worth 6 RX10) (hr : meth.sig.returnType = some .int) (hR : 6 ≤ R.frames ∧ 136 ≤ R.locals) {res : cr_S × Int32} (r23 : cr_S → Int32 → Int32 → Int32 → Int32 → Option (cr_S × Int32)) (hr23 : ∀ (σ : cr_S) (x1 : Int32) (x2 : Int32) (x3 : Int32) (x4 : Int32), r23 σ x1 x2 x3 x4 = some res → cr_W p l e R s m args below meth c sfC 97 base D cA 6 (MQ below (cr_Qi sfC 97 base D cA res) args s 0 0 (cr_A 97 base)) σ 23 [(0, .ref (base + 0)), (1, .int x1), (2, .int x2), (3, .int x3), (4, .int x4)] []) (σ : cr_S) (x1 : Int32) (x2 : Int32) (x4 : Int32) (t0 : Int32) (t1 : Int32) (h : f_X10_worth_B100 r23 σ x1 x2 x4 t0 t1 = some res) : cr_W p l e R s m args below meth c sfC 97 base D cA 6 (MQ below (cr_Qi sfC 97 base D cA res) args s 0 0 (cr_A 97 base)) σ 100 [(0, .ref (base + 0)), (1, .int x1), (2, .int x2), (4, .int x4)] [.int t0, .int t1] := by
  unfold f_X10_worth_B100 at h
  refine g_iadd (pc' := 101) C dX10_worth_100 rfl ?_
  obtain ⟨v10, e11, h⟩ := let_some h
  refine g_nameI e11 ?_
  refine g_istore_n (pc' := 102) (lv' := [(3, .int v10), (0, .ref (base + 0)), (1, .int x1), (2, .int x2), (4, .int x4)]) C dX10_worth_101 rfl (by decide) rfl rfl ?_
  obtain ⟨v12, e13, h⟩ := let_some h
  refine g_iinc (pc' := 105) (v := v12) (lv' := [(4, .int v12), (3, .int v10), (0, .ref (base + 0)), (1, .int x1), (2, .int x2)]) C dX10_worth_102 4 rfl (by rw [e13]; rfl) (by decide) rfl rfl ?_
  refine g_goto (tgt := 23) C dX10_worth_105 (by decide) ?_
  exact g_sub C [2, 3, 4, 1, 0] rfl (hr23 _ _ _ _ _ h)
noncomputable def f_X10_worth_B87 (r23 : cr_S → Int32 → Int32 → Int32 → Int32 → Option (cr_S × Int32)) (σ : cr_S) (x1 : Int32) (x2 : Int32) (x3 : Int32) (x4 : Int32) (t0 : Int32) : Option (cr_S × Int32) :=
  f_X10_worth_B100 r23 σ x1 x2 x4 (if t0 = 0 then 0 else 1) x3
set_option maxRecDepth 100000 in
set_option maxHeartbeats 4000000 in
theorem w_X10_worth_B87 (C : cr_C p l e R s m args below meth c sfC 97 base D cA cX10_worth 6 RX10) (hr : meth.sig.returnType = some .int) (hR : 6 ≤ R.frames ∧ 136 ≤ R.locals) {res : cr_S × Int32} (r23 : cr_S → Int32 → Int32 → Int32 → Int32 → Option (cr_S × Int32)) (hr23 : ∀ (σ : cr_S) (x1 : Int32) (x2 : Int32) (x3 : Int32) (x4 : Int32), r23 σ x1 x2 x3 x4 = some res → cr_W p l e R s m args below meth c sfC 97 base D cA 6 (MQ below (cr_Qi sfC 97 base D cA res) args s 0 0 (cr_A 97 base)) σ 23 [(0, .ref (base + 0)), (1, .int x1), (2, .int x2), (3, .int x3), (4, .int x4)] []) (σ : cr_S) (x1 : Int32) (x2 : Int32) (x3 : Int32) (x4 : Int32) (t0 : Int32) (h : f_X10_worth_B87 r23 σ x1 x2 x3 x4 t0 = some res) : cr_W p l e R s m args below meth c sfC 97 base D cA 6 (MQ below (cr_Qi sfC 97 base D cA res) args s 0 0 (cr_A 97 base)) σ 87 [(0, .ref (base + 0)), (1, .int x1), (2, .int x2), (3, .int x3), (4, .int x4)] [.int t0] := by
  unfold f_X10_worth_B87 at h
  refine g_istore (pc' := 89) (lv' := [(5, .int t0), (0, .ref (base + 0)), (1, .int x1), (2, .int x2), (3, .int x3), (4, .int x4)]) C dX10_worth_87 (by decide) rfl rfl ?_
  refine g_iload_n (pc' := 90) C dX10_worth_89 4 rfl rfl ?_
  refine g_iload (pc' := 92) C dX10_worth_90 0 rfl rfl ?_
  refine g_iteI (σ := σ) (pj := 100) (lv := [(5, .int t0), (0, .ref (base + 0)), (1, .int x1), (2, .int x2), (3, .int x3), (4, .int x4)]) (st := [.int x3]) (cd := t0 = 0) (a := 0) (b := 1) C ?_ (fun kt kf => ?_)
  · exact g_sub C [1, 2, 3, 5] rfl (w_X10_worth_B100 C hr hR r23 hr23 _ _ _ _ _ _ h)
  · refine g_if_eq (pc' := 95) (tgt := 99) C dX10_worth_92 (by decide) rfl (fun hc => ?_) (fun hc => ?_)
    · refine g_iconst (pc' := 100) (v := 0) C dX10_worth_99 (by decide) rfl ?_
      exact kt hc
    · refine g_iconst (pc' := 96) (v := 1) C dX10_worth_95 (by decide) rfl ?_
      refine g_goto (tgt := 100) C dX10_worth_96 (by decide) ?_
      exact kf hc
noncomputable def f_X10_worth_B86 (r23 : cr_S → Int32 → Int32 → Int32 → Int32 → Option (cr_S × Int32)) (σ : cr_S) (x1 : Int32) (x2 : Int32) (x3 : Int32) (x4 : Int32) : Option (cr_S × Int32) :=
  f_X10_worth_B87 r23 σ x1 x2 x3 x4 0
set_option maxRecDepth 100000 in
set_option maxHeartbeats 4000000 in
theorem w_X10_worth_B86 (C : cr_C p l e R s m args below meth c sfC 97 base D cA cX10_worth 6 RX10) (hr : meth.sig.returnType = some .int) (hR : 6 ≤ R.frames ∧ 136 ≤ R.locals) {res : cr_S × Int32} (r23 : cr_S → Int32 → Int32 → Int32 → Int32 → Option (cr_S × Int32)) (hr23 : ∀ (σ : cr_S) (x1 : Int32) (x2 : Int32) (x3 : Int32) (x4 : Int32), r23 σ x1 x2 x3 x4 = some res → cr_W p l e R s m args below meth c sfC 97 base D cA 6 (MQ below (cr_Qi sfC 97 base D cA res) args s 0 0 (cr_A 97 base)) σ 23 [(0, .ref (base + 0)), (1, .int x1), (2, .int x2), (3, .int x3), (4, .int x4)] []) (σ : cr_S) (x1 : Int32) (x2 : Int32) (x3 : Int32) (x4 : Int32) (h : f_X10_worth_B86 r23 σ x1 x2 x3 x4 = some res) : cr_W p l e R s m args below meth c sfC 97 base D cA 6 (MQ below (cr_Qi sfC 97 base D cA res) args s 0 0 (cr_A 97 base)) σ 86 [(0, .ref (base + 0)), (1, .int x1), (2, .int x2), (3, .int x3), (4, .int x4)] [] := by
  unfold f_X10_worth_B86 at h
  refine g_iconst (pc' := 87) (v := 0) C dX10_worth_86 (by decide) rfl ?_
  exact g_sub C [0, 1, 2, 3, 4] rfl (w_X10_worth_B87 C hr hR r23 hr23 _ _ _ _ _ _ h)
noncomputable def f_X10_worth_L23  : Nat → cr_S → Int32 → Int32 → Int32 → Int32 → Option (cr_S × Int32)
  | 0, _, _, _, _, _ => none
  | n + 1, σ, x1, x2, x3, x4 =>
    (if 60 ≤ x4 then some (σ, x3) else chk (inb x1 5) (Option.bind (f_X0_planFull_70_1 σ (15 + x1.toNatClampNeg) x4) (fun q6 => Option.bind (f_X0_isThroughBut_70_1 q6 x2) (fun q8 => (if q8.2 = 0 then f_X10_worth_B86 (f_X10_worth_L23 n) q8.1 x1 x2 x3 x4 else Option.bind (f_X0_isThrough_70_1 q8.1 x2) (fun q14 => (if q14.2 = 0 then f_X10_worth_B87 (f_X10_worth_L23 n) q14.1 x1 x2 x3 x4 1 else f_X10_worth_B86 (f_X10_worth_L23 n) q14.1 x1 x2 x3 x4)))))))
set_option maxRecDepth 100000 in
set_option maxHeartbeats 4000000 in
theorem w_X10_worth_L23 (C : cr_C p l e R s m args below meth c sfC 97 base D cA cX10_worth 6 RX10) (hr : meth.sig.returnType = some .int) (hR : 6 ≤ R.frames ∧ 136 ≤ R.locals) {res : cr_S × Int32}  : ∀ (n : Nat) (σ : cr_S) (x1 : Int32) (x2 : Int32) (x3 : Int32) (x4 : Int32), f_X10_worth_L23 n σ x1 x2 x3 x4 = some res → cr_W p l e R s m args below meth c sfC 97 base D cA 6 (MQ below (cr_Qi sfC 97 base D cA res) args s 0 0 (cr_A 97 base)) σ 23 [(0, .ref (base + 0)), (1, .int x1), (2, .int x2), (3, .int x3), (4, .int x4)] [] := by
  intro n
  induction n with
  | zero =>
    intro σ x1 x2 x3 x4 h
    cases h
  | succ n ih =>
    intro σ x1 x2 x3 x4 h
    rw [f_X10_worth_L23] at h
    refine g_iload (pc' := 25) C dX10_worth_23 4 rfl rfl ?_
    refine g_bipush (pc' := 27) (v := 60) C dX10_worth_25 (by decide) rfl ?_
    refine g_icmp_ge (pc' := 30) (tgt := 108) C dX10_worth_27 (by decide) rfl (fun hc => ?_) (fun hc => ?_)
    · rw [if_pos hc] at h
      refine g_iload_n (pc' := 109) C dX10_worth_108 3 rfl rfl ?_
      exact g_iret C hr dX10_worth_109 h
    · rw [if_neg hc] at h
      refine g_aload_n (pc' := 31) C dX10_worth_30 0 rfl rfl ?_
      refine gg_X10_29 (pc' := 34) (o := 0) (r := 70) C rfl rfl dX10_worth_31 rfl ?_
      refine g_aload_n (pc' := 35) C dX10_worth_34 0 rfl rfl ?_
      refine gg_X10_12 (pc' := 38) (o := 0) (r := 1) C rfl rfl dX10_worth_35 rfl ?_
      refine g_aload_n (pc' := 39) C dX10_worth_38 0 rfl rfl ?_
      refine gg_X10_12 (pc' := 42) (o := 0) (r := 1) C rfl rfl dX10_worth_39 rfl ?_
      refine gg_X10_85 (pc' := 45) (o := 1) (r := 3) C rfl rfl dX10_worth_42 rfl ?_
      refine g_iload_n (pc' := 46) C dX10_worth_45 1 rfl rfl ?_
      obtain ⟨h5, h⟩ := chk_some h
      refine g_aald (pc' := 47) C (o := 3) (by decide) rfl (cn := "ClashRocks$Ship") rfl (inb_d h5) dX10_worth_46 rfl ?_
      refine g_iload (pc' := 49) C dX10_worth_47 4 rfl rfl ?_
      obtain ⟨q6, h7, h⟩ := bind_some h
      refine g_callVv (pc' := 52) (res := q6) C [.ref (base + 1), .ref (base + (15 + x1.toNatClampNeg)), .int x4] cY_X0_planFull rfl (o := 70) (by decide) rfl mv_X0_planFull mm_X10_232 ⟨Nat.le_trans (by decide) hR.1, Nat.le_trans (by decide) hR.2⟩ rfl (Nat.le_of_ble_eq_true rfl) rfl dX10_worth_49 (c_X0_planFull_70_1 l base D cA σ (15 + x1.toNatClampNeg) x4 q6 h7) rfl ?_
      refine g_aload_n (pc' := 53) C dX10_worth_52 0 rfl rfl ?_
      refine gg_X10_29 (pc' := 56) (o := 0) (r := 70) C rfl rfl dX10_worth_53 rfl ?_
      refine g_aload_n (pc' := 57) C dX10_worth_56 0 rfl rfl ?_
      refine gg_X10_12 (pc' := 60) (o := 0) (r := 1) C rfl rfl dX10_worth_57 rfl ?_
      refine g_iload_n (pc' := 61) C dX10_worth_60 2 rfl rfl ?_
      obtain ⟨q8, h9, h⟩ := bind_some h
      refine g_callVi (pc' := 64) (res := q8) C [.ref (base + 1), .int x2] cY_X0_isThroughBut rfl (o := 70) (by decide) rfl mv_X0_isThroughBut mm_X10_256 ⟨Nat.le_trans (by decide) hR.1, Nat.le_trans (by decide) hR.2⟩ rfl (Nat.le_of_ble_eq_true rfl) rfl dX10_worth_61 (c_X0_isThroughBut_70_1 l base D cA q6 x2 q8 h9) rfl ?_
      refine g_if_eq (pc' := 67) (tgt := 86) C dX10_worth_64 (by decide) rfl (fun hc => ?_) (fun hc => ?_)
      · rw [if_pos hc] at h
        exact g_sub C [0, 1, 2, 3, 4] rfl (w_X10_worth_B86 C hr hR (f_X10_worth_L23 n) ih _ _ _ _ _ h)
      · rw [if_neg hc] at h
        refine g_aload_n (pc' := 68) C dX10_worth_67 0 rfl rfl ?_
        refine gg_X10_29 (pc' := 71) (o := 0) (r := 70) C rfl rfl dX10_worth_68 rfl ?_
        refine g_aload_n (pc' := 72) C dX10_worth_71 0 rfl rfl ?_
        refine gg_X10_12 (pc' := 75) (o := 0) (r := 1) C rfl rfl dX10_worth_72 rfl ?_
        refine g_iload_n (pc' := 76) C dX10_worth_75 2 rfl rfl ?_
        obtain ⟨q14, h15, h⟩ := bind_some h
        refine g_callVi (pc' := 79) (res := q14) C [.ref (base + 1), .int x2] cY_X0_isThrough rfl (o := 70) (by decide) rfl mv_X0_isThrough mm_X10_260 ⟨Nat.le_trans (by decide) hR.1, Nat.le_trans (by decide) hR.2⟩ rfl (Nat.le_of_ble_eq_true rfl) rfl dX10_worth_76 (c_X0_isThrough_70_1 l base D cA q8.1 x2 q14 h15) rfl ?_
        refine g_if_ne (pc' := 82) (tgt := 86) C dX10_worth_79 (by decide) rfl (fun hc => ?_) (fun hc => ?_)
        · rw [if_neg hc] at h
          exact g_sub C [0, 1, 2, 3, 4] rfl (w_X10_worth_B86 C hr hR (f_X10_worth_L23 n) ih _ _ _ _ _ h)
        · rw [if_pos hc] at h
          refine g_iconst (pc' := 83) (v := 1) C dX10_worth_82 (by decide) rfl ?_
          refine g_goto (tgt := 87) C dX10_worth_83 (by decide) ?_
          exact g_sub C [0, 1, 2, 3, 4] rfl (w_X10_worth_B87 C hr hR (f_X10_worth_L23 n) ih _ _ _ _ _ _ h)
noncomputable def f_X10_worth (σ : cr_S) (a1 : Int32) (a2 : Int32) : Option (cr_S × Int32) :=
  Option.bind (f_X10_isShip σ a1) (fun q1 => (if q1.2 = 0 then some (q1.1, (-1)) else Option.bind (f_X10_isPair q1.1 a2) (fun q3 => (if q3.2 = 0 then some (q3.1, (-1)) else f_X10_worth_L23 cr_fuel q3.1 a1 a2 0 0))))
set_option maxRecDepth 100000 in
set_option maxHeartbeats 4000000 in
theorem w_X10_worth (C : cr_C p l e R s m args below meth c sfC 97 base D cA cX10_worth 6 RX10) (hr : meth.sig.returnType = some .int) (hR : 6 ≤ R.frames ∧ 136 ≤ R.locals) {res : cr_S × Int32} (σ : cr_S) (a1 : Int32) (a2 : Int32) (h : f_X10_worth σ a1 a2 = some res) : cr_W p l e R s m args below meth c sfC 97 base D cA 6 (MQ below (cr_Qi sfC 97 base D cA res) args s 0 0 (cr_A 97 base)) σ 0 [(0, .ref (base + 0)), (1, .int a1), (2, .int a2)] [] := by
  unfold f_X10_worth at h
  refine g_aload_n (pc' := 1) C dX10_worth_0 0 rfl rfl ?_
  refine g_iload_n (pc' := 2) C dX10_worth_1 1 rfl rfl ?_
  obtain ⟨q1, h2, h⟩ := bind_some h
  refine g_callVi (pc' := 5) (res := q1) C [.int a1] cY_X10_isShip rfl (o := 0) (by decide) rfl mv_X10_isShip mm_X10_103 ⟨Nat.le_trans (by decide) hR.1, Nat.le_trans (by decide) hR.2⟩ rfl (Nat.le_of_ble_eq_true rfl) rfl dX10_worth_2 (c_X10_isShip l base D cA σ a1 q1 h2) rfl ?_
  refine g_if_eq (pc' := 8) (tgt := 16) C dX10_worth_5 (by decide) rfl (fun hc => ?_) (fun hc => ?_)
  · rw [if_pos hc] at h
    refine g_iconst (pc' := 17) (v := (-1)) C dX10_worth_16 (by decide) rfl ?_
    exact g_iret C hr dX10_worth_17 h
  · rw [if_neg hc] at h
    refine g_aload_n (pc' := 9) C dX10_worth_8 0 rfl rfl ?_
    refine g_iload_n (pc' := 10) C dX10_worth_9 2 rfl rfl ?_
    obtain ⟨q3, h4, h⟩ := bind_some h
    refine g_callVi (pc' := 13) (res := q3) C [.int a2] cY_X10_isPair rfl (o := 0) (by decide) rfl mv_X10_isPair mm_X10_72 ⟨Nat.le_trans (by decide) hR.1, Nat.le_trans (by decide) hR.2⟩ rfl (Nat.le_of_ble_eq_true rfl) rfl dX10_worth_10 (c_X10_isPair l base D cA q1.1 a2 q3 h4) rfl ?_
    refine g_if_ne (pc' := 16) (tgt := 18) C dX10_worth_13 (by decide) rfl (fun hc => ?_) (fun hc => ?_)
    · rw [if_neg hc] at h
      refine g_iconst (pc' := 19) (v := 0) C dX10_worth_18 (by decide) rfl ?_
      refine g_istore_n (pc' := 20) (lv' := [(3, .int 0), (0, .ref (base + 0)), (1, .int a1), (2, .int a2)]) C dX10_worth_19 rfl (by decide) rfl rfl ?_
      refine g_iconst (pc' := 21) (v := 0) C dX10_worth_20 (by decide) rfl ?_
      refine g_istore (pc' := 23) (lv' := [(4, .int 0), (3, .int 0), (0, .ref (base + 0)), (1, .int a1), (2, .int a2)]) C dX10_worth_21 (by decide) rfl rfl ?_
      exact g_sub C [2, 3, 4, 1, 0] rfl (w_X10_worth_L23 C hr hR _ _ _ _ _ _ h)
    · rw [if_pos hc] at h
      refine g_iconst (pc' := 17) (v := (-1)) C dX10_worth_16 (by decide) rfl ?_
      exact g_iret C hr dX10_worth_17 h
theorem c_X10_worth (l : Launch) (base : Nat) (D : va_G) (cA : Nat → ClassId) (σ : cr_S) (a1 : Int32) (a2 : Int32) (res : cr_S × Int32) (h : f_X10_worth σ a1 a2 = some res) : cr_M l yX10_worth cX10_worth 6 (some .int) 6 136 sfC 97 base D cA [.ref (base + 0), .int a1, .int a2] σ (cr_Qi sfC 97 base D cA res) := by
  refine cr_enter [.ref (base + 0), .int a1, .int a2] [(0, .ref (base + 0)), (1, .int a1), (2, .int a2)] (by decide) (Nat.le_of_ble_eq_true rfl) rfl ?_
  intro p e R s m below meth c C hr hR
  exact w_X10_worth C hr hR σ a1 a2 h
noncomputable def f_X2_add_6 (σ : cr_S) (a1 : Int32) (a2 : Int32) : Option (cr_S × Int32) :=
  (if (rF σ 6 2) < 12 then chk (inb (rF σ 6 2) 12) (cr_let (sA σ 7 (rF σ 6 2) a1) (fun s2 => chk (inb (rF s2 6 2) 12) (cr_let (sA s2 8 (rF s2 6 2) a2) (fun s5 => cr_let (sF s5 6 2 ((rF s5 6 2) + 1)) (fun s7 => some (s7, 1)))))) else some (σ, 0))
set_option maxRecDepth 100000 in
set_option maxHeartbeats 4000000 in
theorem w_X2_add_6 (C : cr_C p l e R s m args below meth c sfC 97 base D cA cX2_add 3 RX2) (hr : meth.sig.returnType = some .boolean) (hR : 0 ≤ R.frames ∧ 0 ≤ R.locals) {res : cr_S × Int32} (σ : cr_S) (a1 : Int32) (a2 : Int32) (h : f_X2_add_6 σ a1 a2 = some res) : cr_W p l e R s m args below meth c sfC 97 base D cA 3 (MQ below (cr_Qi sfC 97 base D cA res) args s 0 0 (cr_A 97 base)) σ 0 [(0, .ref (base + 6)), (1, .int a1), (2, .int a2)] [] := by
  unfold f_X2_add_6 at h
  refine g_aload_n (pc' := 1) C dX2_add_0 0 rfl rfl ?_
  refine gg_X2_18 (pc' := 4) (o := 6) C rfl dX2_add_1 rfl ?_
  refine g_bipush (pc' := 6) (v := 12) C dX2_add_4 (by decide) rfl ?_
  refine g_icmp_lt (pc' := 9) (tgt := 11) C dX2_add_6 (by decide) rfl (fun hc => ?_) (fun hc => ?_)
  · rw [if_pos hc] at h
    refine g_aload_n (pc' := 12) C dX2_add_11 0 rfl rfl ?_
    refine gg_X2_9 (pc' := 15) (o := 6) (r := 7) C rfl rfl dX2_add_12 rfl ?_
    refine g_aload_n (pc' := 16) C dX2_add_15 0 rfl rfl ?_
    refine gg_X2_18 (pc' := 19) (o := 6) C rfl dX2_add_16 rfl ?_
    refine g_iload_n (pc' := 20) C dX2_add_19 1 rfl rfl ?_
    obtain ⟨h1, h⟩ := chk_some h
    obtain ⟨s2, e3, h⟩ := let_some h
    refine g_iast (pc' := 21) C (o := 7) (by decide) rfl (inb_d h1) dX2_add_20 rfl e3 ?_
    refine g_aload_n (pc' := 22) C dX2_add_21 0 rfl rfl ?_
    refine gg_X2_15 (pc' := 25) (o := 6) (r := 8) C rfl rfl dX2_add_22 rfl ?_
    refine g_aload_n (pc' := 26) C dX2_add_25 0 rfl rfl ?_
    refine gg_X2_18 (pc' := 29) (o := 6) C rfl dX2_add_26 rfl ?_
    refine g_iload_n (pc' := 30) C dX2_add_29 2 rfl rfl ?_
    obtain ⟨h4, h⟩ := chk_some h
    obtain ⟨s5, e6, h⟩ := let_some h
    refine g_iast (pc' := 31) C (o := 8) (by decide) rfl (inb_d h4) dX2_add_30 rfl e6 ?_
    refine g_aload_n (pc' := 32) C dX2_add_31 0 rfl rfl ?_
    refine g_dup (pc' := 33) C dX2_add_32 rfl rfl ?_
    refine gg_X2_18 (pc' := 36) (o := 6) C rfl dX2_add_33 rfl ?_
    refine g_iconst (pc' := 37) (v := 1) C dX2_add_36 (by decide) rfl ?_
    refine g_iadd (pc' := 38) C dX2_add_37 rfl ?_
    obtain ⟨s7, e8, h⟩ := let_some h
    refine gp_X2_18 (pc' := 41) (o := 6) C rfl dX2_add_38 rfl e8 ?_
    refine g_iconst (pc' := 42) (v := 1) C dX2_add_41 (by decide) rfl ?_
    exact g_zret C hr rfl dX2_add_42 h
  · rw [if_neg hc] at h
    refine g_iconst (pc' := 10) (v := 0) C dX2_add_9 (by decide) rfl ?_
    exact g_zret C hr rfl dX2_add_10 h
theorem c_X2_add_6 (l : Launch) (base : Nat) (D : va_G) (cA : Nat → ClassId) (σ : cr_S) (a1 : Int32) (a2 : Int32) (res : cr_S × Int32) (h : f_X2_add_6 σ a1 a2 = some res) : cr_M l yX2_add cX2_add 3 (some .boolean) 0 0 sfC 97 base D cA [.ref (base + 6), .int a1, .int a2] σ (cr_Qi sfC 97 base D cA res) := by
  refine cr_enter [.ref (base + 6), .int a1, .int a2] [(0, .ref (base + 6)), (1, .int a1), (2, .int a2)] (by decide) (Nat.le_of_ble_eq_true rfl) rfl ?_
  intro p e R s m below meth c C hr hR
  exact w_X2_add_6 C hr hR σ a1 a2 h
end

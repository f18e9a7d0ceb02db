section
variable {p : Program} {l : Launch} {e : Env} {R : Room} {s : State} {m : MethodId} {args : Array Value} {below : List Frame} {meth : Method} {c : Code} {base : Nat} {D : va_G} {cA : Nat → ClassId}
noncomputable def f_X11_undo_L22  : Nat → cr_S → Int32 → Option (cr_S × Int32)
  | 0, _, _ => none
  | n + 1, σ, x1 =>
    (if 4 ≤ x1 then some (σ, rF σ 0 20) else chk (inb ((4 * (rF σ 0 20)) + x1) 32) (chk (inb x1 4) (cr_let (sA σ 3 x1 (rA σ 8 ((4 * (rF σ 0 20)) + x1))) (fun s5 => cr_let (x1 + 1) (fun v7 => f_X11_undo_L22 n s5 v7)))))
set_option maxRecDepth 100000 in
set_option maxHeartbeats 4000000 in
theorem w_X11_undo_L22 (C : cr_C p l e R s m args below meth c sfM 17 base D cA cX11_undo 2 RX11) (hr : meth.sig.returnType = some .int) (hR : 0 ≤ R.frames ∧ 0 ≤ R.locals) {res : cr_S × Int32}  : ∀ (n : Nat) (σ : cr_S) (x1 : Int32), f_X11_undo_L22 n σ x1 = some res → cr_W p l e R s m args below meth c sfM 17 base D cA 2 (MQ below (cr_Qi sfM 17 base D cA res) args s 0 0 (cr_A 17 base)) σ 22 [(0, .ref (base + 0)), (1, .int x1)] [] := by
  intro n
  induction n with
  | zero =>
    intro σ x1 h
    cases h
  | succ n ih =>
    intro σ x1 h
    rw [f_X11_undo_L22] at h
    refine g_iload_n (pc' := 23) C dX11_undo_22 1 rfl rfl ?_
    refine g_iconst (pc' := 24) (v := 4) C dX11_undo_23 (by decide) rfl ?_
    refine g_icmp_ge (pc' := 27) (tgt := 52) C dX11_undo_24 (by decide) rfl (fun hc => ?_) (fun hc => ?_)
    · rw [if_pos hc] at h
      refine g_aload_n (pc' := 53) C dX11_undo_52 0 rfl rfl ?_
      refine gg_X11_197 (pc' := 56) C dX11_undo_53 rfl ?_
      exact g_iret C hr dX11_undo_56 h
    · rw [if_neg hc] at h
      refine g_aload_n (pc' := 28) C dX11_undo_27 0 rfl rfl ?_
      refine gg_X11_16 (pc' := 31) C dX11_undo_28 rfl ?_
      refine g_iload_n (pc' := 32) C dX11_undo_31 1 rfl rfl ?_
      refine g_aload_n (pc' := 33) C dX11_undo_32 0 rfl rfl ?_
      refine gg_X11_35 (pc' := 36) C dX11_undo_33 rfl ?_
      refine g_iconst (pc' := 37) (v := 4) C dX11_undo_36 (by decide) rfl ?_
      refine g_aload_n (pc' := 38) C dX11_undo_37 0 rfl rfl ?_
      refine gg_X11_197 (pc' := 41) C dX11_undo_38 rfl ?_
      refine g_imul (pc' := 42) C dX11_undo_41 rfl ?_
      refine g_iload_n (pc' := 43) C dX11_undo_42 1 rfl rfl ?_
      refine g_iadd (pc' := 44) C dX11_undo_43 rfl ?_
      obtain ⟨h3, h⟩ := chk_some h
      refine g_iald (pc' := 45) C (o := 8) (by decide) rfl (inb_d h3) dX11_undo_44 rfl ?_
      obtain ⟨h4, h⟩ := chk_some h
      obtain ⟨s5, e6, h⟩ := let_some h
      refine g_iast (pc' := 46) C (o := 3) (by decide) rfl (inb_d h4) dX11_undo_45 rfl e6 ?_
      obtain ⟨v7, e8, h⟩ := let_some h
      refine g_iinc (pc' := 49) (v := v7) (lv' := [(1, .int v7), (0, .ref (base + 0))]) C dX11_undo_46 1 rfl (by rw [e8]; rfl) (by decide) rfl rfl ?_
      refine g_goto (tgt := 22) C dX11_undo_49 (by decide) ?_
      exact g_sub C [1, 0] rfl (ih _ _ h)
noncomputable def f_X11_undo (σ : cr_S) : Option (cr_S × Int32) :=
  (if (rF σ 0 20) = 0 then some (σ, (-4)) else cr_let (sF σ 0 20 ((rF σ 0 20) - 1)) (fun s1 => f_X11_undo_L22 cr_fuel s1 0))
set_option maxRecDepth 100000 in
set_option maxHeartbeats 4000000 in
theorem w_X11_undo (C : cr_C p l e R s m args below meth c sfM 17 base D cA cX11_undo 2 RX11) (hr : meth.sig.returnType = some .int) (hR : 0 ≤ R.frames ∧ 0 ≤ R.locals) {res : cr_S × Int32} (σ : cr_S) (h : f_X11_undo σ = some res) : cr_W p l e R s m args below meth c sfM 17 base D cA 2 (MQ below (cr_Qi sfM 17 base D cA res) args s 0 0 (cr_A 17 base)) σ 0 [(0, .ref (base + 0))] [] := by
  unfold f_X11_undo at h
  refine g_aload_n (pc' := 1) C dX11_undo_0 0 rfl rfl ?_
  refine gg_X11_197 (pc' := 4) C dX11_undo_1 rfl ?_
  refine g_if_ne (pc' := 7) (tgt := 10) C dX11_undo_4 (by decide) rfl (fun hc => ?_) (fun hc => ?_)
  · rw [if_neg hc] at h
    refine g_aload_n (pc' := 11) C dX11_undo_10 0 rfl rfl ?_
    refine g_dup (pc' := 12) C dX11_undo_11 rfl rfl ?_
    refine gg_X11_197 (pc' := 15) C dX11_undo_12 rfl ?_
    refine g_iconst (pc' := 16) (v := 1) C dX11_undo_15 (by decide) rfl ?_
    refine g_isub (pc' := 17) C dX11_undo_16 rfl ?_
    obtain ⟨s1, e2, h⟩ := let_some h
    refine gp_X11_197 (pc' := 20) C dX11_undo_17 rfl e2 ?_
    refine g_iconst (pc' := 21) (v := 0) C dX11_undo_20 (by decide) rfl ?_
    refine g_istore_n (pc' := 22) (lv' := [(1, .int 0), (0, .ref (base + 0))]) C dX11_undo_21 rfl (by decide) rfl rfl ?_
    exact g_sub C [1, 0] rfl (w_X11_undo_L22 C hr hR _ _ _ h)
  · rw [if_pos hc] at h
    refine g_bipush (pc' := 9) (v := (-4)) C dX11_undo_7 (by decide) rfl ?_
    exact g_iret C hr dX11_undo_9 h
theorem c_X11_undo (l : Launch) (base : Nat) (D : va_G) (cA : Nat → ClassId) (σ : cr_S) (res : cr_S × Int32) (h : f_X11_undo σ = some res) : cr_M l yX11_undo cX11_undo 2 (some .int) 0 0 sfM 17 base D cA [.ref (base + 0)] σ (cr_Qi sfM 17 base D cA res) := by
  refine cr_enter [.ref (base + 0)] [(0, .ref (base + 0))] (by decide) (Nat.le_of_ble_eq_true rfl) rfl ?_
  intro p e R s m below meth c C hr hR
  exact w_X11_undo C hr hR σ h
noncomputable def f_X11_seed (σ : cr_S) (a1 : Int32) : Option (cr_S × Int32) :=
  (if 0 ≤ a1 then cr_let (rF σ 0 5) (fun v1 => cr_let (sF σ 0 5 a1) (fun s3 => some (s3, v1))) else some (σ, (-1)))
set_option maxRecDepth 100000 in
set_option maxHeartbeats 4000000 in
theorem w_X11_seed (C : cr_C p l e R s m args below meth c sfM 17 base D cA cX11_seed 3 RX11) (hr : meth.sig.returnType = some .int) (hR : 0 ≤ R.frames ∧ 0 ≤ R.locals) {res : cr_S × Int32} (σ : cr_S) (a1 : Int32) (h : f_X11_seed σ a1 = some res) : cr_W p l e R s m args below meth c sfM 17 base D cA 3 (MQ below (cr_Qi sfM 17 base D cA res) args s 0 0 (cr_A 17 base)) σ 0 [(0, .ref (base + 0)), (1, .int a1)] [] := by
  unfold f_X11_seed at h
  refine g_iload_n (pc' := 1) C dX11_seed_0 1 rfl rfl ?_
  refine g_if_ge (pc' := 4) (tgt := 6) C dX11_seed_1 (by decide) rfl (fun hc => ?_) (fun hc => ?_)
  · rw [if_pos hc] at h
    refine g_aload_n (pc' := 7) C dX11_seed_6 0 rfl rfl ?_
    refine gg_X11_19 (pc' := 10) C dX11_seed_7 rfl ?_
    obtain ⟨v1, e2, h⟩ := let_some h
    refine g_nameI e2 ?_
    refine g_istore_n (pc' := 11) (lv' := [(2, .int v1), (0, .ref (base + 0)), (1, .int a1)]) C dX11_seed_10 rfl (by decide) rfl rfl ?_
    refine g_aload_n (pc' := 12) C dX11_seed_11 1 rfl rfl ?_
    refine g_iload_n (pc' := 13) C dX11_seed_12 2 rfl rfl ?_
    obtain ⟨s3, e4, h⟩ := let_some h
    refine gp_X11_19 (pc' := 16) C dX11_seed_13 rfl e4 ?_
    refine g_iload_n (pc' := 17) C dX11_seed_16 0 rfl rfl ?_
    exact g_iret C hr dX11_seed_17 h
  · rw [if_neg hc] at h
    refine g_iconst (pc' := 5) (v := (-1)) C dX11_seed_4 (by decide) rfl ?_
    exact g_iret C hr dX11_seed_5 h
theorem c_X11_seed (l : Launch) (base : Nat) (D : va_G) (cA : Nat → ClassId) (σ : cr_S) (a1 : Int32) (res : cr_S × Int32) (h : f_X11_seed σ a1 = some res) : cr_M l yX11_seed cX11_seed 3 (some .int) 0 0 sfM 17 base D cA [.ref (base + 0), .int a1] σ (cr_Qi sfM 17 base D cA res) := by
  refine cr_enter [.ref (base + 0), .int a1] [(0, .ref (base + 0)), (1, .int a1)] (by decide) (Nat.le_of_ble_eq_true rfl) rfl ?_
  intro p e R s m below meth c C hr hR
  exact w_X11_seed C hr hR σ a1 h
noncomputable def f_X11_lots_B93 (r27 : cr_S → Int32 → Int32 → Int32 → Int32 → Option (cr_S × Int32)) (σ : cr_S) (x1 : Int32) (x2 : Int32) (x4 : Int32) (t0 : Int32) (t1 : Int32) : Option (cr_S × Int32) :=
  cr_let (t1 + t0) (fun v9 => cr_let (x4 + 1) (fun v11 => r27 σ x1 x2 v9 v11))
set_option maxRecDepth 100000 in
set_option maxHeartbeats 4000000 in
theorem w_X11_lots_B93 (C : cr_C p l e R s m args below meth c sfM 17 base D cA cX11_lots 5 RX11) (hr : meth.sig.returnType = some .int) (hR : 5 ≤ R.frames ∧ 120 ≤ R.locals) {res : cr_S × Int32} (r27 : cr_S → Int32 → Int32 → Int32 → Int32 → Option (cr_S × Int32)) (hr27 : ∀ (σ : cr_S) (x1 : Int32) (x2 : Int32) (x3 : Int32) (x4 : Int32), r27 σ x1 x2 x3 x4 = some res → cr_W p l e R s m args below meth c sfM 17 base D cA 5 (MQ below (cr_Qi sfM 17 base D cA res) args s 0 0 (cr_A 17 base)) σ 27 [(0, .ref (base + 0)), (1, .int x1), (2, .int x2), (3, .int x3), (4, .int x4)] []) (σ : cr_S) (x1 : Int32) (x2 : Int32) (x4 : Int32) (t0 : Int32) (t1 : Int32) (h : f_X11_lots_B93 r27 σ x1 x2 x4 t0 t1 = some res) : cr_W p l e R s m args below meth c sfM 17 base D cA 5 (MQ below (cr_Qi sfM 17 base D cA res) args s 0 0 (cr_A 17 base)) σ 93 [(0, .ref (base + 0)), (1, .int x1), (2, .int x2), (4, .int x4)] [.int t0, .int t1] := by
  unfold f_X11_lots_B93 at h
  refine g_iadd (pc' := 94) C dX11_lots_93 rfl ?_
  obtain ⟨v9, e10, h⟩ := let_some h
  refine g_nameI e10 ?_
  refine g_istore_n (pc' := 95) (lv' := [(3, .int v9), (0, .ref (base + 0)), (1, .int x1), (2, .int x2), (4, .int x4)]) C dX11_lots_94 rfl (by decide) rfl rfl ?_
  obtain ⟨v11, e12, h⟩ := let_some h
  refine g_iinc (pc' := 98) (v := v11) (lv' := [(4, .int v11), (3, .int v9), (0, .ref (base + 0)), (1, .int x1), (2, .int x2)]) C dX11_lots_95 4 rfl (by rw [e12]; rfl) (by decide) rfl rfl ?_
  refine g_goto (tgt := 27) C dX11_lots_98 (by decide) ?_
  exact g_sub C [2, 3, 4, 1, 0] rfl (hr27 _ _ _ _ _ h)
noncomputable def f_X11_lots_L27  : Nat → cr_S → Int32 → Int32 → Int32 → Int32 → Option (cr_S × Int32)
  | 0, _, _, _, _, _ => none
  | n + 1, σ, x1, x2, x3, x4 =>
    (if x2 ≤ x4 then some (σ, x3) else cr_let (sF σ 0 5 ((((rF σ 0 5) * 1103515245) + 12345) &&& 2147483647)) (fun s5 => Option.bind (f_X11_goesFull s5 x1 (((rF s5 0 5) / 65536) - ((rF s5 0 5) / 65536) / 60 * 60)) (fun q7 => (if (rF q7 0 8) = (-4) then (if (rF q7 0 9) = 0 then f_X11_lots_B93 (f_X11_lots_L27 n) q7 x1 x2 x4 1 x3 else f_X11_lots_B93 (f_X11_lots_L27 n) q7 x1 x2 x4 0 x3) else f_X11_lots_B93 (f_X11_lots_L27 n) q7 x1 x2 x4 100 x3))))
set_option maxRecDepth 100000 in
set_option maxHeartbeats 4000000 in
theorem w_X11_lots_L27 (C : cr_C p l e R s m args below meth c sfM 17 base D cA cX11_lots 5 RX11) (hr : meth.sig.returnType = some .int) (hR : 5 ≤ R.frames ∧ 120 ≤ R.locals) {res : cr_S × Int32}  : ∀ (n : Nat) (σ : cr_S) (x1 : Int32) (x2 : Int32) (x3 : Int32) (x4 : Int32), f_X11_lots_L27 n σ x1 x2 x3 x4 = some res → cr_W p l e R s m args below meth c sfM 17 base D cA 5 (MQ below (cr_Qi sfM 17 base D cA res) args s 0 0 (cr_A 17 base)) σ 27 [(0, .ref (base + 0)), (1, .int x1), (2, .int x2), (3, .int x3), (4, .int x4)] [] := by
  intro n
  induction n with
  | zero =>
    intro σ x1 x2 x3 x4 h
    cases h
  | succ n ih =>
    intro σ x1 x2 x3 x4 h
    rw [f_X11_lots_L27] at h
    refine g_iload (pc' := 29) C dX11_lots_27 4 rfl rfl ?_
    refine g_iload_n (pc' := 30) C dX11_lots_29 2 rfl rfl ?_
    refine g_icmp_ge (pc' := 33) (tgt := 101) C dX11_lots_30 (by decide) rfl (fun hc => ?_) (fun hc => ?_)
    · rw [if_pos hc] at h
      refine g_iload_n (pc' := 102) C dX11_lots_101 3 rfl rfl ?_
      exact g_iret C hr dX11_lots_102 h
    · rw [if_neg hc] at h
      refine g_aload_n (pc' := 34) C dX11_lots_33 0 rfl rfl ?_
      refine g_aload_n (pc' := 35) C dX11_lots_34 0 rfl rfl ?_
      refine gg_X11_19 (pc' := 38) C dX11_lots_35 rfl ?_
      refine g_ldc (pc' := 40) (v := 1103515245) C dX11_lots_38 mk_X11_208 rfl ?_
      refine g_imul (pc' := 41) C dX11_lots_40 rfl ?_
      refine g_sipush (pc' := 44) (v := 12345) C dX11_lots_41 (by decide) rfl ?_
      refine g_iadd (pc' := 45) C dX11_lots_44 rfl ?_
      refine g_ldc (pc' := 47) (v := 2147483647) C dX11_lots_45 mk_X11_209 rfl ?_
      refine g_iand (pc' := 48) C dX11_lots_47 rfl ?_
      obtain ⟨s5, e6, h⟩ := let_some h
      refine gp_X11_19 (pc' := 51) C dX11_lots_48 rfl e6 ?_
      refine g_aload_n (pc' := 52) C dX11_lots_51 0 rfl rfl ?_
      refine g_iload_n (pc' := 53) C dX11_lots_52 1 rfl rfl ?_
      refine g_aload_n (pc' := 54) C dX11_lots_53 0 rfl rfl ?_
      refine gg_X11_19 (pc' := 57) C dX11_lots_54 rfl ?_
      refine g_ldc (pc' := 59) (v := 65536) C dX11_lots_57 mk_X11_210 rfl ?_
      refine g_idiv (pc' := 60) C dX11_lots_59 (by decide) rfl ?_
      refine g_bipush (pc' := 62) (v := 60) C dX11_lots_60 (by decide) rfl ?_
      refine g_irem (pc' := 63) C dX11_lots_62 (by decide) rfl ?_
      obtain ⟨q7, h8, h⟩ := bind_some h
      refine g_callVv (pc' := 66) (res := q7) C [.int x1, .int (((rF s5 0 5) / 65536) - ((rF s5 0 5) / 65536) / 60 * 60)] cY_X11_goesFull rfl (o := 0) (by decide) rfl mv_X11_goesFull mm_X11_211 ⟨Nat.le_trans (by decide) hR.1, Nat.le_trans (by decide) hR.2⟩ rfl (Nat.le_of_ble_eq_true rfl) rfl dX11_lots_63 (c_X11_goesFull l base D cA s5 x1 (((rF s5 0 5) / 65536) - ((rF s5 0 5) / 65536) / 60 * 60) q7 h8) rfl ?_
      refine g_iload_n (pc' := 67) C dX11_lots_66 3 rfl rfl ?_
      refine g_aload_n (pc' := 68) C dX11_lots_67 0 rfl rfl ?_
      refine gg_X11_133 (pc' := 71) C dX11_lots_68 rfl ?_
      refine g_bipush (pc' := 73) (v := (-4)) C dX11_lots_71 (by decide) rfl ?_
      refine g_icmp_eq (pc' := 76) (tgt := 81) C dX11_lots_73 (by decide) rfl (fun hc => ?_) (fun hc => ?_)
      · rw [if_pos hc] at h
        refine g_aload_n (pc' := 82) C dX11_lots_81 0 rfl rfl ?_
        refine gg_X11_136 (pc' := 85) C dX11_lots_82 rfl ?_
        refine g_if_ne (pc' := 88) (tgt := 92) C dX11_lots_85 (by decide) rfl (fun hc => ?_) (fun hc => ?_)
        · rw [if_neg hc] at h
          refine g_iconst (pc' := 93) (v := 0) C dX11_lots_92 (by decide) rfl ?_
          exact g_sub C [0, 1, 2, 4] rfl (w_X11_lots_B93 C hr hR (f_X11_lots_L27 n) ih _ _ _ _ _ _ h)
        · rw [if_pos hc] at h
          refine g_iconst (pc' := 89) (v := 1) C dX11_lots_88 (by decide) rfl ?_
          refine g_goto (tgt := 93) C dX11_lots_89 (by decide) ?_
          exact g_sub C [0, 1, 2, 4] rfl (w_X11_lots_B93 C hr hR (f_X11_lots_L27 n) ih _ _ _ _ _ _ h)
      · rw [if_neg hc] at h
        refine g_bipush (pc' := 78) (v := 100) C dX11_lots_76 (by decide) rfl ?_
        refine g_goto (tgt := 93) C dX11_lots_78 (by decide) ?_
        exact g_sub C [0, 1, 2, 4] rfl (w_X11_lots_B93 C hr hR (f_X11_lots_L27 n) ih _ _ _ _ _ _ h)
noncomputable def f_X11_lots (σ : cr_S) (a1 : Int32) (a2 : Int32) : Option (cr_S × Int32) :=
  Option.bind (f_X11_isShip σ a1) (fun q1 => (if q1.2 = 0 then some (q1.1, (-1)) else Option.bind (f_X11_in q1.1 (Int32.toInt64 a2) 1 99) (fun q3 => (if q3.2 = 0 then some (q3.1, (-1)) else f_X11_lots_L27 cr_fuel q3.1 a1 a2 0 0))))
set_option maxRecDepth 100000 in
set_option maxHeartbeats 4000000 in
theorem w_X11_lots (C : cr_C p l e R s m args below meth c sfM 17 base D cA cX11_lots 5 RX11) (hr : meth.sig.returnType = some .int) (hR : 5 ≤ R.frames ∧ 120 ≤ R.locals) {res : cr_S × Int32} (σ : cr_S) (a1 : Int32) (a2 : Int32) (h : f_X11_lots σ a1 a2 = some res) : cr_W p l e R s m args below meth c sfM 17 base D cA 5 (MQ below (cr_Qi sfM 17 base D cA res) args s 0 0 (cr_A 17 base)) σ 0 [(0, .ref (base + 0)), (1, .int a1), (2, .int a2)] [] := by
  unfold f_X11_lots at h
  refine g_aload_n (pc' := 1) C dX11_lots_0 0 rfl rfl ?_
  refine g_iload_n (pc' := 2) C dX11_lots_1 1 rfl rfl ?_
  obtain ⟨q1, h2, h⟩ := bind_some h
  refine g_callVi (pc' := 5) (res := q1) C [.int a1] cY_X11_isShip rfl (o := 0) (by decide) rfl mv_X11_isShip mm_X11_105 ⟨Nat.le_trans (by decide) hR.1, Nat.le_trans (by decide) hR.2⟩ rfl (Nat.le_of_ble_eq_true rfl) rfl dX11_lots_2 (c_X11_isShip l base D cA σ a1 q1 h2) rfl ?_
  refine g_if_eq (pc' := 8) (tgt := 20) C dX11_lots_5 (by decide) rfl (fun hc => ?_) (fun hc => ?_)
  · rw [if_pos hc] at h
    refine g_iconst (pc' := 21) (v := (-1)) C dX11_lots_20 (by decide) rfl ?_
    exact g_iret C hr dX11_lots_21 h
  · rw [if_neg hc] at h
    refine g_iload_n (pc' := 9) C dX11_lots_8 2 rfl rfl ?_
    refine g_i2l (pc' := 10) C dX11_lots_9 rfl ?_
    refine g_lconst (pc' := 11) (v := 1) C dX11_lots_10 (by decide) rfl ?_
    refine g_ldc2 (pc' := 14) (v := 99) C dX11_lots_11 ml_X11_206 rfl ?_
    obtain ⟨q3, h4, h⟩ := bind_some h
    refine g_callSi (pc' := 17) (res := q3) C [.long (Int32.toInt64 a2), .long 1, .long 99] cY_X11_in mv_X11_in mm_X11_66 ⟨Nat.le_trans (by decide) hR.1, Nat.le_trans (by decide) hR.2⟩ rfl (Nat.le_of_ble_eq_true rfl) rfl dX11_lots_14 (c_X11_in l base D cA q1.1 (Int32.toInt64 a2) 1 99 q3 h4) rfl ?_
    refine g_if_ne (pc' := 20) (tgt := 22) C dX11_lots_17 (by decide) rfl (fun hc => ?_) (fun hc => ?_)
    · rw [if_neg hc] at h
      refine g_iconst (pc' := 23) (v := 0) C dX11_lots_22 (by decide) rfl ?_
      refine g_istore_n (pc' := 24) (lv' := [(3, .int 0), (0, .ref (base + 0)), (1, .int a1), (2, .int a2)]) C dX11_lots_23 rfl (by decide) rfl rfl ?_
      refine g_iconst (pc' := 25) (v := 0) C dX11_lots_24 (by decide) rfl ?_
      refine g_istore (pc' := 27) (lv' := [(4, .int 0), (3, .int 0), (0, .ref (base + 0)), (1, .int a1), (2, .int a2)]) C dX11_lots_25 (by decide) rfl rfl ?_
      exact g_sub C [2, 3, 4, 1, 0] rfl (w_X11_lots_L27 C hr hR _ _ _ _ _ _ h)
    · rw [if_pos hc] at h
      refine g_iconst (pc' := 21) (v := (-1)) C dX11_lots_20 (by decide) rfl ?_
      exact g_iret C hr dX11_lots_21 h
theorem c_X11_lots (l : Launch) (base : Nat) (D : va_G) (cA : Nat → ClassId) (σ : cr_S) (a1 : Int32) (a2 : Int32) (res : cr_S × Int32) (h : f_X11_lots σ a1 a2 = some res) : cr_M l yX11_lots cX11_lots 5 (some .int) 5 120 sfM 17 base D cA [.ref (base + 0), .int a1, .int a2] σ (cr_Qi sfM 17 base D cA res) := by
  refine cr_enter [.ref (base + 0), .int a1, .int a2] [(0, .ref (base + 0)), (1, .int a1), (2, .int a2)] (by decide) (Nat.le_of_ble_eq_true rfl) rfl ?_
  intro p e R s m below meth c C hr hR
  exact w_X11_lots C hr hR σ a1 a2 h
noncomputable def f_X11_endOf (σ : cr_S) (a1 : Int32) (a2 : Int32) : Option (cr_S × Int32) :=
  chk (inb ((400 * a1) + a2) 2800) (some (σ, rA σ 9 ((400 * a1) + a2)))
set_option maxRecDepth 100000 in
set_option maxHeartbeats 4000000 in
theorem w_X11_endOf (C : cr_C p l e R s m args below meth c sfM 17 base D cA cX11_endOf 3 RX11) (hr : meth.sig.returnType = some .int) (hR : 0 ≤ R.frames ∧ 0 ≤ R.locals) {res : cr_S × Int32} (σ : cr_S) (a1 : Int32) (a2 : Int32) (h : f_X11_endOf σ a1 a2 = some res) : cr_W p l e R s m args below meth c sfM 17 base D cA 3 (MQ below (cr_Qi sfM 17 base D cA res) args s 0 0 (cr_A 17 base)) σ 0 [(0, .ref (base + 0)), (1, .int a1), (2, .int a2)] [] := by
  unfold f_X11_endOf at h
  refine g_aload_n (pc' := 1) C dX11_endOf_0 0 rfl rfl ?_
  refine gg_X11_38 (pc' := 4) C dX11_endOf_1 rfl ?_
  refine g_sipush (pc' := 7) (v := 400) C dX11_endOf_4 (by decide) rfl ?_
  refine g_iload_n (pc' := 8) C dX11_endOf_7 1 rfl rfl ?_
  refine g_imul (pc' := 9) C dX11_endOf_8 rfl ?_
  refine g_iload_n (pc' := 10) C dX11_endOf_9 2 rfl rfl ?_
  refine g_iadd (pc' := 11) C dX11_endOf_10 rfl ?_
  obtain ⟨h1, h⟩ := chk_some h
  refine g_iald (pc' := 12) C (o := 9) (by decide) rfl (inb_d h1) dX11_endOf_11 rfl ?_
  exact g_iret C hr dX11_endOf_12 h
theorem c_X11_endOf (l : Launch) (base : Nat) (D : va_G) (cA : Nat → ClassId) (σ : cr_S) (a1 : Int32) (a2 : Int32) (res : cr_S × Int32) (h : f_X11_endOf σ a1 a2 = some res) : cr_M l yX11_endOf cX11_endOf 3 (some .int) 0 0 sfM 17 base D cA [.ref (base + 0), .int a1, .int a2] σ (cr_Qi sfM 17 base D cA res) := by
  refine cr_enter [.ref (base + 0), .int a1, .int a2] [(0, .ref (base + 0)), (1, .int a1), (2, .int a2)] (by decide) (Nat.le_of_ble_eq_true rfl) rfl ?_
  intro p e R s m below meth c C hr hR
  exact w_X11_endOf C hr hR σ a1 a2 h
noncomputable def f_X11_by (σ : cr_S) (a1 : Int32) (a2 : Int32) (a3 : Int32) (a4 : Int32) (a5 : Int32) : Option (cr_S × Int32) :=
  chk (inb ((5 * a2) + 4) 30) (Option.bind (f_X11_passes σ a1 a2 (rA σ 1 ((5 * a2) + 4)) (a3 + a4) a5) (fun q2 => (if (rF q2 0 6) = 0 then Option.bind (f_X11_endOf q2 (a2 + 1) ((rF q2 0 7) - a3)) (fun q4 => some (q4.1, q4.2)) else some (q2, 999999))))
set_option maxRecDepth 100000 in
set_option maxHeartbeats 4000000 in
theorem w_X11_by (C : cr_C p l e R s m args below meth c sfM 17 base D cA cX11_by 6 RX11) (hr : meth.sig.returnType = some .int) (hR : 3 ≤ R.frames ∧ 74 ≤ R.locals) {res : cr_S × Int32} (σ : cr_S) (a1 : Int32) (a2 : Int32) (a3 : Int32) (a4 : Int32) (a5 : Int32) (h : f_X11_by σ a1 a2 a3 a4 a5 = some res) : cr_W p l e R s m args below meth c sfM 17 base D cA 6 (MQ below (cr_Qi sfM 17 base D cA res) args s 0 0 (cr_A 17 base)) σ 0 [(0, .ref (base + 0)), (1, .int a1), (2, .int a2), (3, .int a3), (4, .int a4), (5, .int a5)] [] := by
  unfold f_X11_by at h
  refine g_aload_n (pc' := 1) C dX11_by_0 0 rfl rfl ?_
  refine g_iload_n (pc' := 2) C dX11_by_1 1 rfl rfl ?_
  refine g_iload_n (pc' := 3) C dX11_by_2 2 rfl rfl ?_
  refine g_aload_n (pc' := 4) C dX11_by_3 0 rfl rfl ?_
  refine gg_X11_7 (pc' := 7) C dX11_by_4 rfl ?_
  refine g_iconst (pc' := 8) (v := 5) C dX11_by_7 (by decide) rfl ?_
  refine g_iload_n (pc' := 9) C dX11_by_8 2 rfl rfl ?_
  refine g_imul (pc' := 10) C dX11_by_9 rfl ?_
  refine g_iconst (pc' := 11) (v := 4) C dX11_by_10 (by decide) rfl ?_
  refine g_iadd (pc' := 12) C dX11_by_11 rfl ?_
  obtain ⟨h1, h⟩ := chk_some h
  refine g_iald (pc' := 13) C (o := 1) (by decide) rfl (inb_d h1) dX11_by_12 rfl ?_
  refine g_iload_n (pc' := 14) C dX11_by_13 3 rfl rfl ?_
  refine g_iload (pc' := 16) C dX11_by_14 4 rfl rfl ?_
  refine g_iadd (pc' := 17) C dX11_by_16 rfl ?_
  refine g_iload (pc' := 19) C dX11_by_17 5 rfl rfl ?_
  obtain ⟨q2, h3, h⟩ := bind_some h
  refine g_callVv (pc' := 22) (res := q2) C [.int a1, .int a2, .int (rA σ 1 ((5 * a2) + 4)), .int (a3 + a4), .int a5] cY_X11_passes rfl (o := 0) (by decide) rfl mv_X11_passes mm_X11_139 ⟨Nat.le_trans (by decide) hR.1, Nat.le_trans (by decide) hR.2⟩ rfl (Nat.le_of_ble_eq_true rfl) rfl dX11_by_19 (c_X11_passes l base D cA σ a1 a2 (rA σ 1 ((5 * a2) + 4)) (a3 + a4) a5 q2 h3) rfl ?_
  refine g_aload_n (pc' := 23) C dX11_by_22 0 rfl rfl ?_
  refine gg_X11_127 (pc' := 26) C dX11_by_23 rfl ?_
  refine g_if_ne (pc' := 29) (tgt := 45) C dX11_by_26 (by decide) rfl (fun hc => ?_) (fun hc => ?_)
  · rw [if_neg hc] at h
    refine g_ldc (pc' := 47) (v := 999999) C dX11_by_45 mk_X11_214 rfl ?_
    exact g_iret C hr dX11_by_47 h
  · rw [if_pos hc] at h
    refine g_aload_n (pc' := 30) C dX11_by_29 0 rfl rfl ?_
    refine g_iload_n (pc' := 31) C dX11_by_30 2 rfl rfl ?_
    refine g_iconst (pc' := 32) (v := 1) C dX11_by_31 (by decide) rfl ?_
    refine g_iadd (pc' := 33) C dX11_by_32 rfl ?_
    refine g_aload_n (pc' := 34) C dX11_by_33 0 rfl rfl ?_
    refine gg_X11_130 (pc' := 37) C dX11_by_34 rfl ?_
    refine g_iload_n (pc' := 38) C dX11_by_37 3 rfl rfl ?_
    refine g_isub (pc' := 39) C dX11_by_38 rfl ?_
    obtain ⟨q4, h5, h⟩ := bind_some h
    refine g_callVi (pc' := 42) (res := q4) C [.int (a2 + 1), .int ((rF q2 0 7) - a3)] cY_X11_endOf rfl (o := 0) (by decide) rfl mv_X11_endOf mm_X11_219 ⟨Nat.le_trans (by decide) hR.1, Nat.le_trans (by decide) hR.2⟩ rfl (Nat.le_of_ble_eq_true rfl) rfl dX11_by_39 (c_X11_endOf l base D cA q2 (a2 + 1) ((rF q2 0 7) - a3) q4 h5) rfl ?_
    refine g_goto (tgt := 47) C dX11_by_42 (by decide) ?_
    exact g_iret C hr dX11_by_47 h
theorem c_X11_by (l : Launch) (base : Nat) (D : va_G) (cA : Nat → ClassId) (σ : cr_S) (a1 : Int32) (a2 : Int32) (a3 : Int32) (a4 : Int32) (a5 : Int32) (res : cr_S × Int32) (h : f_X11_by σ a1 a2 a3 a4 a5 = some res) : cr_M l yX11_by cX11_by 6 (some .int) 3 74 sfM 17 base D cA [.ref (base + 0), .int a1, .int a2, .int a3, .int a4, .int a5] σ (cr_Qi sfM 17 base D cA res) := by
  refine cr_enter [.ref (base + 0), .int a1, .int a2, .int a3, .int a4, .int a5] [(0, .ref (base + 0)), (1, .int a1), (2, .int a2), (3, .int a3), (4, .int a4), (5, .int a5)] (by decide) (Nat.le_of_ble_eq_true rfl) rfl ?_
  intro p e R s m below meth c C hr hR
  exact w_X11_by C hr hR σ a1 a2 a3 a4 a5 h
noncomputable def f_X11_looksOn_B150 (r40 : cr_S → Int32 → Int32 → Int32 → Option (cr_S)) (σ : cr_S) (x1 : Int32) (x2 : Int32) (x3 : Int32) : Option (cr_S) :=
  cr_let (x3 + (-1)) (fun v3 => r40 σ x1 x2 v3)
set_option maxRecDepth 100000 in
set_option maxHeartbeats 4000000 in
theorem w_X11_looksOn_B150 (C : cr_C p l e R s m args below meth c sfM 17 base D cA cX11_looksOn 8 RX11) (hr : meth.sig.returnType = none) (hR : 4 ≤ R.frames ∧ 99 ≤ R.locals) {res : cr_S} (r40 : cr_S → Int32 → Int32 → Int32 → Option (cr_S)) (hr40 : ∀ (σ : cr_S) (x1 : Int32) (x2 : Int32) (x3 : Int32), r40 σ x1 x2 x3 = some res → cr_W p l e R s m args below meth c sfM 17 base D cA 8 (MQ below (cr_Qv sfM 17 base D cA res) args s 0 0 (cr_A 17 base)) σ 40 [(0, .ref (base + 0)), (1, .int x1), (2, .int x2), (3, .int x3)] []) (σ : cr_S) (x1 : Int32) (x2 : Int32) (x3 : Int32) (h : f_X11_looksOn_B150 r40 σ x1 x2 x3 = some res) : cr_W p l e R s m args below meth c sfM 17 base D cA 8 (MQ below (cr_Qv sfM 17 base D cA res) args s 0 0 (cr_A 17 base)) σ 150 [(0, .ref (base + 0)), (1, .int x1), (2, .int x2), (3, .int x3)] [] := by
  unfold f_X11_looksOn_B150 at h
  obtain ⟨v3, e4, h⟩ := let_some h
  refine g_iinc (pc' := 153) (v := v3) (lv' := [(3, .int v3), (0, .ref (base + 0)), (1, .int x1), (2, .int x2)]) C dX11_looksOn_150 3 rfl (by rw [e4]; rfl) (by decide) rfl rfl ?_
  refine g_goto (tgt := 40) C dX11_looksOn_153 (by decide) ?_
  exact g_sub C [1, 2, 3, 0] rfl (hr40 _ _ _ _ h)
noncomputable def f_X11_looksOn_B129 (r40 : cr_S → Int32 → Int32 → Int32 → Option (cr_S)) (r47 : cr_S → Int32 → Int32 → Int32 → Int32 → Option (cr_S)) (σ : cr_S) (x1 : Int32) (x2 : Int32) (x3 : Int32) (x4 : Int32) (x5 : Int32) : Option (cr_S) :=
  chk (inb ((400 * x3) + x4) 2800) (cr_let (sA σ 9 ((400 * x3) + x4) x5) (fun s12 => cr_let (x4 + 1) (fun v14 => r47 s12 x1 x2 x3 v14)))
set_option maxRecDepth 100000 in
set_option maxHeartbeats 4000000 in
theorem w_X11_looksOn_B129 (C : cr_C p l e R s m args below meth c sfM 17 base D cA cX11_looksOn 8 RX11) (hr : meth.sig.returnType = none) (hR : 4 ≤ R.frames ∧ 99 ≤ R.locals) {res : cr_S} (r40 : cr_S → Int32 → Int32 → Int32 → Option (cr_S)) (r47 : cr_S → Int32 → Int32 → Int32 → Int32 → Option (cr_S)) (hr40 : ∀ (σ : cr_S) (x1 : Int32) (x2 : Int32) (x3 : Int32), r40 σ x1 x2 x3 = some res → cr_W p l e R s m args below meth c sfM 17 base D cA 8 (MQ below (cr_Qv sfM 17 base D cA res) args s 0 0 (cr_A 17 base)) σ 40 [(0, .ref (base + 0)), (1, .int x1), (2, .int x2), (3, .int x3)] []) (hr47 : ∀ (σ : cr_S) (x1 : Int32) (x2 : Int32) (x3 : Int32) (x4 : Int32), r47 σ x1 x2 x3 x4 = some res → cr_W p l e R s m args below meth c sfM 17 base D cA 8 (MQ below (cr_Qv sfM 17 base D cA res) args s 0 0 (cr_A 17 base)) σ 47 [(0, .ref (base + 0)), (1, .int x1), (2, .int x2), (3, .int x3), (4, .int x4)] []) (σ : cr_S) (x1 : Int32) (x2 : Int32) (x3 : Int32) (x4 : Int32) (x5 : Int32) (h : f_X11_looksOn_B129 r40 r47 σ x1 x2 x3 x4 x5 = some res) : cr_W p l e R s m args below meth c sfM 17 base D cA 8 (MQ below (cr_Qv sfM 17 base D cA res) args s 0 0 (cr_A 17 base)) σ 129 [(0, .ref (base + 0)), (1, .int x1), (2, .int x2), (3, .int x3), (4, .int x4), (5, .int x5)] [] := by
  unfold f_X11_looksOn_B129 at h
  refine g_aload_n (pc' := 130) C dX11_looksOn_129 0 rfl rfl ?_
  refine gg_X11_38 (pc' := 133) C dX11_looksOn_130 rfl ?_
  refine g_sipush (pc' := 136) (v := 400) C dX11_looksOn_133 (by decide) rfl ?_
  refine g_iload_n (pc' := 137) C dX11_looksOn_136 3 rfl rfl ?_
  refine g_imul (pc' := 138) C dX11_looksOn_137 rfl ?_
  refine g_iload (pc' := 140) C dX11_looksOn_138 4 rfl rfl ?_
  refine g_iadd (pc' := 141) C dX11_looksOn_140 rfl ?_
  refine g_iload (pc' := 143) C dX11_looksOn_141 5 rfl rfl ?_
  obtain ⟨h11, h⟩ := chk_some h
  obtain ⟨s12, e13, h⟩ := let_some h
  refine g_iast (pc' := 144) C (o := 9) (by decide) rfl (inb_d h11) dX11_looksOn_143 rfl e13 ?_
  obtain ⟨v14, e15, h⟩ := let_some h
  refine g_iinc (pc' := 147) (v := v14) (lv' := [(4, .int v14), (0, .ref (base + 0)), (1, .int x1), (2, .int x2), (3, .int x3), (5, .int x5)]) C dX11_looksOn_144 4 rfl (by rw [e15]; rfl) (by decide) rfl rfl ?_
  refine g_goto (tgt := 47) C dX11_looksOn_147 (by decide) ?_
  exact g_sub C [1, 2, 3, 4, 0] rfl (hr47 _ _ _ _ _ h)
noncomputable def f_X11_looksOn_B121 (r40 : cr_S → Int32 → Int32 → Int32 → Option (cr_S)) (r47 : cr_S → Int32 → Int32 → Int32 → Int32 → Option (cr_S)) (r66 : cr_S → Int32 → Int32 → Int32 → Int32 → Int32 → Int32 → Option (cr_S)) (σ : cr_S) (x1 : Int32) (x2 : Int32) (x3 : Int32) (x4 : Int32) (x6 : Int32) (t0 : Int32) : Option (cr_S) :=
  cr_let (x6 + 1) (fun v20 => r66 σ x1 x2 x3 x4 t0 v20)
set_option maxRecDepth 100000 in
set_option maxHeartbeats 4000000 in
theorem w_X11_looksOn_B121 (C : cr_C p l e R s m args below meth c sfM 17 base D cA cX11_looksOn 8 RX11) (hr : meth.sig.returnType = none) (hR : 4 ≤ R.frames ∧ 99 ≤ R.locals) {res : cr_S} (r40 : cr_S → Int32 → Int32 → Int32 → Option (cr_S)) (r47 : cr_S → Int32 → Int32 → Int32 → Int32 → Option (cr_S)) (r66 : cr_S → Int32 → Int32 → Int32 → Int32 → Int32 → Int32 → Option (cr_S)) (hr40 : ∀ (σ : cr_S) (x1 : Int32) (x2 : Int32) (x3 : Int32), r40 σ x1 x2 x3 = some res → cr_W p l e R s m args below meth c sfM 17 base D cA 8 (MQ below (cr_Qv sfM 17 base D cA res) args s 0 0 (cr_A 17 base)) σ 40 [(0, .ref (base + 0)), (1, .int x1), (2, .int x2), (3, .int x3)] []) (hr47 : ∀ (σ : cr_S) (x1 : Int32) (x2 : Int32) (x3 : Int32) (x4 : Int32), r47 σ x1 x2 x3 x4 = some res → cr_W p l e R s m args below meth c sfM 17 base D cA 8 (MQ below (cr_Qv sfM 17 base D cA res) args s 0 0 (cr_A 17 base)) σ 47 [(0, .ref (base + 0)), (1, .int x1), (2, .int x2), (3, .int x3), (4, .int x4)] []) (hr66 : ∀ (σ : cr_S) (x1 : Int32) (x2 : Int32) (x3 : Int32) (x4 : Int32) (x5 : Int32) (x6 : Int32), r66 σ x1 x2 x3 x4 x5 x6 = some res → cr_W p l e R s m args below meth c sfM 17 base D cA 8 (MQ below (cr_Qv sfM 17 base D cA res) args s 0 0 (cr_A 17 base)) σ 66 [(0, .ref (base + 0)), (1, .int x1), (2, .int x2), (3, .int x3), (4, .int x4), (5, .int x5), (6, .int x6)] []) (σ : cr_S) (x1 : Int32) (x2 : Int32) (x3 : Int32) (x4 : Int32) (x6 : Int32) (t0 : Int32) (h : f_X11_looksOn_B121 r40 r47 r66 σ x1 x2 x3 x4 x6 t0 = some res) : cr_W p l e R s m args below meth c sfM 17 base D cA 8 (MQ below (cr_Qv sfM 17 base D cA res) args s 0 0 (cr_A 17 base)) σ 121 [(0, .ref (base + 0)), (1, .int x1), (2, .int x2), (3, .int x3), (4, .int x4), (6, .int x6)] [.int t0] := by
  unfold f_X11_looksOn_B121 at h
  refine g_istore (pc' := 123) (lv' := [(5, .int t0), (0, .ref (base + 0)), (1, .int x1), (2, .int x2), (3, .int x3), (4, .int x4), (6, .int x6)]) C dX11_looksOn_121 (by decide) rfl rfl ?_
  obtain ⟨v20, e21, h⟩ := let_some h
  refine g_iinc (pc' := 126) (v := v20) (lv' := [(6, .int v20), (5, .int t0), (0, .ref (base + 0)), (1, .int x1), (2, .int x2), (3, .int x3), (4, .int x4)]) C dX11_looksOn_123 6 rfl (by rw [e21]; rfl) (by decide) rfl rfl ?_
  refine g_goto (tgt := 66) C dX11_looksOn_126 (by decide) ?_
  exact g_sub C [2, 3, 4, 5, 6, 1, 0] rfl (hr66 _ _ _ _ _ _ _ h)
noncomputable def f_X11_looksOn_L66 (r40 : cr_S → Int32 → Int32 → Int32 → Option (cr_S)) (r47 : cr_S → Int32 → Int32 → Int32 → Int32 → Option (cr_S)) : Nat → cr_S → Int32 → Int32 → Int32 → Int32 → Int32 → Int32 → Option (cr_S)
  | 0, _, _, _, _, _, _, _ => none
  | n + 1, σ, x1, x2, x3, x4, x5, x6 =>
    Option.bind (f_X11_high σ x1) (fun q9 => (if q9.2 < x6 then f_X11_looksOn_B129 r40 r47 q9.1 x1 x2 x3 x4 x5 else (if (400 - (45 * ((rF q9.1 0 0) - x3))) ≤ x4 then f_X11_looksOn_B129 r40 r47 q9.1 x1 x2 x3 x4 x5 else Option.bind (f_X11_by q9.1 x1 x3 x2 x4 x6) (fun q16 => cr_let q16.2 (fun v18 => f_X11_looksOn_B121 r40 r47 (f_X11_looksOn_L66 r40 r47 n) q16.1 x1 x2 x3 x4 x6 (if x5 ≤ v18 then x5 else v18))))))
set_option maxRecDepth 100000 in
set_option maxHeartbeats 4000000 in
theorem w_X11_looksOn_L66 (C : cr_C p l e R s m args below meth c sfM 17 base D cA cX11_looksOn 8 RX11) (hr : meth.sig.returnType = none) (hR : 4 ≤ R.frames ∧ 99 ≤ R.locals) {res : cr_S} (r40 : cr_S → Int32 → Int32 → Int32 → Option (cr_S)) (r47 : cr_S → Int32 → Int32 → Int32 → Int32 → Option (cr_S)) (hr40 : ∀ (σ : cr_S) (x1 : Int32) (x2 : Int32) (x3 : Int32), r40 σ x1 x2 x3 = some res → cr_W p l e R s m args below meth c sfM 17 base D cA 8 (MQ below (cr_Qv sfM 17 base D cA res) args s 0 0 (cr_A 17 base)) σ 40 [(0, .ref (base + 0)), (1, .int x1), (2, .int x2), (3, .int x3)] []) (hr47 : ∀ (σ : cr_S) (x1 : Int32) (x2 : Int32) (x3 : Int32) (x4 : Int32), r47 σ x1 x2 x3 x4 = some res → cr_W p l e R s m args below meth c sfM 17 base D cA 8 (MQ below (cr_Qv sfM 17 base D cA res) args s 0 0 (cr_A 17 base)) σ 47 [(0, .ref (base + 0)), (1, .int x1), (2, .int x2), (3, .int x3), (4, .int x4)] []) : ∀ (n : Nat) (σ : cr_S) (x1 : Int32) (x2 : Int32) (x3 : Int32) (x4 : Int32) (x5 : Int32) (x6 : Int32), f_X11_looksOn_L66 r40 r47 n σ x1 x2 x3 x4 x5 x6 = some res → cr_W p l e R s m args below meth c sfM 17 base D cA 8 (MQ below (cr_Qv sfM 17 base D cA res) args s 0 0 (cr_A 17 base)) σ 66 [(0, .ref (base + 0)), (1, .int x1), (2, .int x2), (3, .int x3), (4, .int x4), (5, .int x5), (6, .int x6)] [] := by
  intro n
  induction n with
  | zero =>
    intro σ x1 x2 x3 x4 x5 x6 h
    cases h
  | succ n ih =>
    intro σ x1 x2 x3 x4 x5 x6 h
    rw [f_X11_looksOn_L66] at h
    refine g_iload (pc' := 68) C dX11_looksOn_66 6 rfl rfl ?_
    refine g_aload_n (pc' := 69) C dX11_looksOn_68 0 rfl rfl ?_
    refine g_iload_n (pc' := 70) C dX11_looksOn_69 1 rfl rfl ?_
    obtain ⟨q9, h10, h⟩ := bind_some h
    refine g_callVi (pc' := 73) (res := q9) C [.int x1] cY_X11_high rfl (o := 0) (by decide) rfl mv_X11_high mm_X11_101 ⟨Nat.le_trans (by decide) hR.1, Nat.le_trans (by decide) hR.2⟩ rfl (Nat.le_of_ble_eq_true rfl) rfl dX11_looksOn_70 (c_X11_high l base D cA σ x1 q9 h10) rfl ?_
    refine g_icmp_gt (pc' := 76) (tgt := 129) C dX11_looksOn_73 (by decide) rfl (fun hc => ?_) (fun hc => ?_)
    · rw [if_pos hc] at h
      exact g_sub C [0, 1, 2, 3, 4, 5] rfl (w_X11_looksOn_B129 C hr hR r40 r47 hr40 hr47 _ _ _ _ _ _ h)
    · rw [if_neg hc] at h
      refine g_iload (pc' := 78) C dX11_looksOn_76 4 rfl rfl ?_
      refine g_sipush (pc' := 81) (v := 400) C dX11_looksOn_78 (by decide) rfl ?_
      refine g_bipush (pc' := 83) (v := 45) C dX11_looksOn_81 (by decide) rfl ?_
      refine g_aload_n (pc' := 84) C dX11_looksOn_83 0 rfl rfl ?_
      refine gg_X11_63 (pc' := 87) C dX11_looksOn_84 rfl ?_
      refine g_iload_n (pc' := 88) C dX11_looksOn_87 3 rfl rfl ?_
      refine g_isub (pc' := 89) C dX11_looksOn_88 rfl ?_
      refine g_imul (pc' := 90) C dX11_looksOn_89 rfl ?_
      refine g_isub (pc' := 91) C dX11_looksOn_90 rfl ?_
      refine g_icmp_ge (pc' := 94) (tgt := 129) C dX11_looksOn_91 (by decide) rfl (fun hc => ?_) (fun hc => ?_)
      · rw [if_pos hc] at h
        exact g_sub C [0, 1, 2, 3, 4, 5] rfl (w_X11_looksOn_B129 C hr hR r40 r47 hr40 hr47 _ _ _ _ _ _ h)
      · rw [if_neg hc] at h
        refine g_aload_n (pc' := 95) C dX11_looksOn_94 0 rfl rfl ?_
        refine g_iload_n (pc' := 96) C dX11_looksOn_95 1 rfl rfl ?_
        refine g_iload_n (pc' := 97) C dX11_looksOn_96 3 rfl rfl ?_
        refine g_iload_n (pc' := 98) C dX11_looksOn_97 2 rfl rfl ?_
        refine g_iload (pc' := 100) C dX11_looksOn_98 4 rfl rfl ?_
        refine g_iload (pc' := 102) C dX11_looksOn_100 6 rfl rfl ?_
        obtain ⟨q16, h17, h⟩ := bind_some h
        refine g_callVi (pc' := 105) (res := q16) C [.int x1, .int x3, .int x2, .int x4, .int x6] cY_X11_by rfl (o := 0) (by decide) rfl mv_X11_by mm_X11_215 ⟨Nat.le_trans (by decide) hR.1, Nat.le_trans (by decide) hR.2⟩ rfl (Nat.le_of_ble_eq_true rfl) rfl dX11_looksOn_102 (c_X11_by l base D cA q9.1 x1 x3 x2 x4 x6 q16 h17) rfl ?_
        obtain ⟨v18, e19, h⟩ := let_some h
        refine g_nameI e19 ?_
        refine g_istore (pc' := 107) (lv' := [(7, .int v18), (0, .ref (base + 0)), (1, .int x1), (2, .int x2), (3, .int x3), (4, .int x4), (5, .int x5), (6, .int x6)]) C dX11_looksOn_105 (by decide) rfl rfl ?_
        refine g_iload (pc' := 109) C dX11_looksOn_107 0 rfl rfl ?_
        refine g_iload (pc' := 111) C dX11_looksOn_109 6 rfl rfl ?_
        refine g_iteI (σ := q16.1) (pj := 121) (lv := [(7, .int v18), (0, .ref (base + 0)), (1, .int x1), (2, .int x2), (3, .int x3), (4, .int x4), (5, .int x5), (6, .int x6)]) (st := []) (cd := x5 ≤ v18) (a := x5) (b := v18) C ?_ (fun kt kf => ?_)
        · exact g_sub C [1, 2, 3, 4, 5, 7] rfl (w_X11_looksOn_B121 C hr hR r40 r47 (f_X11_looksOn_L66 r40 r47 n) hr40 hr47 ih _ _ _ _ _ _ _ h)
        · refine g_icmp_ge (pc' := 114) (tgt := 119) C dX11_looksOn_111 (by decide) rfl (fun hc => ?_) (fun hc => ?_)
          · refine g_iload (pc' := 121) C dX11_looksOn_119 6 rfl rfl ?_
            exact kt hc
          · refine g_iload (pc' := 116) C dX11_looksOn_114 0 rfl rfl ?_
            refine g_goto (tgt := 121) C dX11_looksOn_116 (by decide) ?_
            exact kf hc
noncomputable def f_X11_looksOn_L47 (r40 : cr_S → Int32 → Int32 → Int32 → Option (cr_S)) : Nat → cr_S → Int32 → Int32 → Int32 → Int32 → Option (cr_S)
  | 0, _, _, _, _, _ => none
  | n + 1, σ, x1, x2, x3, x4 =>
    (if 400 ≤ x4 then f_X11_looksOn_B150 r40 σ x1 x2 x3 else Option.bind (f_X11_low σ x1) (fun q5 => cr_let q5.2 (fun v7 => f_X11_looksOn_L66 r40 (f_X11_looksOn_L47 r40 n) cr_fuel q5.1 x1 x2 x3 x4 999999 v7)))
set_option maxRecDepth 100000 in
set_option maxHeartbeats 4000000 in
theorem w_X11_looksOn_L47 (C : cr_C p l e R s m args below meth c sfM 17 base D cA cX11_looksOn 8 RX11) (hr : meth.sig.returnType = none) (hR : 4 ≤ R.frames ∧ 99 ≤ R.locals) {res : cr_S} (r40 : cr_S → Int32 → Int32 → Int32 → Option (cr_S)) (hr40 : ∀ (σ : cr_S) (x1 : Int32) (x2 : Int32) (x3 : Int32), r40 σ x1 x2 x3 = some res → cr_W p l e R s m args below meth c sfM 17 base D cA 8 (MQ below (cr_Qv sfM 17 base D cA res) args s 0 0 (cr_A 17 base)) σ 40 [(0, .ref (base + 0)), (1, .int x1), (2, .int x2), (3, .int x3)] []) : ∀ (n : Nat) (σ : cr_S) (x1 : Int32) (x2 : Int32) (x3 : Int32) (x4 : Int32), f_X11_looksOn_L47 r40 n σ x1 x2 x3 x4 = some res → cr_W p l e R s m args below meth c sfM 17 base D cA 8 (MQ below (cr_Qv sfM 17 base D cA res) args s 0 0 (cr_A 17 base)) σ 47 [(0, .ref (base + 0)), (1, .int x1), (2, .int x2), (3, .int x3), (4, .int x4)] [] := by
  intro n
  induction n with
  | zero =>
    intro σ x1 x2 x3 x4 h
    cases h
  | succ n ih =>
    intro σ x1 x2 x3 x4 h
    rw [f_X11_looksOn_L47] at h
    refine g_iload (pc' := 49) C dX11_looksOn_47 4 rfl rfl ?_
    refine g_sipush (pc' := 52) (v := 400) C dX11_looksOn_49 (by decide) rfl ?_
    refine g_icmp_ge (pc' := 55) (tgt := 150) C dX11_looksOn_52 (by decide) rfl (fun hc => ?_) (fun hc => ?_)
    · rw [if_pos hc] at h
      exact g_sub C [0, 1, 2, 3] rfl (w_X11_looksOn_B150 C hr hR r40 hr40 _ _ _ _ h)
    · rw [if_neg hc] at h
      refine g_ldc (pc' := 57) (v := 999999) C dX11_looksOn_55 mk_X11_214 rfl ?_
      refine g_istore (pc' := 59) (lv' := [(5, .int 999999), (0, .ref (base + 0)), (1, .int x1), (2, .int x2), (3, .int x3), (4, .int x4)]) C dX11_looksOn_57 (by decide) rfl rfl ?_
      refine g_aload_n (pc' := 60) C dX11_looksOn_59 1 rfl rfl ?_
      refine g_iload_n (pc' := 61) C dX11_looksOn_60 2 rfl rfl ?_
      obtain ⟨q5, h6, h⟩ := bind_some h
      refine g_callVi (pc' := 64) (res := q5) C [.int x1] cY_X11_low rfl (o := 0) (by decide) rfl mv_X11_low mm_X11_108 ⟨Nat.le_trans (by decide) hR.1, Nat.le_trans (by decide) hR.2⟩ rfl (Nat.le_of_ble_eq_true rfl) rfl dX11_looksOn_61 (c_X11_low l base D cA σ x1 q5 h6) rfl ?_
      obtain ⟨v7, e8, h⟩ := let_some h
      refine g_nameI e8 ?_
      refine g_istore (pc' := 66) (lv' := [(6, .int v7), (5, .int 999999), (0, .ref (base + 0)), (1, .int x1), (2, .int x2), (3, .int x3), (4, .int x4)]) C dX11_looksOn_64 (by decide) rfl rfl ?_
      exact g_sub C [2, 3, 4, 5, 6, 1, 0] rfl (w_X11_looksOn_L66 C hr hR r40 (f_X11_looksOn_L47 r40 n) hr40 ih _ _ _ _ _ _ _ _ h)
noncomputable def f_X11_looksOn_L40  : Nat → cr_S → Int32 → Int32 → Int32 → Option (cr_S)
  | 0, _, _, _, _ => none
  | n + 1, σ, x1, x2, x3 =>
    (if x3 < 0 then some σ else f_X11_looksOn_L47 (f_X11_looksOn_L40 n) cr_fuel σ x1 x2 x3 0)
set_option maxRecDepth 100000 in
set_option maxHeartbeats 4000000 in
theorem w_X11_looksOn_L40 (C : cr_C p l e R s m args below meth c sfM 17 base D cA cX11_looksOn 8 RX11) (hr : meth.sig.returnType = none) (hR : 4 ≤ R.frames ∧ 99 ≤ R.locals) {res : cr_S}  : ∀ (n : Nat) (σ : cr_S) (x1 : Int32) (x2 : Int32) (x3 : Int32), f_X11_looksOn_L40 n σ x1 x2 x3 = some res → cr_W p l e R s m args below meth c sfM 17 base D cA 8 (MQ below (cr_Qv sfM 17 base D cA res) args s 0 0 (cr_A 17 base)) σ 40 [(0, .ref (base + 0)), (1, .int x1), (2, .int x2), (3, .int x3)] [] := by
  intro n
  induction n with
  | zero =>
    intro σ x1 x2 x3 h
    cases h
  | succ n ih =>
    intro σ x1 x2 x3 h
    rw [f_X11_looksOn_L40] at h
    refine g_iload_n (pc' := 41) C dX11_looksOn_40 3 rfl rfl ?_
    refine g_if_lt (pc' := 44) (tgt := 156) C dX11_looksOn_41 (by decide) rfl (fun hc => ?_) (fun hc => ?_)
    · rw [if_pos hc] at h
      exact g_vret C hr dX11_looksOn_156 h
    · rw [if_neg hc] at h
      refine g_iconst (pc' := 45) (v := 0) C dX11_looksOn_44 (by decide) rfl ?_
      refine g_istore (pc' := 47) (lv' := [(4, .int 0), (0, .ref (base + 0)), (1, .int x1), (2, .int x2), (3, .int x3)]) C dX11_looksOn_45 (by decide) rfl rfl ?_
      exact g_sub C [1, 2, 3, 4, 0] rfl (w_X11_looksOn_L47 C hr hR (f_X11_looksOn_L40 n) ih _ _ _ _ _ _ h)
noncomputable def f_X11_looksOn_B33  (σ : cr_S) (x1 : Int32) (x2 : Int32) : Option (cr_S) :=
  cr_let ((rF σ 0 0) - 1) (fun v1 => f_X11_looksOn_L40 cr_fuel σ x1 x2 v1)
set_option maxRecDepth 100000 in
set_option maxHeartbeats 4000000 in
theorem w_X11_looksOn_B33 (C : cr_C p l e R s m args below meth c sfM 17 base D cA cX11_looksOn 8 RX11) (hr : meth.sig.returnType = none) (hR : 4 ≤ R.frames ∧ 99 ≤ R.locals) {res : cr_S}  (σ : cr_S) (x1 : Int32) (x2 : Int32) (h : f_X11_looksOn_B33 σ x1 x2 = some res) : cr_W p l e R s m args below meth c sfM 17 base D cA 8 (MQ below (cr_Qv sfM 17 base D cA res) args s 0 0 (cr_A 17 base)) σ 33 [(0, .ref (base + 0)), (1, .int x1), (2, .int x2)] [] := by
  unfold f_X11_looksOn_B33 at h
  refine g_aload_n (pc' := 34) C dX11_looksOn_33 0 rfl rfl ?_
  refine gg_X11_63 (pc' := 37) C dX11_looksOn_34 rfl ?_
  refine g_iconst (pc' := 38) (v := 1) C dX11_looksOn_37 (by decide) rfl ?_
  refine g_isub (pc' := 39) C dX11_looksOn_38 rfl ?_
  obtain ⟨v1, e2, h⟩ := let_some h
  refine g_nameI e2 ?_
  refine g_istore_n (pc' := 40) (lv' := [(3, .int v1), (0, .ref (base + 0)), (1, .int x1), (2, .int x2)]) C dX11_looksOn_39 rfl (by decide) rfl rfl ?_
  exact g_sub C [1, 2, 3, 0] rfl (w_X11_looksOn_L40 C hr hR _ _ _ _ _ h)
noncomputable def f_X11_looksOn_L2  : Nat → cr_S → Int32 → Int32 → Int32 → Option (cr_S)
  | 0, _, _, _, _ => none
  | n + 1, σ, x1, x2, x3 =>
    (if 400 ≤ x3 then f_X11_looksOn_B33 σ x1 x2 else chk (inb ((400 * (rF σ 0 0)) + x3) 2800) (cr_let (sA σ 9 ((400 * (rF σ 0 0)) + x3) (x2 + x3)) (fun s23 => cr_let (x3 + 1) (fun v25 => f_X11_looksOn_L2 n s23 x1 x2 v25))))
set_option maxRecDepth 100000 in
set_option maxHeartbeats 4000000 in
theorem w_X11_looksOn_L2 (C : cr_C p l e R s m args below meth c sfM 17 base D cA cX11_looksOn 8 RX11) (hr : meth.sig.returnType = none) (hR : 4 ≤ R.frames ∧ 99 ≤ R.locals) {res : cr_S}  : ∀ (n : Nat) (σ : cr_S) (x1 : Int32) (x2 : Int32) (x3 : Int32), f_X11_looksOn_L2 n σ x1 x2 x3 = some res → cr_W p l e R s m args below meth c sfM 17 base D cA 8 (MQ below (cr_Qv sfM 17 base D cA res) args s 0 0 (cr_A 17 base)) σ 2 [(0, .ref (base + 0)), (1, .int x1), (2, .int x2), (3, .int x3)] [] := by
  intro n
  induction n with
  | zero =>
    intro σ x1 x2 x3 h
    cases h
  | succ n ih =>
    intro σ x1 x2 x3 h
    rw [f_X11_looksOn_L2] at h
    refine g_iload_n (pc' := 3) C dX11_looksOn_2 3 rfl rfl ?_
    refine g_sipush (pc' := 6) (v := 400) C dX11_looksOn_3 (by decide) rfl ?_
    refine g_icmp_ge (pc' := 9) (tgt := 33) C dX11_looksOn_6 (by decide) rfl (fun hc => ?_) (fun hc => ?_)
    · rw [if_pos hc] at h
      exact g_sub C [0, 1, 2] rfl (w_X11_looksOn_B33 C hr hR _ _ _ h)
    · rw [if_neg hc] at h
      refine g_aload_n (pc' := 10) C dX11_looksOn_9 0 rfl rfl ?_
      refine gg_X11_38 (pc' := 13) C dX11_looksOn_10 rfl ?_
      refine g_sipush (pc' := 16) (v := 400) C dX11_looksOn_13 (by decide) rfl ?_
      refine g_aload_n (pc' := 17) C dX11_looksOn_16 0 rfl rfl ?_
      refine gg_X11_63 (pc' := 20) C dX11_looksOn_17 rfl ?_
      refine g_imul (pc' := 21) C dX11_looksOn_20 rfl ?_
      refine g_iload_n (pc' := 22) C dX11_looksOn_21 3 rfl rfl ?_
      refine g_iadd (pc' := 23) C dX11_looksOn_22 rfl ?_
      refine g_iload_n (pc' := 24) C dX11_looksOn_23 2 rfl rfl ?_
      refine g_iload_n (pc' := 25) C dX11_looksOn_24 3 rfl rfl ?_
      refine g_iadd (pc' := 26) C dX11_looksOn_25 rfl ?_
      obtain ⟨h22, h⟩ := chk_some h
      obtain ⟨s23, e24, h⟩ := let_some h
      refine g_iast (pc' := 27) C (o := 9) (by decide) rfl (inb_d h22) dX11_looksOn_26 rfl e24 ?_
      obtain ⟨v25, e26, h⟩ := let_some h
      refine g_iinc (pc' := 30) (v := v25) (lv' := [(3, .int v25), (0, .ref (base + 0)), (1, .int x1), (2, .int x2)]) C dX11_looksOn_27 3 rfl (by rw [e26]; rfl) (by decide) rfl rfl ?_
      refine g_goto (tgt := 2) C dX11_looksOn_30 (by decide) ?_
      exact g_sub C [1, 2, 3, 0] rfl (ih _ _ _ _ h)
noncomputable def f_X11_looksOn (σ : cr_S) (a1 : Int32) (a2 : Int32) : Option (cr_S) :=
  f_X11_looksOn_L2 cr_fuel σ a1 a2 0
set_option maxRecDepth 100000 in
set_option maxHeartbeats 4000000 in
theorem w_X11_looksOn (C : cr_C p l e R s m args below meth c sfM 17 base D cA cX11_looksOn 8 RX11) (hr : meth.sig.returnType = none) (hR : 4 ≤ R.frames ∧ 99 ≤ R.locals) {res : cr_S} (σ : cr_S) (a1 : Int32) (a2 : Int32) (h : f_X11_looksOn σ a1 a2 = some res) : cr_W p l e R s m args below meth c sfM 17 base D cA 8 (MQ below (cr_Qv sfM 17 base D cA res) args s 0 0 (cr_A 17 base)) σ 0 [(0, .ref (base + 0)), (1, .int a1), (2, .int a2)] [] := by
  unfold f_X11_looksOn at h
  refine g_iconst (pc' := 1) (v := 0) C dX11_looksOn_0 (by decide) rfl ?_
  refine g_istore_n (pc' := 2) (lv' := [(3, .int 0), (0, .ref (base + 0)), (1, .int a1), (2, .int a2)]) C dX11_looksOn_1 rfl (by decide) rfl rfl ?_
  exact g_sub C [1, 2, 3, 0] rfl (w_X11_looksOn_L2 C hr hR _ _ _ _ _ h)
theorem c_X11_looksOn (l : Launch) (base : Nat) (D : va_G) (cA : Nat → ClassId) (σ : cr_S) (a1 : Int32) (a2 : Int32) (res : cr_S) (h : f_X11_looksOn σ a1 a2 = some res) : cr_M l yX11_looksOn cX11_looksOn 8 none 4 99 sfM 17 base D cA [.ref (base + 0), .int a1, .int a2] σ (cr_Qv sfM 17 base D cA res) := by
  refine cr_enter [.ref (base + 0), .int a1, .int a2] [(0, .ref (base + 0)), (1, .int a1), (2, .int a2)] (by decide) (Nat.le_of_ble_eq_true rfl) rfl ?_
  intro p e R s m below meth c C hr hR
  exact w_X11_looksOn C hr hR σ a1 a2 h
noncomputable def f_X11_soonest_B171 (r135 : cr_S → Int32 → Int32 → Int32 → Int32 → Int32 → Int32 → Int32 → Option (cr_S × Int32)) (σ : cr_S) (x1 : Int32) (x2 : Int32) (x3 : Int32) (x5 : Int32) (x7 : Int32) (x8 : Int32) : Option (cr_S × Int32) :=
  cr_let ((rF σ 0 7) - x2) (fun v19 => cr_let (x8 + 1) (fun v21 => r135 σ x1 x2 x3 x5 v19 x7 v21))
set_option maxRecDepth 100000 in
set_option maxHeartbeats 4000000 in
theorem w_X11_soonest_B171 (C : cr_C p l e R s m args below meth c sfM 17 base D cA cX11_soonest 9 RX11) (hr : meth.sig.returnType = some .int) (hR : 5 ≤ R.frames ∧ 126 ≤ R.locals) {res : cr_S × Int32} (r135 : cr_S → Int32 → Int32 → Int32 → Int32 → Int32 → Int32 → Int32 → Option (cr_S × Int32)) (hr135 : ∀ (σ : cr_S) (x1 : Int32) (x2 : Int32) (x3 : Int32) (x5 : Int32) (x6 : Int32) (x7 : Int32) (x8 : Int32), r135 σ x1 x2 x3 x5 x6 x7 x8 = some res → cr_W p l e R s m args below meth c sfM 17 base D cA 9 (MQ below (cr_Qi sfM 17 base D cA res) args s 0 0 (cr_A 17 base)) σ 135 [(0, .ref (base + 0)), (1, .int x1), (2, .int x2), (3, .int x3), (5, .int x5), (6, .int x6), (7, .int x7), (8, .int x8)] []) (σ : cr_S) (x1 : Int32) (x2 : Int32) (x3 : Int32) (x5 : Int32) (x7 : Int32) (x8 : Int32) (h : f_X11_soonest_B171 r135 σ x1 x2 x3 x5 x7 x8 = some res) : cr_W p l e R s m args below meth c sfM 17 base D cA 9 (MQ below (cr_Qi sfM 17 base D cA res) args s 0 0 (cr_A 17 base)) σ 171 [(0, .ref (base + 0)), (1, .int x1), (2, .int x2), (3, .int x3), (5, .int x5), (7, .int x7), (8, .int x8)] [] := by
  unfold f_X11_soonest_B171 at h
  refine g_aload_n (pc' := 172) C dX11_soonest_171 0 rfl rfl ?_
  refine gg_X11_130 (pc' := 175) C dX11_soonest_172 rfl ?_
  refine g_iload_n (pc' := 176) C dX11_soonest_175 2 rfl rfl ?_
  refine g_isub (pc' := 177) C dX11_soonest_176 rfl ?_
  obtain ⟨v19, e20, h⟩ := let_some h
  refine g_nameI e20 ?_
  refine g_istore (pc' := 179) (lv' := [(6, .int v19), (0, .ref (base + 0)), (1, .int x1), (2, .int x2), (3, .int x3), (5, .int x5), (7, .int x7), (8, .int x8)]) C dX11_soonest_177 (by decide) rfl rfl ?_
  obtain ⟨v21, e22, h⟩ := let_some h
  refine g_iinc (pc' := 182) (v := v21) (lv' := [(8, .int v21), (6, .int v19), (0, .ref (base + 0)), (1, .int x1), (2, .int x2), (3, .int x3), (5, .int x5), (7, .int x7)]) C dX11_soonest_179 7 rfl (by rw [e22]; rfl) (by decide) rfl rfl ?_
  refine g_goto (tgt := 135) C dX11_soonest_182 (by decide) ?_
  exact g_sub C [2, 3, 4, 5, 6, 1, 7, 0] rfl (hr135 _ _ _ _ _ _ _ _ h)
noncomputable def f_X11_soonest_L148 (r135 : cr_S → Int32 → Int32 → Int32 → Int32 → Int32 → Int32 → Int32 → Option (cr_S × Int32)) : Nat → cr_S → Int32 → Int32 → Int32 → Int32 → Int32 → Int32 → Int32 → Option (cr_S × Int32)
  | 0, _, _, _, _, _, _, _, _ => none
  | n + 1, σ, x1, x2, x3, x5, x6, x7, x8 =>
    Option.bind (f_X11_by σ x1 x8 x2 x6 x7) (fun q17 => (if q17.2 = x5 then f_X11_soonest_B171 r135 q17.1 x1 x2 x3 x5 x7 x8 else cr_let (x7 + 1) (fun v23 => f_X11_soonest_L148 r135 n q17.1 x1 x2 x3 x5 x6 v23 x8)))
set_option maxRecDepth 100000 in
set_option maxHeartbeats 4000000 in
theorem w_X11_soonest_L148 (C : cr_C p l e R s m args below meth c sfM 17 base D cA cX11_soonest 9 RX11) (hr : meth.sig.returnType = some .int) (hR : 5 ≤ R.frames ∧ 126 ≤ R.locals) {res : cr_S × Int32} (r135 : cr_S → Int32 → Int32 → Int32 → Int32 → Int32 → Int32 → Int32 → Option (cr_S × Int32)) (hr135 : ∀ (σ : cr_S) (x1 : Int32) (x2 : Int32) (x3 : Int32) (x5 : Int32) (x6 : Int32) (x7 : Int32) (x8 : Int32), r135 σ x1 x2 x3 x5 x6 x7 x8 = some res → cr_W p l e R s m args below meth c sfM 17 base D cA 9 (MQ below (cr_Qi sfM 17 base D cA res) args s 0 0 (cr_A 17 base)) σ 135 [(0, .ref (base + 0)), (1, .int x1), (2, .int x2), (3, .int x3), (5, .int x5), (6, .int x6), (7, .int x7), (8, .int x8)] []) : ∀ (n : Nat) (σ : cr_S) (x1 : Int32) (x2 : Int32) (x3 : Int32) (x5 : Int32) (x6 : Int32) (x7 : Int32) (x8 : Int32), f_X11_soonest_L148 r135 n σ x1 x2 x3 x5 x6 x7 x8 = some res → cr_W p l e R s m args below meth c sfM 17 base D cA 9 (MQ below (cr_Qi sfM 17 base D cA res) args s 0 0 (cr_A 17 base)) σ 148 [(0, .ref (base + 0)), (1, .int x1), (2, .int x2), (3, .int x3), (5, .int x5), (6, .int x6), (7, .int x7), (8, .int x8)] [] := by
  intro n
  induction n with
  | zero =>
    intro σ x1 x2 x3 x5 x6 x7 x8 h
    cases h
  | succ n ih =>
    intro σ x1 x2 x3 x5 x6 x7 x8 h
    rw [f_X11_soonest_L148] at h
    refine g_aload_n (pc' := 149) C dX11_soonest_148 0 rfl rfl ?_
    refine g_iload_n (pc' := 150) C dX11_soonest_149 1 rfl rfl ?_
    refine g_iload (pc' := 152) C dX11_soonest_150 7 rfl rfl ?_
    refine g_iload_n (pc' := 153) C dX11_soonest_152 2 rfl rfl ?_
    refine g_iload (pc' := 155) C dX11_soonest_153 5 rfl rfl ?_
    refine g_iload (pc' := 157) C dX11_soonest_155 6 rfl rfl ?_
    obtain ⟨q17, h18, h⟩ := bind_some h
    refine g_callVi (pc' := 160) (res := q17) C [.int x1, .int x8, .int x2, .int x6, .int x7] cY_X11_by rfl (o := 0) (by decide) rfl mv_X11_by mm_X11_215 ⟨Nat.le_trans (by decide) hR.1, Nat.le_trans (by decide) hR.2⟩ rfl (Nat.le_of_ble_eq_true rfl) rfl dX11_soonest_157 (c_X11_by l base D cA σ x1 x8 x2 x6 x7 q17 h18) rfl ?_
    refine g_iload (pc' := 162) C dX11_soonest_160 4 rfl rfl ?_
    refine g_icmp_eq (pc' := 165) (tgt := 171) C dX11_soonest_162 (by decide) rfl (fun hc => ?_) (fun hc => ?_)
    · rw [if_pos hc] at h
      exact g_sub C [0, 1, 2, 3, 4, 6, 7] rfl (w_X11_soonest_B171 C hr hR r135 hr135 _ _ _ _ _ _ _ h)
    · rw [if_neg hc] at h
      obtain ⟨v23, e24, h⟩ := let_some h
      refine g_iinc (pc' := 168) (v := v23) (lv' := [(7, .int v23), (0, .ref (base + 0)), (1, .int x1), (2, .int x2), (3, .int x3), (5, .int x5), (6, .int x6), (8, .int x8)]) C dX11_soonest_165 6 rfl (by rw [e24]; rfl) (by decide) rfl rfl ?_
      refine g_goto (tgt := 148) C dX11_soonest_168 (by decide) ?_
      exact g_sub C [1, 2, 3, 4, 5, 6, 0, 7] rfl (ih _ _ _ _ _ _ _ _ h)
noncomputable def f_X11_soonest_L135  : Nat → cr_S → Int32 → Int32 → Int32 → Int32 → Int32 → Int32 → Int32 → Option (cr_S × Int32)
  | 0, _, _, _, _, _, _, _, _ => none
  | n + 1, σ, x1, x2, x3, x5, x6, x7, x8 =>
    (if x3 < x8 then some (σ, x7) else Option.bind (f_X11_low σ x1) (fun q13 => cr_let q13.2 (fun v15 => f_X11_soonest_L148 (f_X11_soonest_L135 n) cr_fuel q13.1 x1 x2 x3 x5 x6 v15 x8)))
set_option maxRecDepth 100000 in
set_option maxHeartbeats 4000000 in
theorem w_X11_soonest_L135 (C : cr_C p l e R s m args below meth c sfM 17 base D cA cX11_soonest 9 RX11) (hr : meth.sig.returnType = some .int) (hR : 5 ≤ R.frames ∧ 126 ≤ R.locals) {res : cr_S × Int32}  : ∀ (n : Nat) (σ : cr_S) (x1 : Int32) (x2 : Int32) (x3 : Int32) (x5 : Int32) (x6 : Int32) (x7 : Int32) (x8 : Int32), f_X11_soonest_L135 n σ x1 x2 x3 x5 x6 x7 x8 = some res → cr_W p l e R s m args below meth c sfM 17 base D cA 9 (MQ below (cr_Qi sfM 17 base D cA res) args s 0 0 (cr_A 17 base)) σ 135 [(0, .ref (base + 0)), (1, .int x1), (2, .int x2), (3, .int x3), (5, .int x5), (6, .int x6), (7, .int x7), (8, .int x8)] [] := by
  intro n
  induction n with
  | zero =>
    intro σ x1 x2 x3 x5 x6 x7 x8 h
    cases h
  | succ n ih =>
    intro σ x1 x2 x3 x5 x6 x7 x8 h
    rw [f_X11_soonest_L135] at h
    refine g_iload (pc' := 137) C dX11_soonest_135 7 rfl rfl ?_
    refine g_iload_n (pc' := 138) C dX11_soonest_137 3 rfl rfl ?_
    refine g_icmp_gt (pc' := 141) (tgt := 185) C dX11_soonest_138 (by decide) rfl (fun hc => ?_) (fun hc => ?_)
    · rw [if_pos hc] at h
      refine g_iload (pc' := 187) C dX11_soonest_185 6 rfl rfl ?_
      exact g_iret C hr dX11_soonest_187 h
    · rw [if_neg hc] at h
      refine g_aload_n (pc' := 142) C dX11_soonest_141 0 rfl rfl ?_
      refine g_iload_n (pc' := 143) C dX11_soonest_142 1 rfl rfl ?_
      obtain ⟨q13, h14, h⟩ := bind_some h
      refine g_callVi (pc' := 146) (res := q13) C [.int x1] cY_X11_low rfl (o := 0) (by decide) rfl mv_X11_low mm_X11_108 ⟨Nat.le_trans (by decide) hR.1, Nat.le_trans (by decide) hR.2⟩ rfl (Nat.le_of_ble_eq_true rfl) rfl dX11_soonest_143 (c_X11_low l base D cA σ x1 q13 h14) rfl ?_
      obtain ⟨v15, e16, h⟩ := let_some h
      refine g_nameI e16 ?_
      refine g_istore (pc' := 148) (lv' := [(7, .int v15), (0, .ref (base + 0)), (1, .int x1), (2, .int x2), (3, .int x3), (5, .int x5), (6, .int x6), (8, .int x8)]) C dX11_soonest_146 (by decide) rfl rfl ?_
      exact g_sub C [1, 2, 3, 4, 5, 6, 0, 7] rfl (w_X11_soonest_L148 C hr hR (f_X11_soonest_L135 n) ih _ _ _ _ _ _ _ _ _ h)
noncomputable def f_X11_soonest_B86  (σ : cr_S) (x1 : Int32) (x2 : Int32) (x3 : Int32) (x4 : Int32) : Option (cr_S × Int32) :=
  Option.bind (f_X11_endOf σ 0 x4) (fun q9 => cr_let q9.2 (fun v11 => (if v11 = 999999 then some (q9.1, (-4)) else (if 0 ≤ x3 then f_X11_soonest_L135 cr_fuel q9.1 x1 x2 x3 v11 x4 0 0 else some (q9.1, if x3 = (-2) then v11 else x2 + x4)))))
set_option maxRecDepth 100000 in
set_option maxHeartbeats 4000000 in
theorem w_X11_soonest_B86 (C : cr_C p l e R s m args below meth c sfM 17 base D cA cX11_soonest 9 RX11) (hr : meth.sig.returnType = some .int) (hR : 5 ≤ R.frames ∧ 126 ≤ R.locals) {res : cr_S × Int32}  (σ : cr_S) (x1 : Int32) (x2 : Int32) (x3 : Int32) (x4 : Int32) (h : f_X11_soonest_B86 σ x1 x2 x3 x4 = some res) : cr_W p l e R s m args below meth c sfM 17 base D cA 9 (MQ below (cr_Qi sfM 17 base D cA res) args s 0 0 (cr_A 17 base)) σ 86 [(0, .ref (base + 0)), (1, .int x1), (2, .int x2), (3, .int x3), (4, .int x4)] [] := by
  unfold f_X11_soonest_B86 at h
  refine g_aload_n (pc' := 87) C dX11_soonest_86 0 rfl rfl ?_
  refine g_iconst (pc' := 88) (v := 0) C dX11_soonest_87 (by decide) rfl ?_
  refine g_iload (pc' := 90) C dX11_soonest_88 4 rfl rfl ?_
  obtain ⟨q9, h10, h⟩ := bind_some h
  refine g_callVi (pc' := 93) (res := q9) C [.int 0, .int x4] cY_X11_endOf rfl (o := 0) (by decide) rfl mv_X11_endOf mm_X11_219 ⟨Nat.le_trans (by decide) hR.1, Nat.le_trans (by decide) hR.2⟩ rfl (Nat.le_of_ble_eq_true rfl) rfl dX11_soonest_90 (c_X11_endOf l base D cA σ 0 x4 q9 h10) rfl ?_
  obtain ⟨v11, e12, h⟩ := let_some h
  refine g_nameI e12 ?_
  refine g_istore (pc' := 95) (lv' := [(5, .int v11), (0, .ref (base + 0)), (1, .int x1), (2, .int x2), (3, .int x3), (4, .int x4)]) C dX11_soonest_93 (by decide) rfl rfl ?_
  refine g_iload (pc' := 97) C dX11_soonest_95 0 rfl rfl ?_
  refine g_ldc (pc' := 99) (v := 999999) C dX11_soonest_97 mk_X11_214 rfl ?_
  refine g_icmp_ne (pc' := 102) (tgt := 105) C dX11_soonest_99 (by decide) rfl (fun hc => ?_) (fun hc => ?_)
  · rw [if_neg hc] at h
    refine g_iload_n (pc' := 106) C dX11_soonest_105 4 rfl rfl ?_
    refine g_if_ge (pc' := 109) (tgt := 125) C dX11_soonest_106 (by decide) rfl (fun hc => ?_) (fun hc => ?_)
    · rw [if_pos hc] at h
      refine g_iload (pc' := 127) C dX11_soonest_125 5 rfl rfl ?_
      refine g_istore (pc' := 129) (lv' := [(6, .int x4), (5, .int v11), (0, .ref (base + 0)), (1, .int x1), (2, .int x2), (3, .int x3), (4, .int x4)]) C dX11_soonest_127 (by decide) rfl rfl ?_
      refine g_iconst (pc' := 130) (v := 0) C dX11_soonest_129 (by decide) rfl ?_
      refine g_istore (pc' := 132) (lv' := [(7, .int 0), (6, .int x4), (5, .int v11), (0, .ref (base + 0)), (1, .int x1), (2, .int x2), (3, .int x3), (4, .int x4)]) C dX11_soonest_130 (by decide) rfl rfl ?_
      refine g_iconst (pc' := 133) (v := 0) C dX11_soonest_132 (by decide) rfl ?_
      refine g_istore (pc' := 135) (lv' := [(8, .int 0), (7, .int 0), (6, .int x4), (5, .int v11), (0, .ref (base + 0)), (1, .int x1), (2, .int x2), (3, .int x3), (4, .int x4)]) C dX11_soonest_133 (by decide) rfl rfl ?_
      exact g_sub C [4, 5, 6, 7, 3, 2, 1, 0] rfl (w_X11_soonest_L135 C hr hR _ _ _ _ _ _ _ _ _ h)
    · rw [if_neg hc] at h
      refine g_iload_n (pc' := 110) C dX11_soonest_109 4 rfl rfl ?_
      refine g_bipush (pc' := 112) (v := (-2)) C dX11_soonest_110 (by decide) rfl ?_
      refine g_iteI (σ := q9.1) (pj := 124) (lv := [(5, .int v11), (0, .ref (base + 0)), (1, .int x1), (2, .int x2), (3, .int x3), (4, .int x4)]) (st := []) (cd := x3 = (-2)) (a := v11) (b := x2 + x4) C ?_ (fun kt kf => ?_)
      · exact g_iret C hr dX11_soonest_124 h
      · refine g_icmp_ne (pc' := 115) (tgt := 120) C dX11_soonest_112 (by decide) rfl (fun hc => ?_) (fun hc => ?_)
        · refine g_iload_n (pc' := 121) C dX11_soonest_120 3 rfl rfl ?_
          refine g_iload (pc' := 123) C dX11_soonest_121 5 rfl rfl ?_
          refine g_iadd (pc' := 124) C dX11_soonest_123 rfl ?_
          exact kf hc
        · refine g_iload (pc' := 117) C dX11_soonest_115 0 rfl rfl ?_
          refine g_goto (tgt := 124) C dX11_soonest_117 (by decide) ?_
          exact kt hc
  · rw [if_pos hc] at h
    refine g_bipush (pc' := 104) (v := (-4)) C dX11_soonest_102 (by decide) rfl ?_
    exact g_iret C hr dX11_soonest_104 h
noncomputable def f_X11_soonest_B78 (r47 : cr_S → Int32 → Int32 → Int32 → Int32 → Int32 → Option (cr_S × Int32)) (σ : cr_S) (x1 : Int32) (x2 : Int32) (x3 : Int32) (x5 : Int32) (t0 : Int32) : Option (cr_S × Int32) :=
  cr_let (x5 + 1) (fun v29 => r47 σ x1 x2 x3 t0 v29)
set_option maxRecDepth 100000 in
set_option maxHeartbeats 4000000 in
theorem w_X11_soonest_B78 (C : cr_C p l e R s m args below meth c sfM 17 base D cA cX11_soonest 9 RX11) (hr : meth.sig.returnType = some .int) (hR : 5 ≤ R.frames ∧ 126 ≤ R.locals) {res : cr_S × Int32} (r47 : cr_S → Int32 → Int32 → Int32 → Int32 → Int32 → Option (cr_S × Int32)) (hr47 : ∀ (σ : cr_S) (x1 : Int32) (x2 : Int32) (x3 : Int32) (x4 : Int32) (x5 : Int32), r47 σ x1 x2 x3 x4 x5 = some res → cr_W p l e R s m args below meth c sfM 17 base D cA 9 (MQ below (cr_Qi sfM 17 base D cA res) args s 0 0 (cr_A 17 base)) σ 47 [(0, .ref (base + 0)), (1, .int x1), (2, .int x2), (3, .int x3), (4, .int x4), (5, .int x5)] []) (σ : cr_S) (x1 : Int32) (x2 : Int32) (x3 : Int32) (x5 : Int32) (t0 : Int32) (h : f_X11_soonest_B78 r47 σ x1 x2 x3 x5 t0 = some res) : cr_W p l e R s m args below meth c sfM 17 base D cA 9 (MQ below (cr_Qi sfM 17 base D cA res) args s 0 0 (cr_A 17 base)) σ 78 [(0, .ref (base + 0)), (1, .int x1), (2, .int x2), (3, .int x3), (5, .int x5)] [.int t0] := by
  unfold f_X11_soonest_B78 at h
  refine g_istore (pc' := 80) (lv' := [(4, .int t0), (0, .ref (base + 0)), (1, .int x1), (2, .int x2), (3, .int x3), (5, .int x5)]) C dX11_soonest_78 (by decide) rfl rfl ?_
  obtain ⟨v29, e30, h⟩ := let_some h
  refine g_iinc (pc' := 83) (v := v29) (lv' := [(5, .int v29), (4, .int t0), (0, .ref (base + 0)), (1, .int x1), (2, .int x2), (3, .int x3)]) C dX11_soonest_80 5 rfl (by rw [e30]; rfl) (by decide) rfl rfl ?_
  refine g_goto (tgt := 47) C dX11_soonest_83 (by decide) ?_
  exact g_sub C [2, 3, 4, 5, 1, 0] rfl (hr47 _ _ _ _ _ _ h)
noncomputable def f_X11_soonest_L47  : Nat → cr_S → Int32 → Int32 → Int32 → Int32 → Int32 → Option (cr_S × Int32)
  | 0, _, _, _, _, _, _ => none
  | n + 1, σ, x1, x2, x3, x4, x5 =>
    (if 100 ≤ x5 then f_X11_soonest_B86 σ x1 x2 x3 x4 else Option.bind (f_X11_endOf σ 0 x5) (fun q25 => Option.bind (f_X11_endOf q25.1 0 x4) (fun q27 => f_X11_soonest_B78 (f_X11_soonest_L47 n) q27.1 x1 x2 x3 x5 (if q27.2 < q25.2 then x4 else x5))))
set_option maxRecDepth 100000 in
set_option maxHeartbeats 4000000 in
theorem w_X11_soonest_L47 (C : cr_C p l e R s m args below meth c sfM 17 base D cA cX11_soonest 9 RX11) (hr : meth.sig.returnType = some .int) (hR : 5 ≤ R.frames ∧ 126 ≤ R.locals) {res : cr_S × Int32}  : ∀ (n : Nat) (σ : cr_S) (x1 : Int32) (x2 : Int32) (x3 : Int32) (x4 : Int32) (x5 : Int32), f_X11_soonest_L47 n σ x1 x2 x3 x4 x5 = some res → cr_W p l e R s m args below meth c sfM 17 base D cA 9 (MQ below (cr_Qi sfM 17 base D cA res) args s 0 0 (cr_A 17 base)) σ 47 [(0, .ref (base + 0)), (1, .int x1), (2, .int x2), (3, .int x3), (4, .int x4), (5, .int x5)] [] := by
  intro n
  induction n with
  | zero =>
    intro σ x1 x2 x3 x4 x5 h
    cases h
  | succ n ih =>
    intro σ x1 x2 x3 x4 x5 h
    rw [f_X11_soonest_L47] at h
    refine g_iload (pc' := 49) C dX11_soonest_47 5 rfl rfl ?_
    refine g_bipush (pc' := 51) (v := 100) C dX11_soonest_49 (by decide) rfl ?_
    refine g_icmp_ge (pc' := 54) (tgt := 86) C dX11_soonest_51 (by decide) rfl (fun hc => ?_) (fun hc => ?_)
    · rw [if_pos hc] at h
      exact g_sub C [0, 1, 2, 3, 4] rfl (w_X11_soonest_B86 C hr hR _ _ _ _ _ h)
    · rw [if_neg hc] at h
      refine g_aload_n (pc' := 55) C dX11_soonest_54 0 rfl rfl ?_
      refine g_iconst (pc' := 56) (v := 0) C dX11_soonest_55 (by decide) rfl ?_
      refine g_iload (pc' := 58) C dX11_soonest_56 5 rfl rfl ?_
      obtain ⟨q25, h26, h⟩ := bind_some h
      refine g_callVi (pc' := 61) (res := q25) C [.int 0, .int x5] cY_X11_endOf rfl (o := 0) (by decide) rfl mv_X11_endOf mm_X11_219 ⟨Nat.le_trans (by decide) hR.1, Nat.le_trans (by decide) hR.2⟩ rfl (Nat.le_of_ble_eq_true rfl) rfl dX11_soonest_58 (c_X11_endOf l base D cA σ 0 x5 q25 h26) rfl ?_
      refine g_aload_n (pc' := 62) C dX11_soonest_61 0 rfl rfl ?_
      refine g_iconst (pc' := 63) (v := 0) C dX11_soonest_62 (by decide) rfl ?_
      refine g_iload (pc' := 65) C dX11_soonest_63 4 rfl rfl ?_
      obtain ⟨q27, h28, h⟩ := bind_some h
      refine g_callVi (pc' := 68) (res := q27) C [.int 0, .int x4] cY_X11_endOf rfl (o := 0) (by decide) rfl mv_X11_endOf mm_X11_219 ⟨Nat.le_trans (by decide) hR.1, Nat.le_trans (by decide) hR.2⟩ rfl (Nat.le_of_ble_eq_true rfl) rfl dX11_soonest_65 (c_X11_endOf l base D cA q25.1 0 x4 q27 h28) rfl ?_
      refine g_iteI (σ := q27.1) (pj := 78) (lv := [(0, .ref (base + 0)), (1, .int x1), (2, .int x2), (3, .int x3), (4, .int x4), (5, .int x5)]) (st := []) (cd := q27.2 < q25.2) (a := x4) (b := x5) C ?_ (fun kt kf => ?_)
      · exact g_sub C [0, 1, 2, 3, 5] rfl (w_X11_soonest_B78 C hr hR (f_X11_soonest_L47 n) ih _ _ _ _ _ _ h)
      · refine g_icmp_gt (pc' := 71) (tgt := 76) C dX11_soonest_68 (by decide) rfl (fun hc => ?_) (fun hc => ?_)
        · refine g_iload (pc' := 78) C dX11_soonest_76 4 rfl rfl ?_
          exact kt hc
        · refine g_iload (pc' := 73) C dX11_soonest_71 5 rfl rfl ?_
          refine g_goto (tgt := 78) C dX11_soonest_73 (by decide) ?_
          exact kf hc
noncomputable def f_X11_soonest (σ : cr_S) (a1 : Int32) (a2 : Int32) (a3 : Int32) : Option (cr_S × Int32) :=
  Option.bind (f_X11_isShip σ a1) (fun q1 => (if q1.2 = 0 then some (q1.1, (-1)) else Option.bind (f_X11_isSecond q1.1 a2) (fun q3 => (if q3.2 = 0 then some (q3.1, (-1)) else Option.bind (f_X11_in q3.1 (Int32.toInt64 a3) (-2) (Int32.toInt64 ((rF q3.1 0 0) - 1))) (fun q5 => (if q5.2 = 0 then some (q5.1, (-1)) else Option.bind (f_X11_looksOn q5.1 a1 a2) (fun q7 => f_X11_soonest_L47 cr_fuel q7 a1 a2 a3 0 1)))))))
set_option maxRecDepth 100000 in
set_option maxHeartbeats 4000000 in
theorem w_X11_soonest (C : cr_C p l e R s m args below meth c sfM 17 base D cA cX11_soonest 9 RX11) (hr : meth.sig.returnType = some .int) (hR : 5 ≤ R.frames ∧ 126 ≤ R.locals) {res : cr_S × Int32} (σ : cr_S) (a1 : Int32) (a2 : Int32) (a3 : Int32) (h : f_X11_soonest σ a1 a2 a3 = some res) : cr_W p l e R s m args below meth c sfM 17 base D cA 9 (MQ below (cr_Qi sfM 17 base D cA res) args s 0 0 (cr_A 17 base)) σ 0 [(0, .ref (base + 0)), (1, .int a1), (2, .int a2), (3, .int a3)] [] := by
  unfold f_X11_soonest at h
  refine g_aload_n (pc' := 1) C dX11_soonest_0 0 rfl rfl ?_
  refine g_iload_n (pc' := 2) C dX11_soonest_1 1 rfl rfl ?_
  obtain ⟨q1, h2, h⟩ := bind_some h
  refine g_callVi (pc' := 5) (res := q1) C [.int a1] cY_X11_isShip rfl (o := 0) (by decide) rfl mv_X11_isShip mm_X11_105 ⟨Nat.le_trans (by decide) hR.1, Nat.le_trans (by decide) hR.2⟩ rfl (Nat.le_of_ble_eq_true rfl) rfl dX11_soonest_2 (c_X11_isShip l base D cA σ a1 q1 h2) rfl ?_
  refine g_if_eq (pc' := 8) (tgt := 33) C dX11_soonest_5 (by decide) rfl (fun hc => ?_) (fun hc => ?_)
  · rw [if_pos hc] at h
    refine g_iconst (pc' := 34) (v := (-1)) C dX11_soonest_33 (by decide) rfl ?_
    exact g_iret C hr dX11_soonest_34 h
  · rw [if_neg hc] at h
    refine g_iload_n (pc' := 9) C dX11_soonest_8 2 rfl rfl ?_
    obtain ⟨q3, h4, h⟩ := bind_some h
    refine g_callSi (pc' := 12) (res := q3) C [.int a2] cY_X11_isSecond mv_X11_isSecond mm_X11_222 ⟨Nat.le_trans (by decide) hR.1, Nat.le_trans (by decide) hR.2⟩ rfl (Nat.le_of_ble_eq_true rfl) rfl dX11_soonest_9 (c_X11_isSecond l base D cA q1.1 a2 q3 h4) rfl ?_
    refine g_if_eq (pc' := 15) (tgt := 33) C dX11_soonest_12 (by decide) rfl (fun hc => ?_) (fun hc => ?_)
    · rw [if_pos hc] at h
      refine g_iconst (pc' := 34) (v := (-1)) C dX11_soonest_33 (by decide) rfl ?_
      exact g_iret C hr dX11_soonest_34 h
    · rw [if_neg hc] at h
      refine g_iload_n (pc' := 16) C dX11_soonest_15 3 rfl rfl ?_
      refine g_i2l (pc' := 17) C dX11_soonest_16 rfl ?_
      refine g_ldc2 (pc' := 20) (v := (-2)) C dX11_soonest_17 ml_X11_225 rfl ?_
      refine g_aload_n (pc' := 21) C dX11_soonest_20 0 rfl rfl ?_
      refine gg_X11_63 (pc' := 24) C dX11_soonest_21 rfl ?_
      refine g_iconst (pc' := 25) (v := 1) C dX11_soonest_24 (by decide) rfl ?_
      refine g_isub (pc' := 26) C dX11_soonest_25 rfl ?_
      refine g_i2l (pc' := 27) C dX11_soonest_26 rfl ?_
      obtain ⟨q5, h6, h⟩ := bind_some h
      refine g_callSi (pc' := 30) (res := q5) C [.long (Int32.toInt64 a3), .long (-2), .long (Int32.toInt64 ((rF q3.1 0 0) - 1))] cY_X11_in mv_X11_in mm_X11_66 ⟨Nat.le_trans (by decide) hR.1, Nat.le_trans (by decide) hR.2⟩ rfl (Nat.le_of_ble_eq_true rfl) rfl dX11_soonest_27 (c_X11_in l base D cA q3.1 (Int32.toInt64 a3) (-2) (Int32.toInt64 ((rF q3.1 0 0) - 1)) q5 h6) rfl ?_
      refine g_if_ne (pc' := 33) (tgt := 35) C dX11_soonest_30 (by decide) rfl (fun hc => ?_) (fun hc => ?_)
      · rw [if_neg hc] at h
        refine g_aload_n (pc' := 36) C dX11_soonest_35 0 rfl rfl ?_
        refine g_iload_n (pc' := 37) C dX11_soonest_36 1 rfl rfl ?_
        refine g_iload_n (pc' := 38) C dX11_soonest_37 2 rfl rfl ?_
        obtain ⟨q7, h8, h⟩ := bind_some h
        refine g_callVv (pc' := 41) (res := q7) C [.int a1, .int a2] cY_X11_looksOn rfl (o := 0) (by decide) rfl mv_X11_looksOn mm_X11_227 ⟨Nat.le_trans (by decide) hR.1, Nat.le_trans (by decide) hR.2⟩ rfl (Nat.le_of_ble_eq_true rfl) rfl dX11_soonest_38 (c_X11_looksOn l base D cA q5.1 a1 a2 q7 h8) rfl ?_
        refine g_iconst (pc' := 42) (v := 0) C dX11_soonest_41 (by decide) rfl ?_
        refine g_istore (pc' := 44) (lv' := [(4, .int 0), (0, .ref (base + 0)), (1, .int a1), (2, .int a2), (3, .int a3)]) C dX11_soonest_42 (by decide) rfl rfl ?_
        refine g_iconst (pc' := 45) (v := 1) C dX11_soonest_44 (by decide) rfl ?_
        refine g_istore (pc' := 47) (lv' := [(5, .int 1), (4, .int 0), (0, .ref (base + 0)), (1, .int a1), (2, .int a2), (3, .int a3)]) C dX11_soonest_45 (by decide) rfl rfl ?_
        exact g_sub C [2, 3, 4, 5, 1, 0] rfl (w_X11_soonest_L47 C hr hR _ _ _ _ _ _ _ h)
      · rw [if_pos hc] at h
        refine g_iconst (pc' := 34) (v := (-1)) C dX11_soonest_33 (by decide) rfl ?_
        exact g_iret C hr dX11_soonest_34 h
theorem c_X11_soonest (l : Launch) (base : Nat) (D : va_G) (cA : Nat → ClassId) (σ : cr_S) (a1 : Int32) (a2 : Int32) (a3 : Int32) (res : cr_S × Int32) (h : f_X11_soonest σ a1 a2 a3 = some res) : cr_M l yX11_soonest cX11_soonest 9 (some .int) 5 126 sfM 17 base D cA [.ref (base + 0), .int a1, .int a2, .int a3] σ (cr_Qi sfM 17 base D cA res) := by
  refine cr_enter [.ref (base + 0), .int a1, .int a2, .int a3] [(0, .ref (base + 0)), (1, .int a1), (2, .int a2), (3, .int a3)] (by decide) (Nat.le_of_ble_eq_true rfl) rfl ?_
  intro p e R s m below meth c C hr hR
  exact w_X11_soonest C hr hR σ a1 a2 a3 h
noncomputable def f_X11_full (σ : cr_S) (a1 : Int32) (a2 : Int32) (a3 : Int32) : Option (cr_S × Int32) :=
  Option.bind (f_X11_isShip σ a1) (fun q1 => (if q1.2 = 0 then some (q1.1, (-1)) else Option.bind (f_X11_isSecond q1.1 a2) (fun q3 => (if q3.2 = 0 then some (q3.1, (-1)) else Option.bind (f_X11_in q3.1 (Int32.toInt64 a3) 0 2) (fun q5 => (if q5.2 = 0 then some (q5.1, (-1)) else Option.bind (f_X11_goesFull q5.1 a1 a2) (fun q7 => (if a3 = 0 then some (q7, rF q7 0 8) else (if a3 = 1 then some (q7, rF q7 0 9) else some (q7, rF q7 0 7))))))))))
set_option maxRecDepth 100000 in
set_option maxHeartbeats 4000000 in
theorem w_X11_full (C : cr_C p l e R s m args below meth c sfM 17 base D cA cX11_full 4 RX11) (hr : meth.sig.returnType = some .int) (hR : 5 ≤ R.frames ∧ 120 ≤ R.locals) {res : cr_S × Int32} (σ : cr_S) (a1 : Int32) (a2 : Int32) (a3 : Int32) (h : f_X11_full σ a1 a2 a3 = some res) : cr_W p l e R s m args below meth c sfM 17 base D cA 4 (MQ below (cr_Qi sfM 17 base D cA res) args s 0 0 (cr_A 17 base)) σ 0 [(0, .ref (base + 0)), (1, .int a1), (2, .int a2), (3, .int a3)] [] := by
  unfold f_X11_full at h
  refine g_aload_n (pc' := 1) C dX11_full_0 0 rfl rfl ?_
  refine g_iload_n (pc' := 2) C dX11_full_1 1 rfl rfl ?_
  obtain ⟨q1, h2, h⟩ := bind_some h
  refine g_callVi (pc' := 5) (res := q1) C [.int a1] cY_X11_isShip rfl (o := 0) (by decide) rfl mv_X11_isShip mm_X11_105 ⟨Nat.le_trans (by decide) hR.1, Nat.le_trans (by decide) hR.2⟩ rfl (Nat.le_of_ble_eq_true rfl) rfl dX11_full_2 (c_X11_isShip l base D cA σ a1 q1 h2) rfl ?_
  refine g_if_eq (pc' := 8) (tgt := 27) C dX11_full_5 (by decide) rfl (fun hc => ?_) (fun hc => ?_)
  · rw [if_pos hc] at h
    refine g_iconst (pc' := 28) (v := (-1)) C dX11_full_27 (by decide) rfl ?_
    exact g_iret C hr dX11_full_28 h
  · rw [if_neg hc] at h
    refine g_iload_n (pc' := 9) C dX11_full_8 2 rfl rfl ?_
    obtain ⟨q3, h4, h⟩ := bind_some h
    refine g_callSi (pc' := 12) (res := q3) C [.int a2] cY_X11_isSecond mv_X11_isSecond mm_X11_222 ⟨Nat.le_trans (by decide) hR.1, Nat.le_trans (by decide) hR.2⟩ rfl (Nat.le_of_ble_eq_true rfl) rfl dX11_full_9 (c_X11_isSecond l base D cA q1.1 a2 q3 h4) rfl ?_
    refine g_if_eq (pc' := 15) (tgt := 27) C dX11_full_12 (by decide) rfl (fun hc => ?_) (fun hc => ?_)
    · rw [if_pos hc] at h
      refine g_iconst (pc' := 28) (v := (-1)) C dX11_full_27 (by decide) rfl ?_
      exact g_iret C hr dX11_full_28 h
    · rw [if_neg hc] at h
      refine g_iload_n (pc' := 16) C dX11_full_15 3 rfl rfl ?_
      refine g_i2l (pc' := 17) C dX11_full_16 rfl ?_
      refine g_lconst (pc' := 18) (v := 0) C dX11_full_17 (by decide) rfl ?_
      refine g_ldc2 (pc' := 21) (v := 2) C dX11_full_18 ml_X11_79 rfl ?_
      obtain ⟨q5, h6, h⟩ := bind_some h
      refine g_callSi (pc' := 24) (res := q5) C [.long (Int32.toInt64 a3), .long 0, .long 2] cY_X11_in mv_X11_in mm_X11_66 ⟨Nat.le_trans (by decide) hR.1, Nat.le_trans (by decide) hR.2⟩ rfl (Nat.le_of_ble_eq_true rfl) rfl dX11_full_21 (c_X11_in l base D cA q3.1 (Int32.toInt64 a3) 0 2 q5 h6) rfl ?_
      refine g_if_ne (pc' := 27) (tgt := 29) C dX11_full_24 (by decide) rfl (fun hc => ?_) (fun hc => ?_)
      · rw [if_neg hc] at h
        refine g_aload_n (pc' := 30) C dX11_full_29 0 rfl rfl ?_
        refine g_iload_n (pc' := 31) C dX11_full_30 1 rfl rfl ?_
        refine g_iload_n (pc' := 32) C dX11_full_31 2 rfl rfl ?_
        obtain ⟨q7, h8, h⟩ := bind_some h
        refine g_callVv (pc' := 35) (res := q7) C [.int a1, .int a2] cY_X11_goesFull rfl (o := 0) (by decide) rfl mv_X11_goesFull mm_X11_211 ⟨Nat.le_trans (by decide) hR.1, Nat.le_trans (by decide) hR.2⟩ rfl (Nat.le_of_ble_eq_true rfl) rfl dX11_full_32 (c_X11_goesFull l base D cA q5.1 a1 a2 q7 h8) rfl ?_
        refine g_iload_n (pc' := 36) C dX11_full_35 3 rfl rfl ?_
        refine g_if_ne (pc' := 39) (tgt := 46) C dX11_full_36 (by decide) rfl (fun hc => ?_) (fun hc => ?_)
        · rw [if_neg hc] at h
          refine g_iload_n (pc' := 47) C dX11_full_46 3 rfl rfl ?_
          refine g_iconst (pc' := 48) (v := 1) C dX11_full_47 (by decide) rfl ?_
          refine g_icmp_ne (pc' := 51) (tgt := 58) C dX11_full_48 (by decide) rfl (fun hc => ?_) (fun hc => ?_)
          · rw [if_neg hc] at h
            refine g_aload_n (pc' := 59) C dX11_full_58 0 rfl rfl ?_
            refine gg_X11_130 (pc' := 62) C dX11_full_59 rfl ?_
            exact g_iret C hr dX11_full_62 h
          · rw [if_pos hc] at h
            refine g_aload_n (pc' := 52) C dX11_full_51 0 rfl rfl ?_
            refine gg_X11_136 (pc' := 55) C dX11_full_52 rfl ?_
            refine g_goto (tgt := 62) C dX11_full_55 (by decide) ?_
            exact g_iret C hr dX11_full_62 h
        · rw [if_pos hc] at h
          refine g_aload_n (pc' := 40) C dX11_full_39 0 rfl rfl ?_
          refine gg_X11_133 (pc' := 43) C dX11_full_40 rfl ?_
          refine g_goto (tgt := 62) C dX11_full_43 (by decide) ?_
          exact g_iret C hr dX11_full_62 h
      · rw [if_pos hc] at h
        refine g_iconst (pc' := 28) (v := (-1)) C dX11_full_27 (by decide) rfl ?_
        exact g_iret C hr dX11_full_28 h
theorem c_X11_full (l : Launch) (base : Nat) (D : va_G) (cA : Nat → ClassId) (σ : cr_S) (a1 : Int32) (a2 : Int32) (a3 : Int32) (res : cr_S × Int32) (h : f_X11_full σ a1 a2 a3 = some res) : cr_M l yX11_full cX11_full 4 (some .int) 5 120 sfM 17 base D cA [.ref (base + 0), .int a1, .int a2, .int a3] σ (cr_Qi sfM 17 base D cA res) := by
  refine cr_enter [.ref (base + 0), .int a1, .int a2, .int a3] [(0, .ref (base + 0)), (1, .int a1), (2, .int a2), (3, .int a3)] (by decide) (Nat.le_of_ble_eq_true rfl) rfl ?_
  intro p e R s m below meth c C hr hR
  exact w_X11_full C hr hR σ a1 a2 a3 h
noncomputable def f_X11_clears_B112 (r8 : cr_S → Int32 → Int32 → Int32 → Int32 → Option (cr_S × Int32)) (σ : cr_S) (x1 : Int32) (x3 : Int32) (x4 : Int32) (x5 : Int32) (x8 : Int32) : Option (cr_S × Int32) :=
  cr_let (x3 * x8) (fun v7 => chk (inb ((5 * x5) + 1) 30) (Option.bind (f_X11_high σ x1) (fun q10 => Option.bind (f_X11_upwards q10.1 (rA σ 1 ((5 * x5) + 1)) q10.2) (fun q12 => Option.bind (f_X11_span q12.1 x1) (fun q14 => Option.bind (f_X11_high q14.1 x1) (fun q16 => Option.bind (f_X11_upwards q16.1 q14.2 q16.2) (fun q18 => cr_let (x4 + (q12.2 + q18.2)) (fun v20 => cr_let (x5 + 1) (fun v22 => r8 q18.1 x1 v7 v20 v22)))))))))
set_option maxRecDepth 100000 in
set_option maxHeartbeats 4000000 in
theorem w_X11_clears_B112 (C : cr_C p l e R s m args below meth c sfM 17 base D cA cX11_clears 10 RX11) (hr : meth.sig.returnType = some .int) (hR : 3 ≤ R.frames ∧ 74 ≤ R.locals) {res : cr_S × Int32} (r8 : cr_S → Int32 → Int32 → Int32 → Int32 → Option (cr_S × Int32)) (hr8 : ∀ (σ : cr_S) (x1 : Int32) (x3 : Int32) (x4 : Int32) (x5 : Int32), r8 σ x1 x3 x4 x5 = some res → cr_W p l e R s m args below meth c sfM 17 base D cA 10 (MQ below (cr_Qi sfM 17 base D cA res) args s 0 0 (cr_A 17 base)) σ 8 [(0, .ref (base + 0)), (1, .int x1), (3, .int x3), (4, .int x4), (5, .int x5)] []) (σ : cr_S) (x1 : Int32) (x3 : Int32) (x4 : Int32) (x5 : Int32) (x8 : Int32) (h : f_X11_clears_B112 r8 σ x1 x3 x4 x5 x8 = some res) : cr_W p l e R s m args below meth c sfM 17 base D cA 10 (MQ below (cr_Qi sfM 17 base D cA res) args s 0 0 (cr_A 17 base)) σ 112 [(0, .ref (base + 0)), (1, .int x1), (3, .int x3), (4, .int x4), (5, .int x5), (8, .int x8)] [] := by
  unfold f_X11_clears_B112 at h
  refine g_iload_n (pc' := 113) C dX11_clears_112 2 rfl rfl ?_
  refine g_iload (pc' := 115) C dX11_clears_113 5 rfl rfl ?_
  refine g_imul (pc' := 116) C dX11_clears_115 rfl ?_
  obtain ⟨v7, e8, h⟩ := let_some h
  refine g_nameI e8 ?_
  refine g_istore_n (pc' := 117) (lv' := [(3, .int v7), (0, .ref (base + 0)), (1, .int x1), (4, .int x4), (5, .int x5), (8, .int x8)]) C dX11_clears_116 rfl (by decide) rfl rfl ?_
  refine g_iload (pc' := 119) C dX11_clears_117 3 rfl rfl ?_
  refine g_aload_n (pc' := 120) C dX11_clears_119 1 rfl rfl ?_
  refine gg_X11_7 (pc' := 123) C dX11_clears_120 rfl ?_
  refine g_iconst (pc' := 124) (v := 5) C dX11_clears_123 (by decide) rfl ?_
  refine g_iload (pc' := 126) C dX11_clears_124 4 rfl rfl ?_
  refine g_imul (pc' := 127) C dX11_clears_126 rfl ?_
  refine g_iconst (pc' := 128) (v := 1) C dX11_clears_127 (by decide) rfl ?_
  refine g_iadd (pc' := 129) C dX11_clears_128 rfl ?_
  obtain ⟨h9, h⟩ := chk_some h
  refine g_iald (pc' := 130) C (o := 1) (by decide) rfl (inb_d h9) dX11_clears_129 rfl ?_
  refine g_aload_n (pc' := 131) C dX11_clears_130 1 rfl rfl ?_
  refine g_iload_n (pc' := 132) C dX11_clears_131 2 rfl rfl ?_
  obtain ⟨q10, h11, h⟩ := bind_some h
  refine g_callVi (pc' := 135) (res := q10) C [.int x1] cY_X11_high rfl (o := 0) (by decide) rfl mv_X11_high mm_X11_101 ⟨Nat.le_trans (by decide) hR.1, Nat.le_trans (by decide) hR.2⟩ rfl (Nat.le_of_ble_eq_true rfl) rfl dX11_clears_132 (c_X11_high l base D cA σ x1 q10 h11) rfl ?_
  obtain ⟨q12, h13, h⟩ := bind_some h
  refine g_callSi (pc' := 138) (res := q12) C [.int (rA σ 1 ((5 * x5) + 1)), .int q10.2] cY_X11_upwards mv_X11_upwards mm_X11_123 ⟨Nat.le_trans (by decide) hR.1, Nat.le_trans (by decide) hR.2⟩ rfl (Nat.le_of_ble_eq_true rfl) rfl dX11_clears_135 (c_X11_upwards l base D cA q10.1 (rA σ 1 ((5 * x5) + 1)) q10.2 q12 h13) rfl ?_
  refine g_aload_n (pc' := 139) C dX11_clears_138 1 rfl rfl ?_
  refine g_iload_n (pc' := 140) C dX11_clears_139 2 rfl rfl ?_
  obtain ⟨q14, h15, h⟩ := bind_some h
  refine g_callVi (pc' := 143) (res := q14) C [.int x1] cY_X11_span rfl (o := 0) (by decide) rfl mv_X11_span mm_X11_111 ⟨Nat.le_trans (by decide) hR.1, Nat.le_trans (by decide) hR.2⟩ rfl (Nat.le_of_ble_eq_true rfl) rfl dX11_clears_140 (c_X11_span l base D cA q12.1 x1 q14 h15) rfl ?_
  refine g_aload_n (pc' := 144) C dX11_clears_143 1 rfl rfl ?_
  refine g_iload_n (pc' := 145) C dX11_clears_144 2 rfl rfl ?_
  obtain ⟨q16, h17, h⟩ := bind_some h
  refine g_callVi (pc' := 148) (res := q16) C [.int x1] cY_X11_high rfl (o := 0) (by decide) rfl mv_X11_high mm_X11_101 ⟨Nat.le_trans (by decide) hR.1, Nat.le_trans (by decide) hR.2⟩ rfl (Nat.le_of_ble_eq_true rfl) rfl dX11_clears_145 (c_X11_high l base D cA q14.1 x1 q16 h17) rfl ?_
  obtain ⟨q18, h19, h⟩ := bind_some h
  refine g_callSi (pc' := 151) (res := q18) C [.int q14.2, .int q16.2] cY_X11_upwards mv_X11_upwards mm_X11_123 ⟨Nat.le_trans (by decide) hR.1, Nat.le_trans (by decide) hR.2⟩ rfl (Nat.le_of_ble_eq_true rfl) rfl dX11_clears_148 (c_X11_upwards l base D cA q16.1 q14.2 q16.2 q18 h19) rfl ?_
  refine g_iadd (pc' := 152) C dX11_clears_151 rfl ?_
  refine g_iadd (pc' := 153) C dX11_clears_152 rfl ?_
  obtain ⟨v20, e21, h⟩ := let_some h
  refine g_nameI e21 ?_
  refine g_istore (pc' := 155) (lv' := [(4, .int v20), (3, .int v7), (0, .ref (base + 0)), (1, .int x1), (5, .int x5), (8, .int x8)]) C dX11_clears_153 (by decide) rfl rfl ?_
  obtain ⟨v22, e23, h⟩ := let_some h
  refine g_iinc (pc' := 158) (v := v22) (lv' := [(5, .int v22), (4, .int v20), (3, .int v7), (0, .ref (base + 0)), (1, .int x1), (8, .int x8)]) C dX11_clears_155 4 rfl (by rw [e23]; rfl) (by decide) rfl rfl ?_
  refine g_goto (tgt := 8) C dX11_clears_158 (by decide) ?_
  exact g_sub C [3, 4, 2, 1, 0] rfl (hr8 _ _ _ _ _ h)
noncomputable def f_X11_clears_B103 (r8 : cr_S → Int32 → Int32 → Int32 → Int32 → Option (cr_S × Int32)) (r49 : cr_S → Int32 → Int32 → Int32 → Int32 → Int32 → Int32 → Int32 → Int32 → Option (cr_S × Int32)) (σ : cr_S) (x1 : Int32) (x3 : Int32) (x4 : Int32) (x5 : Int32) (x6 : Int32) (x7 : Int32) (x9 : Int32) (t0 : Int32) (t1 : Int32) : Option (cr_S × Int32) :=
  cr_let (t1 + t0) (fun v29 => cr_let (x9 + 1) (fun v31 => r49 σ x1 x3 x4 x5 x6 x7 v29 v31))
set_option maxRecDepth 100000 in
set_option maxHeartbeats 4000000 in
theorem w_X11_clears_B103 (C : cr_C p l e R s m args below meth c sfM 17 base D cA cX11_clears 10 RX11) (hr : meth.sig.returnType = some .int) (hR : 3 ≤ R.frames ∧ 74 ≤ R.locals) {res : cr_S × Int32} (r8 : cr_S → Int32 → Int32 → Int32 → Int32 → Option (cr_S × Int32)) (r49 : cr_S → Int32 → Int32 → Int32 → Int32 → Int32 → Int32 → Int32 → Int32 → Option (cr_S × Int32)) (hr8 : ∀ (σ : cr_S) (x1 : Int32) (x3 : Int32) (x4 : Int32) (x5 : Int32), r8 σ x1 x3 x4 x5 = some res → cr_W p l e R s m args below meth c sfM 17 base D cA 10 (MQ below (cr_Qi sfM 17 base D cA res) args s 0 0 (cr_A 17 base)) σ 8 [(0, .ref (base + 0)), (1, .int x1), (3, .int x3), (4, .int x4), (5, .int x5)] []) (hr49 : ∀ (σ : cr_S) (x1 : Int32) (x3 : Int32) (x4 : Int32) (x5 : Int32) (x6 : Int32) (x7 : Int32) (x8 : Int32) (x9 : Int32), r49 σ x1 x3 x4 x5 x6 x7 x8 x9 = some res → cr_W p l e R s m args below meth c sfM 17 base D cA 10 (MQ below (cr_Qi sfM 17 base D cA res) args s 0 0 (cr_A 17 base)) σ 49 [(0, .ref (base + 0)), (1, .int x1), (3, .int x3), (4, .int x4), (5, .int x5), (6, .int x6), (7, .int x7), (8, .int x8), (9, .int x9)] []) (σ : cr_S) (x1 : Int32) (x3 : Int32) (x4 : Int32) (x5 : Int32) (x6 : Int32) (x7 : Int32) (x9 : Int32) (t0 : Int32) (t1 : Int32) (h : f_X11_clears_B103 r8 r49 σ x1 x3 x4 x5 x6 x7 x9 t0 t1 = some res) : cr_W p l e R s m args below meth c sfM 17 base D cA 10 (MQ below (cr_Qi sfM 17 base D cA res) args s 0 0 (cr_A 17 base)) σ 103 [(0, .ref (base + 0)), (1, .int x1), (3, .int x3), (4, .int x4), (5, .int x5), (6, .int x6), (7, .int x7), (9, .int x9)] [.int t0, .int t1] := by
  unfold f_X11_clears_B103 at h
  refine g_iadd (pc' := 104) C dX11_clears_103 rfl ?_
  obtain ⟨v29, e30, h⟩ := let_some h
  refine g_nameI e30 ?_
  refine g_istore (pc' := 106) (lv' := [(8, .int v29), (0, .ref (base + 0)), (1, .int x1), (3, .int x3), (4, .int x4), (5, .int x5), (6, .int x6), (7, .int x7), (9, .int x9)]) C dX11_clears_104 (by decide) rfl rfl ?_
  obtain ⟨v31, e32, h⟩ := let_some h
  refine g_iinc (pc' := 109) (v := v31) (lv' := [(9, .int v31), (8, .int v29), (0, .ref (base + 0)), (1, .int x1), (3, .int x3), (4, .int x4), (5, .int x5), (6, .int x6), (7, .int x7)]) C dX11_clears_106 8 rfl (by rw [e32]; rfl) (by decide) rfl rfl ?_
  refine g_goto (tgt := 49) C dX11_clears_109 (by decide) ?_
  exact g_sub C [2, 3, 4, 5, 6, 7, 8, 1, 0] rfl (hr49 _ _ _ _ _ _ _ _ _ h)
noncomputable def f_X11_clears_L49 (r8 : cr_S → Int32 → Int32 → Int32 → Int32 → Option (cr_S × Int32)) : Nat → cr_S → Int32 → Int32 → Int32 → Int32 → Int32 → Int32 → Int32 → Int32 → Option (cr_S × Int32)
  | 0, _, _, _, _, _, _, _, _, _ => none
  | n + 1, σ, x1, x3, x4, x5, x6, x7, x8, x9 =>
    (if 2 ≤ x9 then f_X11_clears_B112 r8 σ x1 x3 x4 x5 x8 else chk (¬ x6 = 0) (Option.bind (f_X11_high σ x1) (fun q25 => Option.bind (f_X11_passes q25.1 x1 x5 (((x7 + x9) + x6) - ((x7 + x9) + x6) / x6 * x6) x4 q25.2) (fun q27 => (if (rF q27 0 6) = 0 then (if x9 = 0 then f_X11_clears_B103 r8 (f_X11_clears_L49 r8 n) q27 x1 x3 x4 x5 x6 x7 x9 2 x8 else f_X11_clears_B103 r8 (f_X11_clears_L49 r8 n) q27 x1 x3 x4 x5 x6 x7 x9 1 x8) else f_X11_clears_B103 r8 (f_X11_clears_L49 r8 n) q27 x1 x3 x4 x5 x6 x7 x9 0 x8)))))
set_option maxRecDepth 100000 in
set_option maxHeartbeats 4000000 in
theorem w_X11_clears_L49 (C : cr_C p l e R s m args below meth c sfM 17 base D cA cX11_clears 10 RX11) (hr : meth.sig.returnType = some .int) (hR : 3 ≤ R.frames ∧ 74 ≤ R.locals) {res : cr_S × Int32} (r8 : cr_S → Int32 → Int32 → Int32 → Int32 → Option (cr_S × Int32)) (hr8 : ∀ (σ : cr_S) (x1 : Int32) (x3 : Int32) (x4 : Int32) (x5 : Int32), r8 σ x1 x3 x4 x5 = some res → cr_W p l e R s m args below meth c sfM 17 base D cA 10 (MQ below (cr_Qi sfM 17 base D cA res) args s 0 0 (cr_A 17 base)) σ 8 [(0, .ref (base + 0)), (1, .int x1), (3, .int x3), (4, .int x4), (5, .int x5)] []) : ∀ (n : Nat) (σ : cr_S) (x1 : Int32) (x3 : Int32) (x4 : Int32) (x5 : Int32) (x6 : Int32) (x7 : Int32) (x8 : Int32) (x9 : Int32), f_X11_clears_L49 r8 n σ x1 x3 x4 x5 x6 x7 x8 x9 = some res → cr_W p l e R s m args below meth c sfM 17 base D cA 10 (MQ below (cr_Qi sfM 17 base D cA res) args s 0 0 (cr_A 17 base)) σ 49 [(0, .ref (base + 0)), (1, .int x1), (3, .int x3), (4, .int x4), (5, .int x5), (6, .int x6), (7, .int x7), (8, .int x8), (9, .int x9)] [] := by
  intro n
  induction n with
  | zero =>
    intro σ x1 x3 x4 x5 x6 x7 x8 x9 h
    cases h
  | succ n ih =>
    intro σ x1 x3 x4 x5 x6 x7 x8 x9 h
    rw [f_X11_clears_L49] at h
    refine g_iload (pc' := 51) C dX11_clears_49 8 rfl rfl ?_
    refine g_iconst (pc' := 52) (v := 2) C dX11_clears_51 (by decide) rfl ?_
    refine g_icmp_ge (pc' := 55) (tgt := 112) C dX11_clears_52 (by decide) rfl (fun hc => ?_) (fun hc => ?_)
    · rw [if_pos hc] at h
      exact g_sub C [0, 1, 2, 3, 4, 7] rfl (w_X11_clears_B112 C hr hR r8 hr8 _ _ _ _ _ _ h)
    · rw [if_neg hc] at h
      refine g_aload_n (pc' := 56) C dX11_clears_55 0 rfl rfl ?_
      refine g_iload_n (pc' := 57) C dX11_clears_56 1 rfl rfl ?_
      refine g_iload (pc' := 59) C dX11_clears_57 4 rfl rfl ?_
      refine g_iload (pc' := 61) C dX11_clears_59 6 rfl rfl ?_
      refine g_iload (pc' := 63) C dX11_clears_61 8 rfl rfl ?_
      refine g_iadd (pc' := 64) C dX11_clears_63 rfl ?_
      refine g_iload (pc' := 66) C dX11_clears_64 5 rfl rfl ?_
      refine g_iadd (pc' := 67) C dX11_clears_66 rfl ?_
      refine g_iload (pc' := 69) C dX11_clears_67 5 rfl rfl ?_
      obtain ⟨h24, h⟩ := chk_some h
      refine g_irem (pc' := 70) C dX11_clears_69 h24 rfl ?_
      refine g_iload (pc' := 72) C dX11_clears_70 3 rfl rfl ?_
      refine g_aload_n (pc' := 73) C dX11_clears_72 0 rfl rfl ?_
      refine g_iload_n (pc' := 74) C dX11_clears_73 1 rfl rfl ?_
      obtain ⟨q25, h26, h⟩ := bind_some h
      refine g_callVi (pc' := 77) (res := q25) C [.int x1] cY_X11_high rfl (o := 0) (by decide) rfl mv_X11_high mm_X11_101 ⟨Nat.le_trans (by decide) hR.1, Nat.le_trans (by decide) hR.2⟩ rfl (Nat.le_of_ble_eq_true rfl) rfl dX11_clears_74 (c_X11_high l base D cA σ x1 q25 h26) rfl ?_
      obtain ⟨q27, h28, h⟩ := bind_some h
      refine g_callVv (pc' := 80) (res := q27) C [.int x1, .int x5, .int (((x7 + x9) + x6) - ((x7 + x9) + x6) / x6 * x6), .int x4, .int q25.2] cY_X11_passes rfl (o := 0) (by decide) rfl mv_X11_passes mm_X11_139 ⟨Nat.le_trans (by decide) hR.1, Nat.le_trans (by decide) hR.2⟩ rfl (Nat.le_of_ble_eq_true rfl) rfl dX11_clears_77 (c_X11_passes l base D cA q25.1 x1 x5 (((x7 + x9) + x6) - ((x7 + x9) + x6) / x6 * x6) x4 q25.2 q27 h28) rfl ?_
      refine g_iload (pc' := 82) C dX11_clears_80 7 rfl rfl ?_
      refine g_aload_n (pc' := 83) C dX11_clears_82 0 rfl rfl ?_
      refine gg_X11_127 (pc' := 86) C dX11_clears_83 rfl ?_
      refine g_if_eq (pc' := 89) (tgt := 93) C dX11_clears_86 (by decide) rfl (fun hc => ?_) (fun hc => ?_)
      · rw [if_pos hc] at h
        refine g_iload (pc' := 95) C dX11_clears_93 8 rfl rfl ?_
        refine g_if_ne (pc' := 98) (tgt := 102) C dX11_clears_95 (by decide) rfl (fun hc => ?_) (fun hc => ?_)
        · rw [if_neg hc] at h
          refine g_iconst (pc' := 103) (v := 1) C dX11_clears_102 (by decide) rfl ?_
          exact g_sub C [0, 1, 2, 3, 4, 5, 6, 8] rfl (w_X11_clears_B103 C hr hR r8 (f_X11_clears_L49 r8 n) hr8 ih _ _ _ _ _ _ _ _ _ _ h)
        · rw [if_pos hc] at h
          refine g_iconst (pc' := 99) (v := 2) C dX11_clears_98 (by decide) rfl ?_
          refine g_goto (tgt := 103) C dX11_clears_99 (by decide) ?_
          exact g_sub C [0, 1, 2, 3, 4, 5, 6, 8] rfl (w_X11_clears_B103 C hr hR r8 (f_X11_clears_L49 r8 n) hr8 ih _ _ _ _ _ _ _ _ _ _ h)
      · rw [if_neg hc] at h
        refine g_iconst (pc' := 90) (v := 0) C dX11_clears_89 (by decide) rfl ?_
        refine g_goto (tgt := 103) C dX11_clears_90 (by decide) ?_
        exact g_sub C [0, 1, 2, 3, 4, 5, 6, 8] rfl (w_X11_clears_B103 C hr hR r8 (f_X11_clears_L49 r8 n) hr8 ih _ _ _ _ _ _ _ _ _ _ h)
noncomputable def f_X11_clears_L8  : Nat → cr_S → Int32 → Int32 → Int32 → Int32 → Option (cr_S × Int32)
  | 0, _, _, _, _, _ => none
  | n + 1, σ, x1, x3, x4, x5 =>
    (if (rF σ 0 0) ≤ x5 then some (σ, x3) else chk (inb ((5 * x5) + 2) 30) (cr_let (rA σ 1 ((5 * x5) + 2)) (fun v2 => chk (inb ((5 * x5) + 4) 30) (cr_let (rA σ 1 ((5 * x5) + 4)) (fun v5 => f_X11_clears_L49 (f_X11_clears_L8 n) cr_fuel σ x1 x3 x4 x5 v2 v5 0 (-1))))))
set_option maxRecDepth 100000 in
set_option maxHeartbeats 4000000 in
theorem w_X11_clears_L8 (C : cr_C p l e R s m args below meth c sfM 17 base D cA cX11_clears 10 RX11) (hr : meth.sig.returnType = some .int) (hR : 3 ≤ R.frames ∧ 74 ≤ R.locals) {res : cr_S × Int32}  : ∀ (n : Nat) (σ : cr_S) (x1 : Int32) (x3 : Int32) (x4 : Int32) (x5 : Int32), f_X11_clears_L8 n σ x1 x3 x4 x5 = some res → cr_W p l e R s m args below meth c sfM 17 base D cA 10 (MQ below (cr_Qi sfM 17 base D cA res) args s 0 0 (cr_A 17 base)) σ 8 [(0, .ref (base + 0)), (1, .int x1), (3, .int x3), (4, .int x4), (5, .int x5)] [] := by
  intro n
  induction n with
  | zero =>
    intro σ x1 x3 x4 x5 h
    cases h
  | succ n ih =>
    intro σ x1 x3 x4 x5 h
    rw [f_X11_clears_L8] at h
    refine g_iload (pc' := 10) C dX11_clears_8 4 rfl rfl ?_
    refine g_aload_n (pc' := 11) C dX11_clears_10 0 rfl rfl ?_
    refine gg_X11_63 (pc' := 14) C dX11_clears_11 rfl ?_
    refine g_icmp_ge (pc' := 17) (tgt := 161) C dX11_clears_14 (by decide) rfl (fun hc => ?_) (fun hc => ?_)
    · rw [if_pos hc] at h
      refine g_iload_n (pc' := 162) C dX11_clears_161 2 rfl rfl ?_
      exact g_iret C hr dX11_clears_162 h
    · rw [if_neg hc] at h
      refine g_aload_n (pc' := 18) C dX11_clears_17 0 rfl rfl ?_
      refine gg_X11_7 (pc' := 21) C dX11_clears_18 rfl ?_
      refine g_iconst (pc' := 22) (v := 5) C dX11_clears_21 (by decide) rfl ?_
      refine g_iload (pc' := 24) C dX11_clears_22 4 rfl rfl ?_
      refine g_imul (pc' := 25) C dX11_clears_24 rfl ?_
      refine g_iconst (pc' := 26) (v := 2) C dX11_clears_25 (by decide) rfl ?_
      refine g_iadd (pc' := 27) C dX11_clears_26 rfl ?_
      obtain ⟨h1, h⟩ := chk_some h
      refine g_iald (pc' := 28) C (o := 1) (by decide) rfl (inb_d h1) dX11_clears_27 rfl ?_
      obtain ⟨v2, e3, h⟩ := let_some h
      refine g_nameI e3 ?_
      refine g_istore (pc' := 30) (lv' := [(6, .int v2), (0, .ref (base + 0)), (1, .int x1), (3, .int x3), (4, .int x4), (5, .int x5)]) C dX11_clears_28 (by decide) rfl rfl ?_
      refine g_aload_n (pc' := 31) C dX11_clears_30 1 rfl rfl ?_
      refine gg_X11_7 (pc' := 34) C dX11_clears_31 rfl ?_
      refine g_iconst (pc' := 35) (v := 5) C dX11_clears_34 (by decide) rfl ?_
      refine g_iload (pc' := 37) C dX11_clears_35 5 rfl rfl ?_
      refine g_imul (pc' := 38) C dX11_clears_37 rfl ?_
      refine g_iconst (pc' := 39) (v := 4) C dX11_clears_38 (by decide) rfl ?_
      refine g_iadd (pc' := 40) C dX11_clears_39 rfl ?_
      obtain ⟨h4, h⟩ := chk_some h
      refine g_iald (pc' := 41) C (o := 1) (by decide) rfl (inb_d h4) dX11_clears_40 rfl ?_
      obtain ⟨v5, e6, h⟩ := let_some h
      refine g_nameI e6 ?_
      refine g_istore (pc' := 43) (lv' := [(7, .int v5), (6, .int v2), (0, .ref (base + 0)), (1, .int x1), (3, .int x3), (4, .int x4), (5, .int x5)]) C dX11_clears_41 (by decide) rfl rfl ?_
      refine g_iconst (pc' := 44) (v := 0) C dX11_clears_43 (by decide) rfl ?_
      refine g_istore (pc' := 46) (lv' := [(8, .int 0), (7, .int v5), (6, .int v2), (0, .ref (base + 0)), (1, .int x1), (3, .int x3), (4, .int x4), (5, .int x5)]) C dX11_clears_44 (by decide) rfl rfl ?_
      refine g_iconst (pc' := 47) (v := (-1)) C dX11_clears_46 (by decide) rfl ?_
      refine g_istore (pc' := 49) (lv' := [(9, .int (-1)), (8, .int 0), (7, .int v5), (6, .int v2), (0, .ref (base + 0)), (1, .int x1), (3, .int x3), (4, .int x4), (5, .int x5)]) C dX11_clears_47 (by decide) rfl rfl ?_
      exact g_sub C [4, 5, 6, 7, 8, 3, 2, 1, 0] rfl (w_X11_clears_L49 C hr hR (f_X11_clears_L8 n) ih _ _ _ _ _ _ _ _ _ _ h)
noncomputable def f_X11_clears (σ : cr_S) (a1 : Int32) (a2 : Int32) : Option (cr_S × Int32) :=
  f_X11_clears_L8 cr_fuel σ a1 1 a2 0
set_option maxRecDepth 100000 in
set_option maxHeartbeats 4000000 in
theorem w_X11_clears (C : cr_C p l e R s m args below meth c sfM 17 base D cA cX11_clears 10 RX11) (hr : meth.sig.returnType = some .int) (hR : 3 ≤ R.frames ∧ 74 ≤ R.locals) {res : cr_S × Int32} (σ : cr_S) (a1 : Int32) (a2 : Int32) (h : f_X11_clears σ a1 a2 = some res) : cr_W p l e R s m args below meth c sfM 17 base D cA 10 (MQ below (cr_Qi sfM 17 base D cA res) args s 0 0 (cr_A 17 base)) σ 0 [(0, .ref (base + 0)), (1, .int a1), (2, .int a2)] [] := by
  unfold f_X11_clears at h
  refine g_iconst (pc' := 1) (v := 1) C dX11_clears_0 (by decide) rfl ?_
  refine g_istore_n (pc' := 2) (lv' := [(3, .int 1), (0, .ref (base + 0)), (1, .int a1), (2, .int a2)]) C dX11_clears_1 rfl (by decide) rfl rfl ?_
  refine g_iload_n (pc' := 3) C dX11_clears_2 3 rfl rfl ?_
  refine g_istore (pc' := 5) (lv' := [(4, .int a2), (3, .int 1), (0, .ref (base + 0)), (1, .int a1), (2, .int a2)]) C dX11_clears_3 (by decide) rfl rfl ?_
  refine g_iconst (pc' := 6) (v := 0) C dX11_clears_5 (by decide) rfl ?_
  refine g_istore (pc' := 8) (lv' := [(5, .int 0), (4, .int a2), (3, .int 1), (0, .ref (base + 0)), (1, .int a1), (2, .int a2)]) C dX11_clears_6 (by decide) rfl rfl ?_
  exact g_sub C [3, 4, 2, 1, 0] rfl (w_X11_clears_L8 C hr hR _ _ _ _ _ _ h)
theorem c_X11_clears (l : Launch) (base : Nat) (D : va_G) (cA : Nat → ClassId) (σ : cr_S) (a1 : Int32) (a2 : Int32) (res : cr_S × Int32) (h : f_X11_clears σ a1 a2 = some res) : cr_M l yX11_clears cX11_clears 10 (some .int) 3 74 sfM 17 base D cA [.ref (base + 0), .int a1, .int a2] σ (cr_Qi sfM 17 base D cA res) := by
  refine cr_enter [.ref (base + 0), .int a1, .int a2] [(0, .ref (base + 0)), (1, .int a1), (2, .int a2)] (by decide) (Nat.le_of_ble_eq_true rfl) rfl ?_
  intro p e R s m below meth c C hr hR
  exact w_X11_clears C hr hR σ a1 a2 h
end

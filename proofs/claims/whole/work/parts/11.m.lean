section
variable {p : Program} {l : Launch} {e : Env} {R : Room} {s : State} {m : MethodId} {args : Array Value} {below : List Frame} {meth : Method} {c : Code} {base : Nat} {D : va_G} {cA : Nat → ClassId}
noncomputable def f_X11_goes_B99 (r18 : cr_S → Int32 → Int32 → Option (cr_S)) (σ : cr_S) (x1 : Int32) (x3 : Int32) (t0 : Int32) (t1 : Int32) : Option (cr_S) :=
  cr_let (sF σ 0 9 (t1 ||| t0)) (fun s13 => cr_let (x3 + 1) (fun v15 => r18 s13 x1 v15))
set_option maxRecDepth 100000 in
set_option maxHeartbeats 4000000 in
theorem w_X11_goes_B99 (C : cr_C p l e R s m args below meth c sfM 17 base D cA cX11_goes 4 RX11) (hr : meth.sig.returnType = none) (hR : 3 ≤ R.frames ∧ 74 ≤ R.locals) {res : cr_S} (r18 : cr_S → Int32 → Int32 → Option (cr_S)) (hr18 : ∀ (σ : cr_S) (x1 : Int32) (x3 : Int32), r18 σ x1 x3 = some res → cr_W p l e R s m args below meth c sfM 17 base D cA 4 (MQ below (cr_Qv sfM 17 base D cA res) args s 0 0 (cr_A 17 base)) σ 18 [(0, .ref (base + 0)), (1, .int x1), (3, .int x3)] []) (σ : cr_S) (x1 : Int32) (x3 : Int32) (t0 : Int32) (t1 : Int32) (h : f_X11_goes_B99 r18 σ x1 x3 t0 t1 = some res) : cr_W p l e R s m args below meth c sfM 17 base D cA 4 (MQ below (cr_Qv sfM 17 base D cA res) args s 0 0 (cr_A 17 base)) σ 99 [(0, .ref (base + 0)), (1, .int x1), (3, .int x3)] [.int t0, .int t1, .ref (base + 0)] := by
  unfold f_X11_goes_B99 at h
  refine g_ior (pc' := 100) C dX11_goes_99 rfl ?_
  obtain ⟨s13, e14, h⟩ := let_some h
  refine gp_X11_136 (pc' := 103) C dX11_goes_100 rfl e14 ?_
  obtain ⟨v15, e16, h⟩ := let_some h
  refine g_iinc (pc' := 106) (v := v15) (lv' := [(3, .int v15), (0, .ref (base + 0)), (1, .int x1)]) C dX11_goes_103 2 rfl (by rw [e16]; rfl) (by decide) rfl rfl ?_
  refine g_goto (tgt := 18) C dX11_goes_106 (by decide) ?_
  exact g_sub C [1, 2, 0] rfl (hr18 _ _ _ h)
noncomputable def f_X11_goes_B76 (r18 : cr_S → Int32 → Int32 → Option (cr_S)) (σ : cr_S) (x1 : Int32) (x3 : Int32) (t0 : Int32) : Option (cr_S) :=
  cr_let (sF σ 0 8 t0) (fun s11 => f_X11_goes_B99 r18 s11 x1 x3 (if (rF s11 0 6) = 1 then 1 <<< (x3 &&& 31) else 0) (rF s11 0 9))
set_option maxRecDepth 100000 in
set_option maxHeartbeats 4000000 in
theorem w_X11_goes_B76 (C : cr_C p l e R s m args below meth c sfM 17 base D cA cX11_goes 4 RX11) (hr : meth.sig.returnType = none) (hR : 3 ≤ R.frames ∧ 74 ≤ R.locals) {res : cr_S} (r18 : cr_S → Int32 → Int32 → Option (cr_S)) (hr18 : ∀ (σ : cr_S) (x1 : Int32) (x3 : Int32), r18 σ x1 x3 = some res → cr_W p l e R s m args below meth c sfM 17 base D cA 4 (MQ below (cr_Qv sfM 17 base D cA res) args s 0 0 (cr_A 17 base)) σ 18 [(0, .ref (base + 0)), (1, .int x1), (3, .int x3)] []) (σ : cr_S) (x1 : Int32) (x3 : Int32) (t0 : Int32) (h : f_X11_goes_B76 r18 σ x1 x3 t0 = some res) : cr_W p l e R s m args below meth c sfM 17 base D cA 4 (MQ below (cr_Qv sfM 17 base D cA res) args s 0 0 (cr_A 17 base)) σ 76 [(0, .ref (base + 0)), (1, .int x1), (3, .int x3)] [.int t0, .ref (base + 0)] := by
  unfold f_X11_goes_B76 at h
  obtain ⟨s11, e12, h⟩ := let_some h
  refine gp_X11_133 (pc' := 79) C dX11_goes_76 rfl e12 ?_
  refine g_aload_n (pc' := 80) C dX11_goes_79 0 rfl rfl ?_
  refine g_dup (pc' := 81) C dX11_goes_80 rfl rfl ?_
  refine gg_X11_136 (pc' := 84) C dX11_goes_81 rfl ?_
  refine g_aload_n (pc' := 85) C dX11_goes_84 0 rfl rfl ?_
  refine gg_X11_127 (pc' := 88) C dX11_goes_85 rfl ?_
  refine g_iconst (pc' := 89) (v := 1) C dX11_goes_88 (by decide) rfl ?_
  refine g_iteI (σ := s11) (pj := 99) (lv := [(0, .ref (base + 0)), (1, .int x1), (3, .int x3)]) (st := [.int (rF s11 0 9), .ref (base + 0)]) (cd := (rF s11 0 6) = 1) (a := 1 <<< (x3 &&& 31)) (b := 0) C ?_ (fun kt kf => ?_)
  · exact g_sub C [0, 1, 2] rfl (w_X11_goes_B99 C hr hR r18 hr18 _ _ _ _ _ h)
  · refine g_icmp_ne (pc' := 92) (tgt := 98) C dX11_goes_89 (by decide) rfl (fun hc => ?_) (fun hc => ?_)
    · refine g_iconst (pc' := 99) (v := 0) C dX11_goes_98 (by decide) rfl ?_
      exact kf hc
    · refine g_iconst (pc' := 93) (v := 1) C dX11_goes_92 (by decide) rfl ?_
      refine g_iload_n (pc' := 94) C dX11_goes_93 2 rfl rfl ?_
      refine g_ishl (pc' := 95) C dX11_goes_94 rfl ?_
      refine g_goto (tgt := 99) C dX11_goes_95 (by decide) ?_
      exact kt hc
noncomputable def f_X11_goes_L18  : Nat → cr_S → Int32 → Int32 → Option (cr_S)
  | 0, _, _, _ => none
  | n + 1, σ, x1, x3 =>
    (if (rF σ 0 0) ≤ x3 then some σ else (if (rF σ 0 8) = (-4) then chk (inb ((5 * x3) + 4) 30) (chk (inb x3 6) (Option.bind (f_X11_passes σ x1 x3 (rA σ 1 ((5 * x3) + 4)) (rF σ 0 7) (rA σ 4 x3)) (fun q9 => f_X11_goes_B76 (f_X11_goes_L18 n) q9 x1 x3 (if (rF q9 0 6) = 2 then x3 else (-4))))) else some σ))
set_option maxRecDepth 100000 in
set_option maxHeartbeats 4000000 in
theorem w_X11_goes_L18 (C : cr_C p l e R s m args below meth c sfM 17 base D cA cX11_goes 4 RX11) (hr : meth.sig.returnType = none) (hR : 3 ≤ R.frames ∧ 74 ≤ R.locals) {res : cr_S}  : ∀ (n : Nat) (σ : cr_S) (x1 : Int32) (x3 : Int32), f_X11_goes_L18 n σ x1 x3 = some res → cr_W p l e R s m args below meth c sfM 17 base D cA 4 (MQ below (cr_Qv sfM 17 base D cA res) args s 0 0 (cr_A 17 base)) σ 18 [(0, .ref (base + 0)), (1, .int x1), (3, .int x3)] [] := by
  intro n
  induction n with
  | zero =>
    intro σ x1 x3 h
    cases h
  | succ n ih =>
    intro σ x1 x3 h
    rw [f_X11_goes_L18] at h
    refine g_iload_n (pc' := 19) C dX11_goes_18 2 rfl rfl ?_
    refine g_aload_n (pc' := 20) C dX11_goes_19 0 rfl rfl ?_
    refine gg_X11_63 (pc' := 23) C dX11_goes_20 rfl ?_
    refine g_icmp_ge (pc' := 26) (tgt := 109) C dX11_goes_23 (by decide) rfl (fun hc => ?_) (fun hc => ?_)
    · rw [if_pos hc] at h
      exact g_vret C hr dX11_goes_109 h
    · rw [if_neg hc] at h
      refine g_aload_n (pc' := 27) C dX11_goes_26 0 rfl rfl ?_
      refine gg_X11_133 (pc' := 30) C dX11_goes_27 rfl ?_
      refine g_bipush (pc' := 32) (v := (-4)) C dX11_goes_30 (by decide) rfl ?_
      refine g_icmp_ne (pc' := 35) (tgt := 109) C dX11_goes_32 (by decide) rfl (fun hc => ?_) (fun hc => ?_)
      · rw [if_neg hc] at h
        exact g_vret C hr dX11_goes_109 h
      · rw [if_pos hc] at h
        refine g_aload_n (pc' := 36) C dX11_goes_35 0 rfl rfl ?_
        refine g_iload_n (pc' := 37) C dX11_goes_36 1 rfl rfl ?_
        refine g_iload_n (pc' := 38) C dX11_goes_37 2 rfl rfl ?_
        refine g_aload_n (pc' := 39) C dX11_goes_38 0 rfl rfl ?_
        refine gg_X11_7 (pc' := 42) C dX11_goes_39 rfl ?_
        refine g_iconst (pc' := 43) (v := 5) C dX11_goes_42 (by decide) rfl ?_
        refine g_iload_n (pc' := 44) C dX11_goes_43 2 rfl rfl ?_
        refine g_imul (pc' := 45) C dX11_goes_44 rfl ?_
        refine g_iconst (pc' := 46) (v := 4) C dX11_goes_45 (by decide) rfl ?_
        refine g_iadd (pc' := 47) C dX11_goes_46 rfl ?_
        obtain ⟨h7, h⟩ := chk_some h
        refine g_iald (pc' := 48) C (o := 1) (by decide) rfl (inb_d h7) dX11_goes_47 rfl ?_
        refine g_aload_n (pc' := 49) C dX11_goes_48 0 rfl rfl ?_
        refine gg_X11_130 (pc' := 52) C dX11_goes_49 rfl ?_
        refine g_aload_n (pc' := 53) C dX11_goes_52 0 rfl rfl ?_
        refine gg_X11_23 (pc' := 56) C dX11_goes_53 rfl ?_
        refine g_iload_n (pc' := 57) C dX11_goes_56 2 rfl rfl ?_
        obtain ⟨h8, h⟩ := chk_some h
        refine g_iald (pc' := 58) C (o := 4) (by decide) rfl (inb_d h8) dX11_goes_57 rfl ?_
        obtain ⟨q9, h10, h⟩ := bind_some h
        refine g_callVv (pc' := 61) (res := q9) C [.int x1, .int x3, .int (rA σ 1 ((5 * x3) + 4)), .int (rF σ 0 7), .int (rA σ 4 x3)] cY_X11_passes rfl (o := 0) (by decide) rfl mv_X11_passes mm_X11_139 ⟨Nat.le_trans (by decide) hR.1, Nat.le_trans (by decide) hR.2⟩ rfl (Nat.le_of_ble_eq_true rfl) rfl dX11_goes_58 (c_X11_passes l base D cA σ x1 x3 (rA σ 1 ((5 * x3) + 4)) (rF σ 0 7) (rA σ 4 x3) q9 h10) rfl ?_
        refine g_aload_n (pc' := 62) C dX11_goes_61 0 rfl rfl ?_
        refine g_aload_n (pc' := 63) C dX11_goes_62 0 rfl rfl ?_
        refine gg_X11_127 (pc' := 66) C dX11_goes_63 rfl ?_
        refine g_iconst (pc' := 67) (v := 2) C dX11_goes_66 (by decide) rfl ?_
        refine g_iteI (σ := q9) (pj := 76) (lv := [(0, .ref (base + 0)), (1, .int x1), (3, .int x3)]) (st := [.ref (base + 0)]) (cd := (rF q9 0 6) = 2) (a := x3) (b := (-4)) C ?_ (fun kt kf => ?_)
        · exact g_sub C [0, 1, 2] rfl (w_X11_goes_B76 C hr hR (f_X11_goes_L18 n) ih _ _ _ _ h)
        · refine g_icmp_ne (pc' := 70) (tgt := 74) C dX11_goes_67 (by decide) rfl (fun hc => ?_) (fun hc => ?_)
          · refine g_bipush (pc' := 76) (v := (-4)) C dX11_goes_74 (by decide) rfl ?_
            exact kf hc
          · refine g_iload_n (pc' := 71) C dX11_goes_70 2 rfl rfl ?_
            refine g_goto (tgt := 76) C dX11_goes_71 (by decide) ?_
            exact kt hc
noncomputable def f_X11_goes (σ : cr_S) (a1 : Int32) (a2 : Int32) : Option (cr_S) :=
  cr_let (sF σ 0 8 (-4)) (fun s1 => cr_let (sF s1 0 9 0) (fun s3 => cr_let (sF s3 0 7 a2) (fun s5 => f_X11_goes_L18 cr_fuel s5 a1 0)))
set_option maxRecDepth 100000 in
set_option maxHeartbeats 4000000 in
theorem w_X11_goes (C : cr_C p l e R s m args below meth c sfM 17 base D cA cX11_goes 4 RX11) (hr : meth.sig.returnType = none) (hR : 3 ≤ R.frames ∧ 74 ≤ R.locals) {res : cr_S} (σ : cr_S) (a1 : Int32) (a2 : Int32) (h : f_X11_goes σ a1 a2 = some res) : cr_W p l e R s m args below meth c sfM 17 base D cA 4 (MQ below (cr_Qv sfM 17 base D cA res) args s 0 0 (cr_A 17 base)) σ 0 [(0, .ref (base + 0)), (1, .int a1), (2, .int a2)] [] := by
  unfold f_X11_goes at h
  refine g_aload_n (pc' := 1) C dX11_goes_0 0 rfl rfl ?_
  refine g_bipush (pc' := 3) (v := (-4)) C dX11_goes_1 (by decide) rfl ?_
  obtain ⟨s1, e2, h⟩ := let_some h
  refine gp_X11_133 (pc' := 6) C dX11_goes_3 rfl e2 ?_
  refine g_aload_n (pc' := 7) C dX11_goes_6 0 rfl rfl ?_
  refine g_iconst (pc' := 8) (v := 0) C dX11_goes_7 (by decide) rfl ?_
  obtain ⟨s3, e4, h⟩ := let_some h
  refine gp_X11_136 (pc' := 11) C dX11_goes_8 rfl e4 ?_
  refine g_aload_n (pc' := 12) C dX11_goes_11 0 rfl rfl ?_
  refine g_iload_n (pc' := 13) C dX11_goes_12 2 rfl rfl ?_
  obtain ⟨s5, e6, h⟩ := let_some h
  refine gp_X11_130 (pc' := 16) C dX11_goes_13 rfl e6 ?_
  refine g_iconst (pc' := 17) (v := 0) C dX11_goes_16 (by decide) rfl ?_
  refine g_istore_n (pc' := 18) (lv' := [(3, .int 0), (0, .ref (base + 0)), (1, .int a1), (2, .int a2)]) C dX11_goes_17 rfl (by decide) rfl rfl ?_
  exact g_sub C [1, 2, 0] rfl (w_X11_goes_L18 C hr hR _ _ _ _ h)
theorem c_X11_goes (l : Launch) (base : Nat) (D : va_G) (cA : Nat → ClassId) (σ : cr_S) (a1 : Int32) (a2 : Int32) (res : cr_S) (h : f_X11_goes σ a1 a2 = some res) : cr_M l yX11_goes cX11_goes 4 none 3 74 sfM 17 base D cA [.ref (base + 0), .int a1, .int a2] σ (cr_Qv sfM 17 base D cA res) := by
  refine cr_enter [.ref (base + 0), .int a1, .int a2] [(0, .ref (base + 0)), (1, .int a1), (2, .int a2)] (by decide) (Nat.le_of_ble_eq_true rfl) rfl ?_
  intro p e R s m below meth c C hr hR
  exact w_X11_goes C hr hR σ a1 a2 h
noncomputable def f_X11_goesFull_B27  (σ : cr_S) (x1 : Int32) (x2 : Int32) : Option (cr_S) :=
  Option.bind (f_X11_goes σ x1 x2) (fun q1 => some q1)
set_option maxRecDepth 100000 in
set_option maxHeartbeats 4000000 in
theorem w_X11_goesFull_B27 (C : cr_C p l e R s m args below meth c sfM 17 base D cA cX11_goesFull 4 RX11) (hr : meth.sig.returnType = none) (hR : 4 ≤ R.frames ∧ 97 ≤ R.locals) {res : cr_S}  (σ : cr_S) (x1 : Int32) (x2 : Int32) (h : f_X11_goesFull_B27 σ x1 x2 = some res) : cr_W p l e R s m args below meth c sfM 17 base D cA 4 (MQ below (cr_Qv sfM 17 base D cA res) args s 0 0 (cr_A 17 base)) σ 27 [(0, .ref (base + 0)), (1, .int x1), (2, .int x2)] [] := by
  unfold f_X11_goesFull_B27 at h
  refine g_aload_n (pc' := 28) C dX11_goesFull_27 0 rfl rfl ?_
  refine g_iload_n (pc' := 29) C dX11_goesFull_28 1 rfl rfl ?_
  refine g_iload_n (pc' := 30) C dX11_goesFull_29 2 rfl rfl ?_
  obtain ⟨q1, h2, h⟩ := bind_some h
  refine g_callVv (pc' := 33) (res := q1) C [.int x1, .int x2] cY_X11_goes rfl (o := 0) (by decide) rfl mv_X11_goes mm_X11_142 ⟨Nat.le_trans (by decide) hR.1, Nat.le_trans (by decide) hR.2⟩ rfl (Nat.le_of_ble_eq_true rfl) rfl dX11_goesFull_30 (c_X11_goes l base D cA σ x1 x2 q1 h2) rfl ?_
  exact g_vret C hr dX11_goesFull_33 h
noncomputable def f_X11_goesFull_L2  : Nat → cr_S → Int32 → Int32 → Int32 → Option (cr_S)
  | 0, _, _, _, _ => none
  | n + 1, σ, x1, x2, x3 =>
    (if (rF σ 0 0) ≤ x3 then f_X11_goesFull_B27 σ x1 x2 else Option.bind (f_X11_high σ x1) (fun q3 => chk (inb x3 6) (cr_let (sA q3.1 4 x3 q3.2) (fun s6 => cr_let (x3 + 1) (fun v8 => f_X11_goesFull_L2 n s6 x1 x2 v8)))))
set_option maxRecDepth 100000 in
set_option maxHeartbeats 4000000 in
theorem w_X11_goesFull_L2 (C : cr_C p l e R s m args below meth c sfM 17 base D cA cX11_goesFull 4 RX11) (hr : meth.sig.returnType = none) (hR : 4 ≤ R.frames ∧ 97 ≤ R.locals) {res : cr_S}  : ∀ (n : Nat) (σ : cr_S) (x1 : Int32) (x2 : Int32) (x3 : Int32), f_X11_goesFull_L2 n σ x1 x2 x3 = some res → cr_W p l e R s m args below meth c sfM 17 base D cA 4 (MQ below (cr_Qv sfM 17 base D cA res) args s 0 0 (cr_A 17 base)) σ 2 [(0, .ref (base + 0)), (1, .int x1), (2, .int x2), (3, .int x3)] [] := by
  intro n
  induction n with
  | zero =>
    intro σ x1 x2 x3 h
    cases h
  | succ n ih =>
    intro σ x1 x2 x3 h
    rw [f_X11_goesFull_L2] at h
    refine g_iload_n (pc' := 3) C dX11_goesFull_2 3 rfl rfl ?_
    refine g_aload_n (pc' := 4) C dX11_goesFull_3 0 rfl rfl ?_
    refine gg_X11_63 (pc' := 7) C dX11_goesFull_4 rfl ?_
    refine g_icmp_ge (pc' := 10) (tgt := 27) C dX11_goesFull_7 (by decide) rfl (fun hc => ?_) (fun hc => ?_)
    · rw [if_pos hc] at h
      exact g_sub C [0, 1, 2] rfl (w_X11_goesFull_B27 C hr hR _ _ _ h)
    · rw [if_neg hc] at h
      refine g_aload_n (pc' := 11) C dX11_goesFull_10 0 rfl rfl ?_
      refine gg_X11_23 (pc' := 14) C dX11_goesFull_11 rfl ?_
      refine g_iload_n (pc' := 15) C dX11_goesFull_14 3 rfl rfl ?_
      refine g_aload_n (pc' := 16) C dX11_goesFull_15 0 rfl rfl ?_
      refine g_iload_n (pc' := 17) C dX11_goesFull_16 1 rfl rfl ?_
      obtain ⟨q3, h4, h⟩ := bind_some h
      refine g_callVi (pc' := 20) (res := q3) C [.int x1] cY_X11_high rfl (o := 0) (by decide) rfl mv_X11_high mm_X11_101 ⟨Nat.le_trans (by decide) hR.1, Nat.le_trans (by decide) hR.2⟩ rfl (Nat.le_of_ble_eq_true rfl) rfl dX11_goesFull_17 (c_X11_high l base D cA σ x1 q3 h4) rfl ?_
      obtain ⟨h5, h⟩ := chk_some h
      obtain ⟨s6, e7, h⟩ := let_some h
      refine g_iast (pc' := 21) C (o := 4) (by decide) rfl (inb_d h5) dX11_goesFull_20 rfl e7 ?_
      obtain ⟨v8, e9, h⟩ := let_some h
      refine g_iinc (pc' := 24) (v := v8) (lv' := [(3, .int v8), (0, .ref (base + 0)), (1, .int x1), (2, .int x2)]) C dX11_goesFull_21 3 rfl (by rw [e9]; rfl) (by decide) rfl rfl ?_
      refine g_goto (tgt := 2) C dX11_goesFull_24 (by decide) ?_
      exact g_sub C [1, 2, 3, 0] rfl (ih _ _ _ _ h)
noncomputable def f_X11_goesFull (σ : cr_S) (a1 : Int32) (a2 : Int32) : Option (cr_S) :=
  f_X11_goesFull_L2 cr_fuel σ a1 a2 0
set_option maxRecDepth 100000 in
set_option maxHeartbeats 4000000 in
theorem w_X11_goesFull (C : cr_C p l e R s m args below meth c sfM 17 base D cA cX11_goesFull 4 RX11) (hr : meth.sig.returnType = none) (hR : 4 ≤ R.frames ∧ 97 ≤ R.locals) {res : cr_S} (σ : cr_S) (a1 : Int32) (a2 : Int32) (h : f_X11_goesFull σ a1 a2 = some res) : cr_W p l e R s m args below meth c sfM 17 base D cA 4 (MQ below (cr_Qv sfM 17 base D cA res) args s 0 0 (cr_A 17 base)) σ 0 [(0, .ref (base + 0)), (1, .int a1), (2, .int a2)] [] := by
  unfold f_X11_goesFull at h
  refine g_iconst (pc' := 1) (v := 0) C dX11_goesFull_0 (by decide) rfl ?_
  refine g_istore_n (pc' := 2) (lv' := [(3, .int 0), (0, .ref (base + 0)), (1, .int a1), (2, .int a2)]) C dX11_goesFull_1 rfl (by decide) rfl rfl ?_
  exact g_sub C [1, 2, 3, 0] rfl (w_X11_goesFull_L2 C hr hR _ _ _ _ _ h)
theorem c_X11_goesFull (l : Launch) (base : Nat) (D : va_G) (cA : Nat → ClassId) (σ : cr_S) (a1 : Int32) (a2 : Int32) (res : cr_S) (h : f_X11_goesFull σ a1 a2 = some res) : cr_M l yX11_goesFull cX11_goesFull 4 none 4 97 sfM 17 base D cA [.ref (base + 0), .int a1, .int a2] σ (cr_Qv sfM 17 base D cA res) := by
  refine cr_enter [.ref (base + 0), .int a1, .int a2] [(0, .ref (base + 0)), (1, .int a1), (2, .int a2)] (by decide) (Nat.le_of_ble_eq_true rfl) rfl ?_
  intro p e R s m below meth c C hr hR
  exact w_X11_goesFull C hr hR σ a1 a2 h
noncomputable def f_X11_isClean (σ : cr_S) : Option (cr_S × Int32) :=
  (if (rF σ 0 8) = (-4) then (if (rF σ 0 9) = 0 then some (σ, 1) else some (σ, 0)) else some (σ, 0))
set_option maxRecDepth 100000 in
set_option maxHeartbeats 4000000 in
theorem w_X11_isClean (C : cr_C p l e R s m args below meth c sfM 17 base D cA cX11_isClean 1 RX11) (hr : meth.sig.returnType = some .boolean) (hR : 0 ≤ R.frames ∧ 0 ≤ R.locals) {res : cr_S × Int32} (σ : cr_S) (h : f_X11_isClean σ = some res) : cr_W p l e R s m args below meth c sfM 17 base D cA 1 (MQ below (cr_Qi sfM 17 base D cA res) args s 0 0 (cr_A 17 base)) σ 0 [(0, .ref (base + 0))] [] := by
  unfold f_X11_isClean at h
  refine g_aload_n (pc' := 1) C dX11_isClean_0 0 rfl rfl ?_
  refine gg_X11_133 (pc' := 4) C dX11_isClean_1 rfl ?_
  refine g_bipush (pc' := 6) (v := (-4)) C dX11_isClean_4 (by decide) rfl ?_
  refine g_icmp_ne (pc' := 9) (tgt := 20) C dX11_isClean_6 (by decide) rfl (fun hc => ?_) (fun hc => ?_)
  · rw [if_neg hc] at h
    refine g_iconst (pc' := 21) (v := 0) C dX11_isClean_20 (by decide) rfl ?_
    exact g_zret C hr rfl dX11_isClean_21 h
  · rw [if_pos hc] at h
    refine g_aload_n (pc' := 10) C dX11_isClean_9 0 rfl rfl ?_
    refine gg_X11_136 (pc' := 13) C dX11_isClean_10 rfl ?_
    refine g_if_ne (pc' := 16) (tgt := 20) C dX11_isClean_13 (by decide) rfl (fun hc => ?_) (fun hc => ?_)
    · rw [if_neg hc] at h
      refine g_iconst (pc' := 21) (v := 0) C dX11_isClean_20 (by decide) rfl ?_
      exact g_zret C hr rfl dX11_isClean_21 h
    · rw [if_pos hc] at h
      refine g_iconst (pc' := 17) (v := 1) C dX11_isClean_16 (by decide) rfl ?_
      refine g_goto (tgt := 21) C dX11_isClean_17 (by decide) ?_
      exact g_zret C hr rfl dX11_isClean_21 h
theorem c_X11_isClean (l : Launch) (base : Nat) (D : va_G) (cA : Nat → ClassId) (σ : cr_S) (res : cr_S × Int32) (h : f_X11_isClean σ = some res) : cr_M l yX11_isClean cX11_isClean 1 (some .boolean) 0 0 sfM 17 base D cA [.ref (base + 0)] σ (cr_Qi sfM 17 base D cA res) := by
  refine cr_enter [.ref (base + 0)] [(0, .ref (base + 0))] (by decide) (Nat.le_of_ble_eq_true rfl) rfl ?_
  intro p e R s m below meth c C hr hR
  exact w_X11_isClean C hr hR σ h
noncomputable def f_X11_type (σ : cr_S) (a1 : Int32) : Option (cr_S × Int32) :=
  Option.bind (f_X11_in σ (Int32.toInt64 a1) 32 126) (fun q1 => (if q1.2 = 0 then some (q1.1, (-1)) else (if (rF q1.1 0 12) = 100 then some (q1.1, (-3)) else chk (inb (rF q1.1 0 12) 100) (cr_let (sA q1.1 5 (rF q1.1 0 12) a1) (fun s4 => cr_let (sF s4 0 12 ((rF s4 0 12) + 1)) (fun s6 => some (s6, rF s6 0 12)))))))
set_option maxRecDepth 100000 in
set_option maxHeartbeats 4000000 in
theorem w_X11_type (C : cr_C p l e R s m args below meth c sfM 17 base D cA cX11_type 2 RX11) (hr : meth.sig.returnType = some .int) (hR : 1 ≤ R.frames ∧ 25 ≤ R.locals) {res : cr_S × Int32} (σ : cr_S) (a1 : Int32) (h : f_X11_type σ a1 = some res) : cr_W p l e R s m args below meth c sfM 17 base D cA 2 (MQ below (cr_Qi sfM 17 base D cA res) args s 0 0 (cr_A 17 base)) σ 0 [(0, .ref (base + 0)), (1, .int a1)] [] := by
  unfold f_X11_type at h
  refine g_iload_n (pc' := 1) C dX11_type_0 1 rfl rfl ?_
  refine g_i2l (pc' := 2) C dX11_type_1 rfl ?_
  refine g_ldc2 (pc' := 5) (v := 32) C dX11_type_2 ml_X11_146 rfl ?_
  refine g_ldc2 (pc' := 8) (v := 126) C dX11_type_5 ml_X11_148 rfl ?_
  obtain ⟨q1, h2, h⟩ := bind_some h
  refine g_callSi (pc' := 11) (res := q1) C [.long (Int32.toInt64 a1), .long 32, .long 126] cY_X11_in mv_X11_in mm_X11_66 ⟨Nat.le_trans (by decide) hR.1, Nat.le_trans (by decide) hR.2⟩ rfl (Nat.le_of_ble_eq_true rfl) rfl dX11_type_8 (c_X11_in l base D cA σ (Int32.toInt64 a1) 32 126 q1 h2) rfl ?_
  refine g_if_ne (pc' := 14) (tgt := 16) C dX11_type_11 (by decide) rfl (fun hc => ?_) (fun hc => ?_)
  · rw [if_neg hc] at h
    refine g_aload_n (pc' := 17) C dX11_type_16 0 rfl rfl ?_
    refine gg_X11_150 (pc' := 20) C dX11_type_17 rfl ?_
    refine g_bipush (pc' := 22) (v := 100) C dX11_type_20 (by decide) rfl ?_
    refine g_icmp_ne (pc' := 25) (tgt := 28) C dX11_type_22 (by decide) rfl (fun hc => ?_) (fun hc => ?_)
    · rw [if_neg hc] at h
      refine g_aload_n (pc' := 29) C dX11_type_28 0 rfl rfl ?_
      refine gg_X11_26 (pc' := 32) C dX11_type_29 rfl ?_
      refine g_aload_n (pc' := 33) C dX11_type_32 0 rfl rfl ?_
      refine gg_X11_150 (pc' := 36) C dX11_type_33 rfl ?_
      refine g_iload_n (pc' := 37) C dX11_type_36 1 rfl rfl ?_
      obtain ⟨h3, h⟩ := chk_some h
      obtain ⟨s4, e5, h⟩ := let_some h
      refine g_iast (pc' := 38) C (o := 5) (by decide) rfl (inb_d h3) dX11_type_37 rfl e5 ?_
      refine g_aload_n (pc' := 39) C dX11_type_38 0 rfl rfl ?_
      refine g_dup (pc' := 40) C dX11_type_39 rfl rfl ?_
      refine gg_X11_150 (pc' := 43) C dX11_type_40 rfl ?_
      refine g_iconst (pc' := 44) (v := 1) C dX11_type_43 (by decide) rfl ?_
      refine g_iadd (pc' := 45) C dX11_type_44 rfl ?_
      obtain ⟨s6, e7, h⟩ := let_some h
      refine gp_X11_150 (pc' := 48) C dX11_type_45 rfl e7 ?_
      refine g_aload_n (pc' := 49) C dX11_type_48 0 rfl rfl ?_
      refine gg_X11_150 (pc' := 52) C dX11_type_49 rfl ?_
      exact g_iret C hr dX11_type_52 h
    · rw [if_pos hc] at h
      refine g_bipush (pc' := 27) (v := (-3)) C dX11_type_25 (by decide) rfl ?_
      exact g_iret C hr dX11_type_27 h
  · rw [if_pos hc] at h
    refine g_iconst (pc' := 15) (v := (-1)) C dX11_type_14 (by decide) rfl ?_
    exact g_iret C hr dX11_type_15 h
theorem c_X11_type (l : Launch) (base : Nat) (D : va_G) (cA : Nat → ClassId) (σ : cr_S) (a1 : Int32) (res : cr_S × Int32) (h : f_X11_type σ a1 = some res) : cr_M l yX11_type cX11_type 2 (some .int) 1 25 sfM 17 base D cA [.ref (base + 0), .int a1] σ (cr_Qi sfM 17 base D cA res) := by
  refine cr_enter [.ref (base + 0), .int a1] [(0, .ref (base + 0)), (1, .int a1)] (by decide) (Nat.le_of_ble_eq_true rfl) rfl ?_
  intro p e R s m below meth c C hr hR
  exact w_X11_type C hr hR σ a1 h
noncomputable def f_X11_here_B38  (σ : cr_S) : Option (cr_S × Int32) :=
  (if (rF σ 0 12) ≤ (rF σ 0 13) then some (σ, 0) else chk (inb (rF σ 0 13) 100) (some (σ, rA σ 5 (rF σ 0 13))))
set_option maxRecDepth 100000 in
set_option maxHeartbeats 4000000 in
theorem w_X11_here_B38 (C : cr_C p l e R s m args below meth c sfM 17 base D cA cX11_here 1 RX11) (hr : meth.sig.returnType = some .int) (hR : 0 ≤ R.frames ∧ 0 ≤ R.locals) {res : cr_S × Int32}  (σ : cr_S) (h : f_X11_here_B38 σ = some res) : cr_W p l e R s m args below meth c sfM 17 base D cA 1 (MQ below (cr_Qi sfM 17 base D cA res) args s 0 0 (cr_A 17 base)) σ 38 [(0, .ref (base + 0))] [] := by
  unfold f_X11_here_B38 at h
  refine g_aload_n (pc' := 39) C dX11_here_38 0 rfl rfl ?_
  refine gg_X11_153 (pc' := 42) C dX11_here_39 rfl ?_
  refine g_aload_n (pc' := 43) C dX11_here_42 0 rfl rfl ?_
  refine gg_X11_150 (pc' := 46) C dX11_here_43 rfl ?_
  refine g_icmp_ge (pc' := 49) (tgt := 61) C dX11_here_46 (by decide) rfl (fun hc => ?_) (fun hc => ?_)
  · rw [if_pos hc] at h
    refine g_iconst (pc' := 62) (v := 0) C dX11_here_61 (by decide) rfl ?_
    exact g_iret C hr dX11_here_62 h
  · rw [if_neg hc] at h
    refine g_aload_n (pc' := 50) C dX11_here_49 0 rfl rfl ?_
    refine gg_X11_26 (pc' := 53) C dX11_here_50 rfl ?_
    refine g_aload_n (pc' := 54) C dX11_here_53 0 rfl rfl ?_
    refine gg_X11_153 (pc' := 57) C dX11_here_54 rfl ?_
    obtain ⟨h1, h⟩ := chk_some h
    refine g_iald (pc' := 58) C (o := 5) (by decide) rfl (inb_d h1) dX11_here_57 rfl ?_
    refine g_goto (tgt := 62) C dX11_here_58 (by decide) ?_
    exact g_iret C hr dX11_here_62 h
noncomputable def f_X11_here_L0  : Nat → cr_S → Option (cr_S × Int32)
  | 0, _ => none
  | n + 1, σ =>
    (if (rF σ 0 12) ≤ (rF σ 0 13) then f_X11_here_B38 σ else chk (inb (rF σ 0 13) 100) ((if (rA σ 5 (rF σ 0 13)) = 32 then cr_let (sF σ 0 13 ((rF σ 0 13) + 1)) (fun s3 => f_X11_here_L0 n s3) else f_X11_here_B38 σ)))
set_option maxRecDepth 100000 in
set_option maxHeartbeats 4000000 in
theorem w_X11_here_L0 (C : cr_C p l e R s m args below meth c sfM 17 base D cA cX11_here 1 RX11) (hr : meth.sig.returnType = some .int) (hR : 0 ≤ R.frames ∧ 0 ≤ R.locals) {res : cr_S × Int32}  : ∀ (n : Nat) (σ : cr_S), f_X11_here_L0 n σ = some res → cr_W p l e R s m args below meth c sfM 17 base D cA 1 (MQ below (cr_Qi sfM 17 base D cA res) args s 0 0 (cr_A 17 base)) σ 0 [(0, .ref (base + 0))] [] := by
  intro n
  induction n with
  | zero =>
    intro σ h
    cases h
  | succ n ih =>
    intro σ h
    rw [f_X11_here_L0] at h
    refine g_aload_n (pc' := 1) C dX11_here_0 0 rfl rfl ?_
    refine gg_X11_153 (pc' := 4) C dX11_here_1 rfl ?_
    refine g_aload_n (pc' := 5) C dX11_here_4 0 rfl rfl ?_
    refine gg_X11_150 (pc' := 8) C dX11_here_5 rfl ?_
    refine g_icmp_ge (pc' := 11) (tgt := 38) C dX11_here_8 (by decide) rfl (fun hc => ?_) (fun hc => ?_)
    · rw [if_pos hc] at h
      exact g_sub C [0] rfl (w_X11_here_B38 C hr hR _ h)
    · rw [if_neg hc] at h
      refine g_aload_n (pc' := 12) C dX11_here_11 0 rfl rfl ?_
      refine gg_X11_26 (pc' := 15) C dX11_here_12 rfl ?_
      refine g_aload_n (pc' := 16) C dX11_here_15 0 rfl rfl ?_
      refine gg_X11_153 (pc' := 19) C dX11_here_16 rfl ?_
      obtain ⟨h2, h⟩ := chk_some h
      refine g_iald (pc' := 20) C (o := 5) (by decide) rfl (inb_d h2) dX11_here_19 rfl ?_
      refine g_bipush (pc' := 22) (v := 32) C dX11_here_20 (by decide) rfl ?_
      refine g_icmp_ne (pc' := 25) (tgt := 38) C dX11_here_22 (by decide) rfl (fun hc => ?_) (fun hc => ?_)
      · rw [if_neg hc] at h
        exact g_sub C [0] rfl (w_X11_here_B38 C hr hR _ h)
      · rw [if_pos hc] at h
        refine g_aload_n (pc' := 26) C dX11_here_25 0 rfl rfl ?_
        refine g_dup (pc' := 27) C dX11_here_26 rfl rfl ?_
        refine gg_X11_153 (pc' := 30) C dX11_here_27 rfl ?_
        refine g_iconst (pc' := 31) (v := 1) C dX11_here_30 (by decide) rfl ?_
        refine g_iadd (pc' := 32) C dX11_here_31 rfl ?_
        obtain ⟨s3, e4, h⟩ := let_some h
        refine gp_X11_153 (pc' := 35) C dX11_here_32 rfl e4 ?_
        refine g_goto (tgt := 0) C dX11_here_35 (by decide) ?_
        exact g_sub C [0] rfl (ih _ h)
noncomputable def f_X11_here (σ : cr_S) : Option (cr_S × Int32) :=
  f_X11_here_L0 cr_fuel σ
set_option maxRecDepth 100000 in
set_option maxHeartbeats 4000000 in
theorem w_X11_here (C : cr_C p l e R s m args below meth c sfM 17 base D cA cX11_here 1 RX11) (hr : meth.sig.returnType = some .int) (hR : 0 ≤ R.frames ∧ 0 ≤ R.locals) {res : cr_S × Int32} (σ : cr_S) (h : f_X11_here σ = some res) : cr_W p l e R s m args below meth c sfM 17 base D cA 1 (MQ below (cr_Qi sfM 17 base D cA res) args s 0 0 (cr_A 17 base)) σ 0 [(0, .ref (base + 0))] [] := by
  unfold f_X11_here at h
  exact g_sub C [0] rfl (w_X11_here_L0 C hr hR _ _ h)
theorem c_X11_here (l : Launch) (base : Nat) (D : va_G) (cA : Nat → ClassId) (σ : cr_S) (res : cr_S × Int32) (h : f_X11_here σ = some res) : cr_M l yX11_here cX11_here 1 (some .int) 0 0 sfM 17 base D cA [.ref (base + 0)] σ (cr_Qi sfM 17 base D cA res) := by
  refine cr_enter [.ref (base + 0)] [(0, .ref (base + 0))] (by decide) (Nat.le_of_ble_eq_true rfl) rfl ?_
  intro p e R s m below meth c C hr hR
  exact w_X11_here C hr hR σ h
noncomputable def f_X11_has_B35  (σ : cr_S) (x2 : Int32) (t0 : Int32) (t1 : Int32) : Option (cr_S × Int32) :=
  cr_let (sF σ 0 13 (t1 + t0)) (fun s1 => chk (isB x2) (some (s1, x2)))
set_option maxRecDepth 100000 in
set_option maxHeartbeats 4000000 in
theorem w_X11_has_B35 (C : cr_C p l e R s m args below meth c sfM 17 base D cA cX11_has 3 RX11) (hr : meth.sig.returnType = some .boolean) (hR : 1 ≤ R.frames ∧ 20 ≤ R.locals) {res : cr_S × Int32}  (σ : cr_S) (x2 : Int32) (t0 : Int32) (t1 : Int32) (h : f_X11_has_B35 σ x2 t0 t1 = some res) : cr_W p l e R s m args below meth c sfM 17 base D cA 3 (MQ below (cr_Qi sfM 17 base D cA res) args s 0 0 (cr_A 17 base)) σ 35 [(2, .int x2)] [.int t0, .int t1, .ref (base + 0)] := by
  unfold f_X11_has_B35 at h
  refine g_iadd (pc' := 36) C dX11_has_35 rfl ?_
  obtain ⟨s1, e2, h⟩ := let_some h
  refine gp_X11_153 (pc' := 39) C dX11_has_36 rfl e2 ?_
  refine g_iload_n (pc' := 40) C dX11_has_39 0 rfl rfl ?_
  obtain ⟨h3, h⟩ := chk_some h
  exact g_zret C hr (isB_n h3) dX11_has_40 h
noncomputable def f_X11_has_B20  (σ : cr_S) (t0 : Int32) : Option (cr_S × Int32) :=
  f_X11_has_B35 σ t0 (if t0 = 0 then 0 else 1) (rF σ 0 13)
set_option maxRecDepth 100000 in
set_option maxHeartbeats 4000000 in
theorem w_X11_has_B20 (C : cr_C p l e R s m args below meth c sfM 17 base D cA cX11_has 3 RX11) (hr : meth.sig.returnType = some .boolean) (hR : 1 ≤ R.frames ∧ 20 ≤ R.locals) {res : cr_S × Int32}  (σ : cr_S) (t0 : Int32) (h : f_X11_has_B20 σ t0 = some res) : cr_W p l e R s m args below meth c sfM 17 base D cA 3 (MQ below (cr_Qi sfM 17 base D cA res) args s 0 0 (cr_A 17 base)) σ 20 [(0, .ref (base + 0))] [.int t0] := by
  unfold f_X11_has_B20 at h
  refine g_istore_n (pc' := 21) (lv' := [(2, .int t0), (0, .ref (base + 0))]) C dX11_has_20 rfl (by decide) rfl rfl ?_
  refine g_aload_n (pc' := 22) C dX11_has_21 1 rfl rfl ?_
  refine g_dup (pc' := 23) C dX11_has_22 rfl rfl ?_
  refine gg_X11_153 (pc' := 26) C dX11_has_23 rfl ?_
  refine g_iload_n (pc' := 27) C dX11_has_26 0 rfl rfl ?_
  refine g_iteI (σ := σ) (pj := 35) (lv := [(2, .int t0), (0, .ref (base + 0))]) (st := [.int (rF σ 0 13), .ref (base + 0)]) (cd := t0 = 0) (a := 0) (b := 1) C ?_ (fun kt kf => ?_)
  · exact g_sub C [0] rfl (w_X11_has_B35 C hr hR _ _ _ _ h)
  · refine g_if_eq (pc' := 30) (tgt := 34) C dX11_has_27 (by decide) rfl (fun hc => ?_) (fun hc => ?_)
    · refine g_iconst (pc' := 35) (v := 0) C dX11_has_34 (by decide) rfl ?_
      exact kt hc
    · refine g_iconst (pc' := 31) (v := 1) C dX11_has_30 (by decide) rfl ?_
      refine g_goto (tgt := 35) C dX11_has_31 (by decide) ?_
      exact kf hc
noncomputable def f_X11_has_B19  (σ : cr_S) : Option (cr_S × Int32) :=
  f_X11_has_B20 σ 0
set_option maxRecDepth 100000 in
set_option maxHeartbeats 4000000 in
theorem w_X11_has_B19 (C : cr_C p l e R s m args below meth c sfM 17 base D cA cX11_has 3 RX11) (hr : meth.sig.returnType = some .boolean) (hR : 1 ≤ R.frames ∧ 20 ≤ R.locals) {res : cr_S × Int32}  (σ : cr_S) (h : f_X11_has_B19 σ = some res) : cr_W p l e R s m args below meth c sfM 17 base D cA 3 (MQ below (cr_Qi sfM 17 base D cA res) args s 0 0 (cr_A 17 base)) σ 19 [(0, .ref (base + 0))] [] := by
  unfold f_X11_has_B19 at h
  refine g_iconst (pc' := 20) (v := 0) C dX11_has_19 (by decide) rfl ?_
  exact g_sub C [0] rfl (w_X11_has_B20 C hr hR _ _ h)
noncomputable def f_X11_has (σ : cr_S) (a1 : Int32) : Option (cr_S × Int32) :=
  (if (rF σ 0 14) = 0 then Option.bind (f_X11_here σ) (fun q4 => (if q4.2 = a1 then f_X11_has_B20 q4.1 1 else f_X11_has_B19 q4.1)) else f_X11_has_B19 σ)
set_option maxRecDepth 100000 in
set_option maxHeartbeats 4000000 in
theorem w_X11_has (C : cr_C p l e R s m args below meth c sfM 17 base D cA cX11_has 3 RX11) (hr : meth.sig.returnType = some .boolean) (hR : 1 ≤ R.frames ∧ 20 ≤ R.locals) {res : cr_S × Int32} (σ : cr_S) (a1 : Int32) (h : f_X11_has σ a1 = some res) : cr_W p l e R s m args below meth c sfM 17 base D cA 3 (MQ below (cr_Qi sfM 17 base D cA res) args s 0 0 (cr_A 17 base)) σ 0 [(0, .ref (base + 0)), (1, .int a1)] [] := by
  unfold f_X11_has at h
  refine g_aload_n (pc' := 1) C dX11_has_0 0 rfl rfl ?_
  refine gg_X11_156 (pc' := 4) C dX11_has_1 rfl ?_
  refine g_if_ne (pc' := 7) (tgt := 19) C dX11_has_4 (by decide) rfl (fun hc => ?_) (fun hc => ?_)
  · rw [if_neg hc] at h
    exact g_sub C [0] rfl (w_X11_has_B19 C hr hR _ h)
  · rw [if_pos hc] at h
    refine g_aload_n (pc' := 8) C dX11_has_7 0 rfl rfl ?_
    obtain ⟨q4, h5, h⟩ := bind_some h
    refine g_callVi (pc' := 11) (res := q4) C [] cY_X11_here rfl (o := 0) (by decide) rfl mv_X11_here mm_X11_160 ⟨Nat.le_trans (by decide) hR.1, Nat.le_trans (by decide) hR.2⟩ rfl (Nat.le_of_ble_eq_true rfl) rfl dX11_has_8 (c_X11_here l base D cA σ q4 h5) rfl ?_
    refine g_iload_n (pc' := 12) C dX11_has_11 1 rfl rfl ?_
    refine g_icmp_ne (pc' := 15) (tgt := 19) C dX11_has_12 (by decide) rfl (fun hc => ?_) (fun hc => ?_)
    · rw [if_neg hc] at h
      exact g_sub C [0] rfl (w_X11_has_B19 C hr hR _ h)
    · rw [if_pos hc] at h
      refine g_iconst (pc' := 16) (v := 1) C dX11_has_15 (by decide) rfl ?_
      refine g_goto (tgt := 20) C dX11_has_16 (by decide) ?_
      exact g_sub C [0] rfl (w_X11_has_B20 C hr hR _ _ h)
theorem c_X11_has (l : Launch) (base : Nat) (D : va_G) (cA : Nat → ClassId) (σ : cr_S) (a1 : Int32) (res : cr_S × Int32) (h : f_X11_has σ a1 = some res) : cr_M l yX11_has cX11_has 3 (some .boolean) 1 20 sfM 17 base D cA [.ref (base + 0), .int a1] σ (cr_Qi sfM 17 base D cA res) := by
  refine cr_enter [.ref (base + 0), .int a1] [(0, .ref (base + 0)), (1, .int a1)] (by decide) (Nat.le_of_ble_eq_true rfl) rfl ?_
  intro p e R s m below meth c C hr hR
  exact w_X11_has C hr hR σ a1 h
noncomputable def f_X11_must_B21  (σ : cr_S) (t0 : Int32) : Option (cr_S) :=
  chk (isB t0) (cr_let (sF σ 0 14 t0) (fun s2 => some s2))
set_option maxRecDepth 100000 in
set_option maxHeartbeats 4000000 in
theorem w_X11_must_B21 (C : cr_C p l e R s m args below meth c sfM 17 base D cA cX11_must 2 RX11) (hr : meth.sig.returnType = none) (hR : 2 ≤ R.frames ∧ 42 ≤ R.locals) {res : cr_S}  (σ : cr_S) (t0 : Int32) (h : f_X11_must_B21 σ t0 = some res) : cr_W p l e R s m args below meth c sfM 17 base D cA 2 (MQ below (cr_Qv sfM 17 base D cA res) args s 0 0 (cr_A 17 base)) σ 21 [] [.int t0, .ref (base + 0)] := by
  unfold f_X11_must_B21 at h
  obtain ⟨h1, h⟩ := chk_some h
  obtain ⟨s2, e3, h⟩ := let_some h
  refine gp_X11_156 (pc' := 24) C (isB_n h1) (isB_f h1) dX11_must_21 rfl e3 ?_
  exact g_vret C hr dX11_must_24 h
noncomputable def f_X11_must_B16  (σ : cr_S) : Option (cr_S) :=
  f_X11_must_B21 σ 1
set_option maxRecDepth 100000 in
set_option maxHeartbeats 4000000 in
theorem w_X11_must_B16 (C : cr_C p l e R s m args below meth c sfM 17 base D cA cX11_must 2 RX11) (hr : meth.sig.returnType = none) (hR : 2 ≤ R.frames ∧ 42 ≤ R.locals) {res : cr_S}  (σ : cr_S) (h : f_X11_must_B16 σ = some res) : cr_W p l e R s m args below meth c sfM 17 base D cA 2 (MQ below (cr_Qv sfM 17 base D cA res) args s 0 0 (cr_A 17 base)) σ 16 [] [.ref (base + 0)] := by
  unfold f_X11_must_B16 at h
  refine g_iconst (pc' := 17) (v := 1) C dX11_must_16 (by decide) rfl ?_
  refine g_goto (tgt := 21) C dX11_must_17 (by decide) ?_
  exact g_sub C [] rfl (w_X11_must_B21 C hr hR _ _ h)
noncomputable def f_X11_must (σ : cr_S) (a1 : Int32) : Option (cr_S) :=
  (if (rF σ 0 14) = 0 then Option.bind (f_X11_has σ a1) (fun q4 => f_X11_must_B21 q4.1 (if q4.2 = 0 then 1 else 0)) else f_X11_must_B16 σ)
set_option maxRecDepth 100000 in
set_option maxHeartbeats 4000000 in
theorem w_X11_must (C : cr_C p l e R s m args below meth c sfM 17 base D cA cX11_must 2 RX11) (hr : meth.sig.returnType = none) (hR : 2 ≤ R.frames ∧ 42 ≤ R.locals) {res : cr_S} (σ : cr_S) (a1 : Int32) (h : f_X11_must σ a1 = some res) : cr_W p l e R s m args below meth c sfM 17 base D cA 2 (MQ below (cr_Qv sfM 17 base D cA res) args s 0 0 (cr_A 17 base)) σ 0 [(0, .ref (base + 0)), (1, .int a1)] [] := by
  unfold f_X11_must at h
  refine g_aload_n (pc' := 1) C dX11_must_0 0 rfl rfl ?_
  refine g_aload_n (pc' := 2) C dX11_must_1 0 rfl rfl ?_
  refine gg_X11_156 (pc' := 5) C dX11_must_2 rfl ?_
  refine g_if_ne (pc' := 8) (tgt := 16) C dX11_must_5 (by decide) rfl (fun hc => ?_) (fun hc => ?_)
  · rw [if_neg hc] at h
    exact g_sub C [] rfl (w_X11_must_B16 C hr hR _ h)
  · rw [if_pos hc] at h
    refine g_aload_n (pc' := 9) C dX11_must_8 0 rfl rfl ?_
    refine g_iload_n (pc' := 10) C dX11_must_9 1 rfl rfl ?_
    obtain ⟨q4, h5, h⟩ := bind_some h
    refine g_callVi (pc' := 13) (res := q4) C [.int a1] cY_X11_has rfl (o := 0) (by decide) rfl mv_X11_has mm_X11_164 ⟨Nat.le_trans (by decide) hR.1, Nat.le_trans (by decide) hR.2⟩ rfl (Nat.le_of_ble_eq_true rfl) rfl dX11_must_10 (c_X11_has l base D cA σ a1 q4 h5) rfl ?_
    refine g_iteI (σ := q4.1) (pj := 21) (lv := [(0, .ref (base + 0)), (1, .int a1)]) (st := [.ref (base + 0)]) (cd := q4.2 = 0) (a := 1) (b := 0) C ?_ (fun kt kf => ?_)
    · exact g_sub C [] rfl (w_X11_must_B21 C hr hR _ _ h)
    · refine g_if_ne (pc' := 16) (tgt := 20) C dX11_must_13 (by decide) rfl (fun hc => ?_) (fun hc => ?_)
      · refine g_iconst (pc' := 21) (v := 0) C dX11_must_20 (by decide) rfl ?_
        exact kf hc
      · refine g_iconst (pc' := 17) (v := 1) C dX11_must_16 (by decide) rfl ?_
        refine g_goto (tgt := 21) C dX11_must_17 (by decide) ?_
        exact kt hc
theorem c_X11_must (l : Launch) (base : Nat) (D : va_G) (cA : Nat → ClassId) (σ : cr_S) (a1 : Int32) (res : cr_S) (h : f_X11_must σ a1 = some res) : cr_M l yX11_must cX11_must 2 none 2 42 sfM 17 base D cA [.ref (base + 0), .int a1] σ (cr_Qv sfM 17 base D cA res) := by
  refine cr_enter [.ref (base + 0), .int a1] [(0, .ref (base + 0)), (1, .int a1)] (by decide) (Nat.le_of_ble_eq_true rfl) rfl ?_
  intro p e R s m below meth c C hr hR
  exact w_X11_must C hr hR σ a1 h
noncomputable def f_X11_number_B24  (σ : cr_S) : Option (cr_S × Int32) :=
  cr_let (sF σ 0 14 1) (fun s1 => some (s1, 0))
set_option maxRecDepth 100000 in
set_option maxHeartbeats 4000000 in
theorem w_X11_number_B24 (C : cr_C p l e R s m args below meth c sfM 17 base D cA cX11_number 5 RX11) (hr : meth.sig.returnType = some .int) (hR : 1 ≤ R.frames ∧ 25 ≤ R.locals) {res : cr_S × Int32}  (σ : cr_S) (h : f_X11_number_B24 σ = some res) : cr_W p l e R s m args below meth c sfM 17 base D cA 5 (MQ below (cr_Qi sfM 17 base D cA res) args s 0 0 (cr_A 17 base)) σ 24 [(0, .ref (base + 0))] [] := by
  unfold f_X11_number_B24 at h
  refine g_aload_n (pc' := 25) C dX11_number_24 0 rfl rfl ?_
  refine g_iconst (pc' := 26) (v := 1) C dX11_number_25 (by decide) rfl ?_
  obtain ⟨s1, e2, h⟩ := let_some h
  refine gp_X11_156 (pc' := 29) C rfl rfl dX11_number_26 rfl e2 ?_
  refine g_iconst (pc' := 30) (v := 0) C dX11_number_29 (by decide) rfl ?_
  exact g_iret C hr dX11_number_30 h
noncomputable def f_X11_number_B156  (σ : cr_S) (x4 : Int32) (t0 : Int32) : Option (cr_S × Int32) :=
  cr_let (sF σ 0 13 t0) (fun s14 => some (s14, x4))
set_option maxRecDepth 100000 in
set_option maxHeartbeats 4000000 in
theorem w_X11_number_B156 (C : cr_C p l e R s m args below meth c sfM 17 base D cA cX11_number 5 RX11) (hr : meth.sig.returnType = some .int) (hR : 1 ≤ R.frames ∧ 25 ≤ R.locals) {res : cr_S × Int32}  (σ : cr_S) (x4 : Int32) (t0 : Int32) (h : f_X11_number_B156 σ x4 t0 = some res) : cr_W p l e R s m args below meth c sfM 17 base D cA 5 (MQ below (cr_Qi sfM 17 base D cA res) args s 0 0 (cr_A 17 base)) σ 156 [(4, .int x4)] [.int t0, .ref (base + 0)] := by
  unfold f_X11_number_B156 at h
  obtain ⟨s14, e15, h⟩ := let_some h
  refine gp_X11_153 (pc' := 159) C dX11_number_156 rfl e15 ?_
  refine g_iload (pc' := 161) C dX11_number_159 0 rfl rfl ?_
  exact g_iret C hr dX11_number_161 h
noncomputable def f_X11_number_B137  (σ : cr_S) (x3 : Int32) (x4 : Int32) (t0 : Int32) : Option (cr_S × Int32) :=
  chk (isB t0) (cr_let (sF σ 0 14 t0) (fun s12 => f_X11_number_B156 s12 x4 (if (rF s12 0 14) = 0 then rF s12 0 13 else x3)))
set_option maxRecDepth 100000 in
set_option maxHeartbeats 4000000 in
theorem w_X11_number_B137 (C : cr_C p l e R s m args below meth c sfM 17 base D cA cX11_number 5 RX11) (hr : meth.sig.returnType = some .int) (hR : 1 ≤ R.frames ∧ 25 ≤ R.locals) {res : cr_S × Int32}  (σ : cr_S) (x3 : Int32) (x4 : Int32) (t0 : Int32) (h : f_X11_number_B137 σ x3 x4 t0 = some res) : cr_W p l e R s m args below meth c sfM 17 base D cA 5 (MQ below (cr_Qi sfM 17 base D cA res) args s 0 0 (cr_A 17 base)) σ 137 [(0, .ref (base + 0)), (3, .int x3), (4, .int x4)] [.int t0, .ref (base + 0)] := by
  unfold f_X11_number_B137 at h
  obtain ⟨h11, h⟩ := chk_some h
  obtain ⟨s12, e13, h⟩ := let_some h
  refine gp_X11_156 (pc' := 140) C (isB_n h11) (isB_f h11) dX11_number_137 rfl e13 ?_
  refine g_aload_n (pc' := 141) C dX11_number_140 0 rfl rfl ?_
  refine g_aload_n (pc' := 142) C dX11_number_141 0 rfl rfl ?_
  refine gg_X11_156 (pc' := 145) C dX11_number_142 rfl ?_
  refine g_iteI (σ := s12) (pj := 156) (lv := [(0, .ref (base + 0)), (3, .int x3), (4, .int x4)]) (st := [.ref (base + 0)]) (cd := (rF s12 0 14) = 0) (a := rF s12 0 13) (b := x3) C ?_ (fun kt kf => ?_)
  · exact g_sub C [2] rfl (w_X11_number_B156 C hr hR _ _ _ h)
  · refine g_if_eq (pc' := 148) (tgt := 152) C dX11_number_145 (by decide) rfl (fun hc => ?_) (fun hc => ?_)
    · refine g_aload_n (pc' := 153) C dX11_number_152 0 rfl rfl ?_
      refine gg_X11_153 (pc' := 156) C dX11_number_153 rfl ?_
      exact kt hc
    · refine g_iload_n (pc' := 149) C dX11_number_148 1 rfl rfl ?_
      refine g_goto (tgt := 156) C dX11_number_149 (by decide) ?_
      exact kf hc
noncomputable def f_X11_number_B118  (σ : cr_S) (x1 : Int32) (x2 : Int32) (x3 : Int32) (x4 : Int32) : Option (cr_S × Int32) :=
  Option.bind (f_X11_in σ (Int32.toInt64 x4) (Int32.toInt64 x1) (Int32.toInt64 x2)) (fun q9 => f_X11_number_B137 q9.1 x3 x4 (if q9.2 = 0 then 1 else 0))
set_option maxRecDepth 100000 in
set_option maxHeartbeats 4000000 in
theorem w_X11_number_B118 (C : cr_C p l e R s m args below meth c sfM 17 base D cA cX11_number 5 RX11) (hr : meth.sig.returnType = some .int) (hR : 1 ≤ R.frames ∧ 25 ≤ R.locals) {res : cr_S × Int32}  (σ : cr_S) (x1 : Int32) (x2 : Int32) (x3 : Int32) (x4 : Int32) (h : f_X11_number_B118 σ x1 x2 x3 x4 = some res) : cr_W p l e R s m args below meth c sfM 17 base D cA 5 (MQ below (cr_Qi sfM 17 base D cA res) args s 0 0 (cr_A 17 base)) σ 118 [(0, .ref (base + 0)), (1, .int x1), (2, .int x2), (3, .int x3), (4, .int x4)] [] := by
  unfold f_X11_number_B118 at h
  refine g_aload_n (pc' := 119) C dX11_number_118 0 rfl rfl ?_
  refine g_iload (pc' := 121) C dX11_number_119 4 rfl rfl ?_
  refine g_i2l (pc' := 122) C dX11_number_121 rfl ?_
  refine g_iload_n (pc' := 123) C dX11_number_122 1 rfl rfl ?_
  refine g_i2l (pc' := 124) C dX11_number_123 rfl ?_
  refine g_iload_n (pc' := 125) C dX11_number_124 2 rfl rfl ?_
  refine g_i2l (pc' := 126) C dX11_number_125 rfl ?_
  obtain ⟨q9, h10, h⟩ := bind_some h
  refine g_callSi (pc' := 129) (res := q9) C [.long (Int32.toInt64 x4), .long (Int32.toInt64 x1), .long (Int32.toInt64 x2)] cY_X11_in mv_X11_in mm_X11_66 ⟨Nat.le_trans (by decide) hR.1, Nat.le_trans (by decide) hR.2⟩ rfl (Nat.le_of_ble_eq_true rfl) rfl dX11_number_126 (c_X11_in l base D cA σ (Int32.toInt64 x4) (Int32.toInt64 x1) (Int32.toInt64 x2) q9 h10) rfl ?_
  refine g_iteI (σ := q9.1) (pj := 137) (lv := [(0, .ref (base + 0)), (1, .int x1), (2, .int x2), (3, .int x3), (4, .int x4)]) (st := [.ref (base + 0)]) (cd := q9.2 = 0) (a := 1) (b := 0) C ?_ (fun kt kf => ?_)
  · exact g_sub C [0, 3, 4] rfl (w_X11_number_B137 C hr hR _ _ _ _ h)
  · refine g_if_ne (pc' := 132) (tgt := 136) C dX11_number_129 (by decide) rfl (fun hc => ?_) (fun hc => ?_)
    · refine g_iconst (pc' := 137) (v := 0) C dX11_number_136 (by decide) rfl ?_
      exact kf hc
    · refine g_iconst (pc' := 133) (v := 1) C dX11_number_132 (by decide) rfl ?_
      refine g_goto (tgt := 137) C dX11_number_133 (by decide) ?_
      exact kt hc
noncomputable def f_X11_number_B103 (r39 : cr_S → Int32 → Int32 → Int32 → Int32 → Option (cr_S × Int32)) (σ : cr_S) (x1 : Int32) (x2 : Int32) (x3 : Int32) (t0 : Int32) : Option (cr_S × Int32) :=
  cr_let (sF σ 0 13 ((rF σ 0 13) + 1)) (fun s20 => r39 s20 x1 x2 x3 t0)
set_option maxRecDepth 100000 in
set_option maxHeartbeats 4000000 in
theorem w_X11_number_B103 (C : cr_C p l e R s m args below meth c sfM 17 base D cA cX11_number 5 RX11) (hr : meth.sig.returnType = some .int) (hR : 1 ≤ R.frames ∧ 25 ≤ R.locals) {res : cr_S × Int32} (r39 : cr_S → Int32 → Int32 → Int32 → Int32 → Option (cr_S × Int32)) (hr39 : ∀ (σ : cr_S) (x1 : Int32) (x2 : Int32) (x3 : Int32) (x4 : Int32), r39 σ x1 x2 x3 x4 = some res → cr_W p l e R s m args below meth c sfM 17 base D cA 5 (MQ below (cr_Qi sfM 17 base D cA res) args s 0 0 (cr_A 17 base)) σ 39 [(0, .ref (base + 0)), (1, .int x1), (2, .int x2), (3, .int x3), (4, .int x4)] []) (σ : cr_S) (x1 : Int32) (x2 : Int32) (x3 : Int32) (t0 : Int32) (h : f_X11_number_B103 r39 σ x1 x2 x3 t0 = some res) : cr_W p l e R s m args below meth c sfM 17 base D cA 5 (MQ below (cr_Qi sfM 17 base D cA res) args s 0 0 (cr_A 17 base)) σ 103 [(0, .ref (base + 0)), (1, .int x1), (2, .int x2), (3, .int x3)] [.int t0] := by
  unfold f_X11_number_B103 at h
  refine g_istore (pc' := 105) (lv' := [(4, .int t0), (0, .ref (base + 0)), (1, .int x1), (2, .int x2), (3, .int x3)]) C dX11_number_103 (by decide) rfl rfl ?_
  refine g_aload_n (pc' := 106) C dX11_number_105 1 rfl rfl ?_
  refine g_dup (pc' := 107) C dX11_number_106 rfl rfl ?_
  refine gg_X11_153 (pc' := 110) C dX11_number_107 rfl ?_
  refine g_iconst (pc' := 111) (v := 1) C dX11_number_110 (by decide) rfl ?_
  refine g_iadd (pc' := 112) C dX11_number_111 rfl ?_
  obtain ⟨s20, e21, h⟩ := let_some h
  refine gp_X11_153 (pc' := 115) C dX11_number_112 rfl e21 ?_
  refine g_goto (tgt := 39) C dX11_number_115 (by decide) ?_
  exact g_sub C [1, 2, 3, 4, 0] rfl (hr39 _ _ _ _ _ h)
noncomputable def f_X11_number_L39  : Nat → cr_S → Int32 → Int32 → Int32 → Int32 → Option (cr_S × Int32)
  | 0, _, _, _, _, _ => none
  | n + 1, σ, x1, x2, x3, x4 =>
    (if (rF σ 0 12) ≤ (rF σ 0 13) then f_X11_number_B118 σ x1 x2 x3 x4 else chk (inb (rF σ 0 13) 100) (Option.bind (f_X11_in σ (Int32.toInt64 (rA σ 5 (rF σ 0 13))) 48 57) (fun q17 => (if q17.2 = 0 then f_X11_number_B118 q17.1 x1 x2 x3 x4 else (if x4 ≤ 9999 then chk (inb (rF q17.1 0 13) 100) (f_X11_number_B103 (f_X11_number_L39 n) q17.1 x1 x2 x3 (((10 * x4) + (rA q17.1 5 (rF q17.1 0 13))) - 48)) else f_X11_number_B103 (f_X11_number_L39 n) q17.1 x1 x2 x3 x4)))))
set_option maxRecDepth 100000 in
set_option maxHeartbeats 4000000 in
theorem w_X11_number_L39 (C : cr_C p l e R s m args below meth c sfM 17 base D cA cX11_number 5 RX11) (hr : meth.sig.returnType = some .int) (hR : 1 ≤ R.frames ∧ 25 ≤ R.locals) {res : cr_S × Int32}  : ∀ (n : Nat) (σ : cr_S) (x1 : Int32) (x2 : Int32) (x3 : Int32) (x4 : Int32), f_X11_number_L39 n σ x1 x2 x3 x4 = some res → cr_W p l e R s m args below meth c sfM 17 base D cA 5 (MQ below (cr_Qi sfM 17 base D cA res) args s 0 0 (cr_A 17 base)) σ 39 [(0, .ref (base + 0)), (1, .int x1), (2, .int x2), (3, .int x3), (4, .int x4)] [] := by
  intro n
  induction n with
  | zero =>
    intro σ x1 x2 x3 x4 h
    cases h
  | succ n ih =>
    intro σ x1 x2 x3 x4 h
    rw [f_X11_number_L39] at h
    refine g_aload_n (pc' := 40) C dX11_number_39 0 rfl rfl ?_
    refine gg_X11_153 (pc' := 43) C dX11_number_40 rfl ?_
    refine g_aload_n (pc' := 44) C dX11_number_43 0 rfl rfl ?_
    refine gg_X11_150 (pc' := 47) C dX11_number_44 rfl ?_
    refine g_icmp_ge (pc' := 50) (tgt := 118) C dX11_number_47 (by decide) rfl (fun hc => ?_) (fun hc => ?_)
    · rw [if_pos hc] at h
      exact g_sub C [0, 1, 2, 3, 4] rfl (w_X11_number_B118 C hr hR _ _ _ _ _ h)
    · rw [if_neg hc] at h
      refine g_aload_n (pc' := 51) C dX11_number_50 0 rfl rfl ?_
      refine gg_X11_26 (pc' := 54) C dX11_number_51 rfl ?_
      refine g_aload_n (pc' := 55) C dX11_number_54 0 rfl rfl ?_
      refine gg_X11_153 (pc' := 58) C dX11_number_55 rfl ?_
      obtain ⟨h16, h⟩ := chk_some h
      refine g_iald (pc' := 59) C (o := 5) (by decide) rfl (inb_d h16) dX11_number_58 rfl ?_
      refine g_i2l (pc' := 60) C dX11_number_59 rfl ?_
      refine g_ldc2 (pc' := 63) (v := 48) C dX11_number_60 ml_X11_167 rfl ?_
      refine g_ldc2 (pc' := 66) (v := 57) C dX11_number_63 ml_X11_169 rfl ?_
      obtain ⟨q17, h18, h⟩ := bind_some h
      refine g_callSi (pc' := 69) (res := q17) C [.long (Int32.toInt64 (rA σ 5 (rF σ 0 13))), .long 48, .long 57] cY_X11_in mv_X11_in mm_X11_66 ⟨Nat.le_trans (by decide) hR.1, Nat.le_trans (by decide) hR.2⟩ rfl (Nat.le_of_ble_eq_true rfl) rfl dX11_number_66 (c_X11_in l base D cA σ (Int32.toInt64 (rA σ 5 (rF σ 0 13))) 48 57 q17 h18) rfl ?_
      refine g_if_eq (pc' := 72) (tgt := 118) C dX11_number_69 (by decide) rfl (fun hc => ?_) (fun hc => ?_)
      · rw [if_pos hc] at h
        exact g_sub C [0, 1, 2, 3, 4] rfl (w_X11_number_B118 C hr hR _ _ _ _ _ h)
      · rw [if_neg hc] at h
        refine g_iload (pc' := 74) C dX11_number_72 4 rfl rfl ?_
        refine g_sipush (pc' := 77) (v := 9999) C dX11_number_74 (by decide) rfl ?_
        refine g_icmp_le (pc' := 80) (tgt := 85) C dX11_number_77 (by decide) rfl (fun hc => ?_) (fun hc => ?_)
        · rw [if_pos hc] at h
          refine g_bipush (pc' := 87) (v := 10) C dX11_number_85 (by decide) rfl ?_
          refine g_iload (pc' := 89) C dX11_number_87 4 rfl rfl ?_
          refine g_imul (pc' := 90) C dX11_number_89 rfl ?_
          refine g_aload_n (pc' := 91) C dX11_number_90 0 rfl rfl ?_
          refine gg_X11_26 (pc' := 94) C dX11_number_91 rfl ?_
          refine g_aload_n (pc' := 95) C dX11_number_94 0 rfl rfl ?_
          refine gg_X11_153 (pc' := 98) C dX11_number_95 rfl ?_
          obtain ⟨h19, h⟩ := chk_some h
          refine g_iald (pc' := 99) C (o := 5) (by decide) rfl (inb_d h19) dX11_number_98 rfl ?_
          refine g_iadd (pc' := 100) C dX11_number_99 rfl ?_
          refine g_bipush (pc' := 102) (v := 48) C dX11_number_100 (by decide) rfl ?_
          refine g_isub (pc' := 103) C dX11_number_102 rfl ?_
          exact g_sub C [0, 1, 2, 3] rfl (w_X11_number_B103 C hr hR (f_X11_number_L39 n) ih _ _ _ _ _ h)
        · rw [if_neg hc] at h
          refine g_iload (pc' := 82) C dX11_number_80 4 rfl rfl ?_
          refine g_goto (tgt := 103) C dX11_number_82 (by decide) ?_
          exact g_sub C [0, 1, 2, 3] rfl (w_X11_number_B103 C hr hR (f_X11_number_L39 n) ih _ _ _ _ _ h)
noncomputable def f_X11_number (σ : cr_S) (a1 : Int32) (a2 : Int32) : Option (cr_S × Int32) :=
  (if (rF σ 0 14) = 0 then Option.bind (f_X11_here σ) (fun q3 => Option.bind (f_X11_in q3.1 (Int32.toInt64 q3.2) 48 57) (fun q5 => (if q5.2 = 0 then f_X11_number_B24 q5.1 else cr_let (rF q5.1 0 13) (fun v7 => f_X11_number_L39 cr_fuel q5.1 a1 a2 v7 0)))) else f_X11_number_B24 σ)
set_option maxRecDepth 100000 in
set_option maxHeartbeats 4000000 in
theorem w_X11_number (C : cr_C p l e R s m args below meth c sfM 17 base D cA cX11_number 5 RX11) (hr : meth.sig.returnType = some .int) (hR : 1 ≤ R.frames ∧ 25 ≤ R.locals) {res : cr_S × Int32} (σ : cr_S) (a1 : Int32) (a2 : Int32) (h : f_X11_number σ a1 a2 = some res) : cr_W p l e R s m args below meth c sfM 17 base D cA 5 (MQ below (cr_Qi sfM 17 base D cA res) args s 0 0 (cr_A 17 base)) σ 0 [(0, .ref (base + 0)), (1, .int a1), (2, .int a2)] [] := by
  unfold f_X11_number at h
  refine g_aload_n (pc' := 1) C dX11_number_0 0 rfl rfl ?_
  refine gg_X11_156 (pc' := 4) C dX11_number_1 rfl ?_
  refine g_if_ne (pc' := 7) (tgt := 24) C dX11_number_4 (by decide) rfl (fun hc => ?_) (fun hc => ?_)
  · rw [if_neg hc] at h
    exact g_sub C [0] rfl (w_X11_number_B24 C hr hR _ h)
  · rw [if_pos hc] at h
    refine g_aload_n (pc' := 8) C dX11_number_7 0 rfl rfl ?_
    obtain ⟨q3, h4, h⟩ := bind_some h
    refine g_callVi (pc' := 11) (res := q3) C [] cY_X11_here rfl (o := 0) (by decide) rfl mv_X11_here mm_X11_160 ⟨Nat.le_trans (by decide) hR.1, Nat.le_trans (by decide) hR.2⟩ rfl (Nat.le_of_ble_eq_true rfl) rfl dX11_number_8 (c_X11_here l base D cA σ q3 h4) rfl ?_
    refine g_i2l (pc' := 12) C dX11_number_11 rfl ?_
    refine g_ldc2 (pc' := 15) (v := 48) C dX11_number_12 ml_X11_167 rfl ?_
    refine g_ldc2 (pc' := 18) (v := 57) C dX11_number_15 ml_X11_169 rfl ?_
    obtain ⟨q5, h6, h⟩ := bind_some h
    refine g_callSi (pc' := 21) (res := q5) C [.long (Int32.toInt64 q3.2), .long 48, .long 57] cY_X11_in mv_X11_in mm_X11_66 ⟨Nat.le_trans (by decide) hR.1, Nat.le_trans (by decide) hR.2⟩ rfl (Nat.le_of_ble_eq_true rfl) rfl dX11_number_18 (c_X11_in l base D cA q3.1 (Int32.toInt64 q3.2) 48 57 q5 h6) rfl ?_
    refine g_if_ne (pc' := 24) (tgt := 31) C dX11_number_21 (by decide) rfl (fun hc => ?_) (fun hc => ?_)
    · rw [if_neg hc] at h
      refine g_aload_n (pc' := 32) C dX11_number_31 0 rfl rfl ?_
      refine gg_X11_153 (pc' := 35) C dX11_number_32 rfl ?_
      obtain ⟨v7, e8, h⟩ := let_some h
      refine g_nameI e8 ?_
      refine g_istore_n (pc' := 36) (lv' := [(3, .int v7), (0, .ref (base + 0)), (1, .int a1), (2, .int a2)]) C dX11_number_35 rfl (by decide) rfl rfl ?_
      refine g_iconst (pc' := 37) (v := 0) C dX11_number_36 (by decide) rfl ?_
      refine g_istore (pc' := 39) (lv' := [(4, .int 0), (3, .int v7), (0, .ref (base + 0)), (1, .int a1), (2, .int a2)]) C dX11_number_37 (by decide) rfl rfl ?_
      exact g_sub C [2, 3, 4, 1, 0] rfl (w_X11_number_L39 C hr hR _ _ _ _ _ _ h)
    · rw [if_pos hc] at h
      exact g_sub C [0] rfl (w_X11_number_B24 C hr hR _ h)
theorem c_X11_number (l : Launch) (base : Nat) (D : va_G) (cA : Nat → ClassId) (σ : cr_S) (a1 : Int32) (a2 : Int32) (res : cr_S × Int32) (h : f_X11_number σ a1 a2 = some res) : cr_M l yX11_number cX11_number 5 (some .int) 1 25 sfM 17 base D cA [.ref (base + 0), .int a1, .int a2] σ (cr_Qi sfM 17 base D cA res) := by
  refine cr_enter [.ref (base + 0), .int a1, .int a2] [(0, .ref (base + 0)), (1, .int a1), (2, .int a2)] (by decide) (Nat.le_of_ble_eq_true rfl) rfl ?_
  intro p e R s m below meth c C hr hR
  exact w_X11_number C hr hR σ a1 a2 h
noncomputable def f_X11_letter_B100  (σ : cr_S) (x6 : Int32) (t0 : Int32) (t1 : Int32) : Option (cr_S × Int32) :=
  cr_let (sF σ 0 13 (t1 + t0)) (fun s6 => some (s6, x6))
set_option maxRecDepth 100000 in
set_option maxHeartbeats 4000000 in
theorem w_X11_letter_B100 (C : cr_C p l e R s m args below meth c sfM 17 base D cA cX11_letter 7 RX11) (hr : meth.sig.returnType = some .int) (hR : 1 ≤ R.frames ∧ 20 ≤ R.locals) {res : cr_S × Int32}  (σ : cr_S) (x6 : Int32) (t0 : Int32) (t1 : Int32) (h : f_X11_letter_B100 σ x6 t0 t1 = some res) : cr_W p l e R s m args below meth c sfM 17 base D cA 7 (MQ below (cr_Qi sfM 17 base D cA res) args s 0 0 (cr_A 17 base)) σ 100 [(6, .int x6)] [.int t0, .int t1, .ref (base + 0)] := by
  unfold f_X11_letter_B100 at h
  refine g_iadd (pc' := 101) C dX11_letter_100 rfl ?_
  obtain ⟨s6, e7, h⟩ := let_some h
  refine gp_X11_153 (pc' := 104) C dX11_letter_101 rfl e7 ?_
  refine g_iload (pc' := 106) C dX11_letter_104 0 rfl rfl ?_
  exact g_iret C hr dX11_letter_106 h
noncomputable def f_X11_letter_B80  (σ : cr_S) (x6 : Int32) (t0 : Int32) : Option (cr_S × Int32) :=
  chk (isB t0) (cr_let (sF σ 0 14 t0) (fun s4 => f_X11_letter_B100 s4 x6 (if (rF s4 0 14) = 0 then 1 else 0) (rF s4 0 13)))
set_option maxRecDepth 100000 in
set_option maxHeartbeats 4000000 in
theorem w_X11_letter_B80 (C : cr_C p l e R s m args below meth c sfM 17 base D cA cX11_letter 7 RX11) (hr : meth.sig.returnType = some .int) (hR : 1 ≤ R.frames ∧ 20 ≤ R.locals) {res : cr_S × Int32}  (σ : cr_S) (x6 : Int32) (t0 : Int32) (h : f_X11_letter_B80 σ x6 t0 = some res) : cr_W p l e R s m args below meth c sfM 17 base D cA 7 (MQ below (cr_Qi sfM 17 base D cA res) args s 0 0 (cr_A 17 base)) σ 80 [(0, .ref (base + 0)), (6, .int x6)] [.int t0, .ref (base + 0)] := by
  unfold f_X11_letter_B80 at h
  obtain ⟨h3, h⟩ := chk_some h
  obtain ⟨s4, e5, h⟩ := let_some h
  refine gp_X11_156 (pc' := 83) C (isB_n h3) (isB_f h3) dX11_letter_80 rfl e5 ?_
  refine g_aload_n (pc' := 84) C dX11_letter_83 0 rfl rfl ?_
  refine g_dup (pc' := 85) C dX11_letter_84 rfl rfl ?_
  refine gg_X11_153 (pc' := 88) C dX11_letter_85 rfl ?_
  refine g_aload_n (pc' := 89) C dX11_letter_88 0 rfl rfl ?_
  refine gg_X11_156 (pc' := 92) C dX11_letter_89 rfl ?_
  refine g_iteI (σ := s4) (pj := 100) (lv := [(0, .ref (base + 0)), (6, .int x6)]) (st := [.int (rF s4 0 13), .ref (base + 0)]) (cd := (rF s4 0 14) = 0) (a := 1) (b := 0) C ?_ (fun kt kf => ?_)
  · exact g_sub C [1] rfl (w_X11_letter_B100 C hr hR _ _ _ _ h)
  · refine g_if_eq (pc' := 95) (tgt := 99) C dX11_letter_92 (by decide) rfl (fun hc => ?_) (fun hc => ?_)
    · refine g_iconst (pc' := 100) (v := 1) C dX11_letter_99 (by decide) rfl ?_
      exact kt hc
    · refine g_iconst (pc' := 96) (v := 0) C dX11_letter_95 (by decide) rfl ?_
      refine g_goto (tgt := 100) C dX11_letter_96 (by decide) ?_
      exact kf hc
noncomputable def f_X11_letter_B75  (σ : cr_S) (x6 : Int32) : Option (cr_S × Int32) :=
  f_X11_letter_B80 σ x6 1
set_option maxRecDepth 100000 in
set_option maxHeartbeats 4000000 in
theorem w_X11_letter_B75 (C : cr_C p l e R s m args below meth c sfM 17 base D cA cX11_letter 7 RX11) (hr : meth.sig.returnType = some .int) (hR : 1 ≤ R.frames ∧ 20 ≤ R.locals) {res : cr_S × Int32}  (σ : cr_S) (x6 : Int32) (h : f_X11_letter_B75 σ x6 = some res) : cr_W p l e R s m args below meth c sfM 17 base D cA 7 (MQ below (cr_Qi sfM 17 base D cA res) args s 0 0 (cr_A 17 base)) σ 75 [(0, .ref (base + 0)), (6, .int x6)] [.ref (base + 0)] := by
  unfold f_X11_letter_B75 at h
  refine g_iconst (pc' := 76) (v := 1) C dX11_letter_75 (by decide) rfl ?_
  refine g_goto (tgt := 80) C dX11_letter_76 (by decide) ?_
  exact g_sub C [0, 1] rfl (w_X11_letter_B80 C hr hR _ _ _ h)
noncomputable def f_X11_letter_B60  (σ : cr_S) (t0 : Int32) : Option (cr_S × Int32) :=
  (if (rF σ 0 14) = 0 then f_X11_letter_B80 σ t0 (if 0 ≤ t0 then 0 else 1) else f_X11_letter_B75 σ t0)
set_option maxRecDepth 100000 in
set_option maxHeartbeats 4000000 in
theorem w_X11_letter_B60 (C : cr_C p l e R s m args below meth c sfM 17 base D cA cX11_letter 7 RX11) (hr : meth.sig.returnType = some .int) (hR : 1 ≤ R.frames ∧ 20 ≤ R.locals) {res : cr_S × Int32}  (σ : cr_S) (t0 : Int32) (h : f_X11_letter_B60 σ t0 = some res) : cr_W p l e R s m args below meth c sfM 17 base D cA 7 (MQ below (cr_Qi sfM 17 base D cA res) args s 0 0 (cr_A 17 base)) σ 60 [(0, .ref (base + 0))] [.int t0] := by
  unfold f_X11_letter_B60 at h
  refine g_istore (pc' := 62) (lv' := [(6, .int t0), (0, .ref (base + 0))]) C dX11_letter_60 (by decide) rfl rfl ?_
  refine g_aload_n (pc' := 63) C dX11_letter_62 1 rfl rfl ?_
  refine g_aload_n (pc' := 64) C dX11_letter_63 1 rfl rfl ?_
  refine gg_X11_156 (pc' := 67) C dX11_letter_64 rfl ?_
  refine g_if_ne (pc' := 70) (tgt := 75) C dX11_letter_67 (by decide) rfl (fun hc => ?_) (fun hc => ?_)
  · rw [if_neg hc] at h
    exact g_sub C [1, 0] rfl (w_X11_letter_B75 C hr hR _ _ h)
  · rw [if_pos hc] at h
    refine g_iload (pc' := 72) C dX11_letter_70 0 rfl rfl ?_
    refine g_iteI (σ := σ) (pj := 80) (lv := [(6, .int t0), (0, .ref (base + 0))]) (st := [.ref (base + 0)]) (cd := 0 ≤ t0) (a := 0) (b := 1) C ?_ (fun kt kf => ?_)
    · exact g_sub C [1, 0] rfl (w_X11_letter_B80 C hr hR _ _ _ h)
    · refine g_if_ge (pc' := 75) (tgt := 79) C dX11_letter_72 (by decide) rfl (fun hc => ?_) (fun hc => ?_)
      · refine g_iconst (pc' := 80) (v := 0) C dX11_letter_79 (by decide) rfl ?_
        exact kt hc
      · refine g_iconst (pc' := 76) (v := 1) C dX11_letter_75 (by decide) rfl ?_
        refine g_goto (tgt := 80) C dX11_letter_76 (by decide) ?_
        exact kf hc
noncomputable def f_X11_letter_B15  (σ : cr_S) (x1 : Int32) (x2 : Int32) (x3 : Int32) (x4 : Int32) (t0 : Int32) : Option (cr_S × Int32) :=
  (if t0 = x1 then f_X11_letter_B60 σ 0 else (if t0 = x2 then f_X11_letter_B60 σ 1 else (if t0 = x3 then f_X11_letter_B60 σ 2 else (if t0 = x4 then f_X11_letter_B60 σ 3 else f_X11_letter_B60 σ (-4)))))
set_option maxRecDepth 100000 in
set_option maxHeartbeats 4000000 in
theorem w_X11_letter_B15 (C : cr_C p l e R s m args below meth c sfM 17 base D cA cX11_letter 7 RX11) (hr : meth.sig.returnType = some .int) (hR : 1 ≤ R.frames ∧ 20 ≤ R.locals) {res : cr_S × Int32}  (σ : cr_S) (x1 : Int32) (x2 : Int32) (x3 : Int32) (x4 : Int32) (t0 : Int32) (h : f_X11_letter_B15 σ x1 x2 x3 x4 t0 = some res) : cr_W p l e R s m args below meth c sfM 17 base D cA 7 (MQ below (cr_Qi sfM 17 base D cA res) args s 0 0 (cr_A 17 base)) σ 15 [(0, .ref (base + 0)), (1, .int x1), (2, .int x2), (3, .int x3), (4, .int x4)] [.int t0] := by
  unfold f_X11_letter_B15 at h
  refine g_istore (pc' := 17) (lv' := [(5, .int t0), (0, .ref (base + 0)), (1, .int x1), (2, .int x2), (3, .int x3), (4, .int x4)]) C dX11_letter_15 (by decide) rfl rfl ?_
  refine g_iload (pc' := 19) C dX11_letter_17 0 rfl rfl ?_
  refine g_iload_n (pc' := 20) C dX11_letter_19 2 rfl rfl ?_
  refine g_icmp_ne (pc' := 23) (tgt := 27) C dX11_letter_20 (by decide) rfl (fun hc => ?_) (fun hc => ?_)
  · rw [if_neg hc] at h
    refine g_iload (pc' := 29) C dX11_letter_27 0 rfl rfl ?_
    refine g_iload_n (pc' := 30) C dX11_letter_29 3 rfl rfl ?_
    refine g_icmp_ne (pc' := 33) (tgt := 37) C dX11_letter_30 (by decide) rfl (fun hc => ?_) (fun hc => ?_)
    · rw [if_neg hc] at h
      refine g_iload (pc' := 39) C dX11_letter_37 0 rfl rfl ?_
      refine g_iload_n (pc' := 40) C dX11_letter_39 4 rfl rfl ?_
      refine g_icmp_ne (pc' := 43) (tgt := 47) C dX11_letter_40 (by decide) rfl (fun hc => ?_) (fun hc => ?_)
      · rw [if_neg hc] at h
        refine g_iload (pc' := 49) C dX11_letter_47 0 rfl rfl ?_
        refine g_iload (pc' := 51) C dX11_letter_49 5 rfl rfl ?_
        refine g_icmp_ne (pc' := 54) (tgt := 58) C dX11_letter_51 (by decide) rfl (fun hc => ?_) (fun hc => ?_)
        · rw [if_neg hc] at h
          refine g_bipush (pc' := 60) (v := (-4)) C dX11_letter_58 (by decide) rfl ?_
          exact g_sub C [1] rfl (w_X11_letter_B60 C hr hR _ _ h)
        · rw [if_pos hc] at h
          refine g_iconst (pc' := 55) (v := 3) C dX11_letter_54 (by decide) rfl ?_
          refine g_goto (tgt := 60) C dX11_letter_55 (by decide) ?_
          exact g_sub C [1] rfl (w_X11_letter_B60 C hr hR _ _ h)
      · rw [if_pos hc] at h
        refine g_iconst (pc' := 44) (v := 2) C dX11_letter_43 (by decide) rfl ?_
        refine g_goto (tgt := 60) C dX11_letter_44 (by decide) ?_
        exact g_sub C [1] rfl (w_X11_letter_B60 C hr hR _ _ h)
    · rw [if_pos hc] at h
      refine g_iconst (pc' := 34) (v := 1) C dX11_letter_33 (by decide) rfl ?_
      refine g_goto (tgt := 60) C dX11_letter_34 (by decide) ?_
      exact g_sub C [1] rfl (w_X11_letter_B60 C hr hR _ _ h)
  · rw [if_pos hc] at h
    refine g_iconst (pc' := 24) (v := 0) C dX11_letter_23 (by decide) rfl ?_
    refine g_goto (tgt := 60) C dX11_letter_24 (by decide) ?_
    exact g_sub C [1] rfl (w_X11_letter_B60 C hr hR _ _ h)
noncomputable def f_X11_letter (σ : cr_S) (a1 : Int32) (a2 : Int32) (a3 : Int32) (a4 : Int32) : Option (cr_S × Int32) :=
  (if (rF σ 0 14) = 0 then Option.bind (f_X11_here σ) (fun q1 => f_X11_letter_B15 q1.1 a1 a2 a3 a4 q1.2) else f_X11_letter_B15 σ a1 a2 a3 a4 0)
set_option maxRecDepth 100000 in
set_option maxHeartbeats 4000000 in
theorem w_X11_letter (C : cr_C p l e R s m args below meth c sfM 17 base D cA cX11_letter 7 RX11) (hr : meth.sig.returnType = some .int) (hR : 1 ≤ R.frames ∧ 20 ≤ R.locals) {res : cr_S × Int32} (σ : cr_S) (a1 : Int32) (a2 : Int32) (a3 : Int32) (a4 : Int32) (h : f_X11_letter σ a1 a2 a3 a4 = some res) : cr_W p l e R s m args below meth c sfM 17 base D cA 7 (MQ below (cr_Qi sfM 17 base D cA res) args s 0 0 (cr_A 17 base)) σ 0 [(0, .ref (base + 0)), (1, .int a1), (2, .int a2), (3, .int a3), (4, .int a4)] [] := by
  unfold f_X11_letter at h
  refine g_aload_n (pc' := 1) C dX11_letter_0 0 rfl rfl ?_
  refine gg_X11_156 (pc' := 4) C dX11_letter_1 rfl ?_
  refine g_if_eq (pc' := 7) (tgt := 11) C dX11_letter_4 (by decide) rfl (fun hc => ?_) (fun hc => ?_)
  · rw [if_pos hc] at h
    refine g_aload_n (pc' := 12) C dX11_letter_11 0 rfl rfl ?_
    obtain ⟨q1, h2, h⟩ := bind_some h
    refine g_callVi (pc' := 15) (res := q1) C [] cY_X11_here rfl (o := 0) (by decide) rfl mv_X11_here mm_X11_160 ⟨Nat.le_trans (by decide) hR.1, Nat.le_trans (by decide) hR.2⟩ rfl (Nat.le_of_ble_eq_true rfl) rfl dX11_letter_12 (c_X11_here l base D cA σ q1 h2) rfl ?_
    exact g_sub C [0, 1, 2, 3, 4] rfl (w_X11_letter_B15 C hr hR _ _ _ _ _ _ h)
  · rw [if_neg hc] at h
    refine g_iconst (pc' := 8) (v := 0) C dX11_letter_7 (by decide) rfl ?_
    refine g_goto (tgt := 15) C dX11_letter_8 (by decide) ?_
    exact g_sub C [0, 1, 2, 3, 4] rfl (w_X11_letter_B15 C hr hR _ _ _ _ _ _ h)
theorem c_X11_letter (l : Launch) (base : Nat) (D : va_G) (cA : Nat → ClassId) (σ : cr_S) (a1 : Int32) (a2 : Int32) (a3 : Int32) (a4 : Int32) (res : cr_S × Int32) (h : f_X11_letter σ a1 a2 a3 a4 = some res) : cr_M l yX11_letter cX11_letter 7 (some .int) 1 20 sfM 17 base D cA [.ref (base + 0), .int a1, .int a2, .int a3, .int a4] σ (cr_Qi sfM 17 base D cA res) := by
  refine cr_enter [.ref (base + 0), .int a1, .int a2, .int a3, .int a4] [(0, .ref (base + 0)), (1, .int a1), (2, .int a2), (3, .int a3), (4, .int a4)] (by decide) (Nat.le_of_ble_eq_true rfl) rfl ?_
  intro p e R s m below meth c C hr hR
  exact w_X11_letter C hr hR σ a1 a2 a3 a4 h
noncomputable def f_X11_digit_B63  (σ : cr_S) (x2 : Int32) (t0 : Int32) (t1 : Int32) : Option (cr_S × Int32) :=
  cr_let (sF σ 0 13 (t1 + t0)) (fun s6 => some (s6, x2))
set_option maxRecDepth 100000 in
set_option maxHeartbeats 4000000 in
theorem w_X11_digit_B63 (C : cr_C p l e R s m args below meth c sfM 17 base D cA cX11_digit 3 RX11) (hr : meth.sig.returnType = some .int) (hR : 1 ≤ R.frames ∧ 25 ≤ R.locals) {res : cr_S × Int32}  (σ : cr_S) (x2 : Int32) (t0 : Int32) (t1 : Int32) (h : f_X11_digit_B63 σ x2 t0 t1 = some res) : cr_W p l e R s m args below meth c sfM 17 base D cA 3 (MQ below (cr_Qi sfM 17 base D cA res) args s 0 0 (cr_A 17 base)) σ 63 [(2, .int x2)] [.int t0, .int t1, .ref (base + 0)] := by
  unfold f_X11_digit_B63 at h
  refine g_iadd (pc' := 64) C dX11_digit_63 rfl ?_
  obtain ⟨s6, e7, h⟩ := let_some h
  refine gp_X11_153 (pc' := 67) C dX11_digit_64 rfl e7 ?_
  refine g_iload_n (pc' := 68) C dX11_digit_67 0 rfl rfl ?_
  exact g_iret C hr dX11_digit_68 h
noncomputable def f_X11_digit_B43  (σ : cr_S) (x2 : Int32) (t0 : Int32) : Option (cr_S × Int32) :=
  chk (isB t0) (cr_let (sF σ 0 14 t0) (fun s4 => f_X11_digit_B63 s4 x2 (if (rF s4 0 14) = 0 then 1 else 0) (rF s4 0 13)))
set_option maxRecDepth 100000 in
set_option maxHeartbeats 4000000 in
theorem w_X11_digit_B43 (C : cr_C p l e R s m args below meth c sfM 17 base D cA cX11_digit 3 RX11) (hr : meth.sig.returnType = some .int) (hR : 1 ≤ R.frames ∧ 25 ≤ R.locals) {res : cr_S × Int32}  (σ : cr_S) (x2 : Int32) (t0 : Int32) (h : f_X11_digit_B43 σ x2 t0 = some res) : cr_W p l e R s m args below meth c sfM 17 base D cA 3 (MQ below (cr_Qi sfM 17 base D cA res) args s 0 0 (cr_A 17 base)) σ 43 [(0, .ref (base + 0)), (2, .int x2)] [.int t0, .ref (base + 0)] := by
  unfold f_X11_digit_B43 at h
  obtain ⟨h3, h⟩ := chk_some h
  obtain ⟨s4, e5, h⟩ := let_some h
  refine gp_X11_156 (pc' := 46) C (isB_n h3) (isB_f h3) dX11_digit_43 rfl e5 ?_
  refine g_aload_n (pc' := 47) C dX11_digit_46 0 rfl rfl ?_
  refine g_dup (pc' := 48) C dX11_digit_47 rfl rfl ?_
  refine gg_X11_153 (pc' := 51) C dX11_digit_48 rfl ?_
  refine g_aload_n (pc' := 52) C dX11_digit_51 0 rfl rfl ?_
  refine gg_X11_156 (pc' := 55) C dX11_digit_52 rfl ?_
  refine g_iteI (σ := s4) (pj := 63) (lv := [(0, .ref (base + 0)), (2, .int x2)]) (st := [.int (rF s4 0 13), .ref (base + 0)]) (cd := (rF s4 0 14) = 0) (a := 1) (b := 0) C ?_ (fun kt kf => ?_)
  · exact g_sub C [1] rfl (w_X11_digit_B63 C hr hR _ _ _ _ h)
  · refine g_if_eq (pc' := 58) (tgt := 62) C dX11_digit_55 (by decide) rfl (fun hc => ?_) (fun hc => ?_)
    · refine g_iconst (pc' := 63) (v := 1) C dX11_digit_62 (by decide) rfl ?_
      exact kt hc
    · refine g_iconst (pc' := 59) (v := 0) C dX11_digit_58 (by decide) rfl ?_
      refine g_goto (tgt := 63) C dX11_digit_59 (by decide) ?_
      exact kf hc
noncomputable def f_X11_digit_B38  (σ : cr_S) (x2 : Int32) : Option (cr_S × Int32) :=
  f_X11_digit_B43 σ x2 1
set_option maxRecDepth 100000 in
set_option maxHeartbeats 4000000 in
theorem w_X11_digit_B38 (C : cr_C p l e R s m args below meth c sfM 17 base D cA cX11_digit 3 RX11) (hr : meth.sig.returnType = some .int) (hR : 1 ≤ R.frames ∧ 25 ≤ R.locals) {res : cr_S × Int32}  (σ : cr_S) (x2 : Int32) (h : f_X11_digit_B38 σ x2 = some res) : cr_W p l e R s m args below meth c sfM 17 base D cA 3 (MQ below (cr_Qi sfM 17 base D cA res) args s 0 0 (cr_A 17 base)) σ 38 [(0, .ref (base + 0)), (2, .int x2)] [.ref (base + 0)] := by
  unfold f_X11_digit_B38 at h
  refine g_iconst (pc' := 39) (v := 1) C dX11_digit_38 (by decide) rfl ?_
  refine g_goto (tgt := 43) C dX11_digit_39 (by decide) ?_
  exact g_sub C [0, 1] rfl (w_X11_digit_B43 C hr hR _ _ _ h)
noncomputable def f_X11_digit_B18  (σ : cr_S) (x1 : Int32) (t0 : Int32) : Option (cr_S × Int32) :=
  (if (rF σ 0 14) = 0 then Option.bind (f_X11_in σ (Int32.toInt64 t0) 1 (Int32.toInt64 x1)) (fun q8 => f_X11_digit_B43 q8.1 t0 (if q8.2 = 0 then 1 else 0)) else f_X11_digit_B38 σ t0)
set_option maxRecDepth 100000 in
set_option maxHeartbeats 4000000 in
theorem w_X11_digit_B18 (C : cr_C p l e R s m args below meth c sfM 17 base D cA cX11_digit 3 RX11) (hr : meth.sig.returnType = some .int) (hR : 1 ≤ R.frames ∧ 25 ≤ R.locals) {res : cr_S × Int32}  (σ : cr_S) (x1 : Int32) (t0 : Int32) (h : f_X11_digit_B18 σ x1 t0 = some res) : cr_W p l e R s m args below meth c sfM 17 base D cA 3 (MQ below (cr_Qi sfM 17 base D cA res) args s 0 0 (cr_A 17 base)) σ 18 [(0, .ref (base + 0)), (1, .int x1)] [.int t0] := by
  unfold f_X11_digit_B18 at h
  refine g_istore_n (pc' := 19) (lv' := [(2, .int t0), (0, .ref (base + 0)), (1, .int x1)]) C dX11_digit_18 rfl (by decide) rfl rfl ?_
  refine g_aload_n (pc' := 20) C dX11_digit_19 1 rfl rfl ?_
  refine g_aload_n (pc' := 21) C dX11_digit_20 1 rfl rfl ?_
  refine gg_X11_156 (pc' := 24) C dX11_digit_21 rfl ?_
  refine g_if_ne (pc' := 27) (tgt := 38) C dX11_digit_24 (by decide) rfl (fun hc => ?_) (fun hc => ?_)
  · rw [if_neg hc] at h
    exact g_sub C [1, 0] rfl (w_X11_digit_B38 C hr hR _ _ h)
  · rw [if_pos hc] at h
    refine g_iload_n (pc' := 28) C dX11_digit_27 0 rfl rfl ?_
    refine g_i2l (pc' := 29) C dX11_digit_28 rfl ?_
    refine g_lconst (pc' := 30) (v := 1) C dX11_digit_29 (by decide) rfl ?_
    refine g_iload_n (pc' := 31) C dX11_digit_30 2 rfl rfl ?_
    refine g_i2l (pc' := 32) C dX11_digit_31 rfl ?_
    obtain ⟨q8, h9, h⟩ := bind_some h
    refine g_callSi (pc' := 35) (res := q8) C [.long (Int32.toInt64 t0), .long 1, .long (Int32.toInt64 x1)] cY_X11_in mv_X11_in mm_X11_66 ⟨Nat.le_trans (by decide) hR.1, Nat.le_trans (by decide) hR.2⟩ rfl (Nat.le_of_ble_eq_true rfl) rfl dX11_digit_32 (c_X11_in l base D cA σ (Int32.toInt64 t0) 1 (Int32.toInt64 x1) q8 h9) rfl ?_
    refine g_iteI (σ := q8.1) (pj := 43) (lv := [(2, .int t0), (0, .ref (base + 0)), (1, .int x1)]) (st := [.ref (base + 0)]) (cd := q8.2 = 0) (a := 1) (b := 0) C ?_ (fun kt kf => ?_)
    · exact g_sub C [1, 0] rfl (w_X11_digit_B43 C hr hR _ _ _ h)
    · refine g_if_ne (pc' := 38) (tgt := 42) C dX11_digit_35 (by decide) rfl (fun hc => ?_) (fun hc => ?_)
      · refine g_iconst (pc' := 43) (v := 0) C dX11_digit_42 (by decide) rfl ?_
        exact kf hc
      · refine g_iconst (pc' := 39) (v := 1) C dX11_digit_38 (by decide) rfl ?_
        refine g_goto (tgt := 43) C dX11_digit_39 (by decide) ?_
        exact kt hc
noncomputable def f_X11_digit (σ : cr_S) (a1 : Int32) : Option (cr_S × Int32) :=
  (if (rF σ 0 14) = 0 then Option.bind (f_X11_here σ) (fun q1 => f_X11_digit_B18 q1.1 a1 (q1.2 - 48)) else f_X11_digit_B18 σ a1 0)
set_option maxRecDepth 100000 in
set_option maxHeartbeats 4000000 in
theorem w_X11_digit (C : cr_C p l e R s m args below meth c sfM 17 base D cA cX11_digit 3 RX11) (hr : meth.sig.returnType = some .int) (hR : 1 ≤ R.frames ∧ 25 ≤ R.locals) {res : cr_S × Int32} (σ : cr_S) (a1 : Int32) (h : f_X11_digit σ a1 = some res) : cr_W p l e R s m args below meth c sfM 17 base D cA 3 (MQ below (cr_Qi sfM 17 base D cA res) args s 0 0 (cr_A 17 base)) σ 0 [(0, .ref (base + 0)), (1, .int a1)] [] := by
  unfold f_X11_digit at h
  refine g_aload_n (pc' := 1) C dX11_digit_0 0 rfl rfl ?_
  refine gg_X11_156 (pc' := 4) C dX11_digit_1 rfl ?_
  refine g_if_eq (pc' := 7) (tgt := 11) C dX11_digit_4 (by decide) rfl (fun hc => ?_) (fun hc => ?_)
  · rw [if_pos hc] at h
    refine g_aload_n (pc' := 12) C dX11_digit_11 0 rfl rfl ?_
    obtain ⟨q1, h2, h⟩ := bind_some h
    refine g_callVi (pc' := 15) (res := q1) C [] cY_X11_here rfl (o := 0) (by decide) rfl mv_X11_here mm_X11_160 ⟨Nat.le_trans (by decide) hR.1, Nat.le_trans (by decide) hR.2⟩ rfl (Nat.le_of_ble_eq_true rfl) rfl dX11_digit_12 (c_X11_here l base D cA σ q1 h2) rfl ?_
    refine g_bipush (pc' := 17) (v := 48) C dX11_digit_15 (by decide) rfl ?_
    refine g_isub (pc' := 18) C dX11_digit_17 rfl ?_
    exact g_sub C [0, 1] rfl (w_X11_digit_B18 C hr hR _ _ _ h)
  · rw [if_neg hc] at h
    refine g_iconst (pc' := 8) (v := 0) C dX11_digit_7 (by decide) rfl ?_
    refine g_goto (tgt := 18) C dX11_digit_8 (by decide) ?_
    exact g_sub C [0, 1] rfl (w_X11_digit_B18 C hr hR _ _ _ h)
theorem c_X11_digit (l : Launch) (base : Nat) (D : va_G) (cA : Nat → ClassId) (σ : cr_S) (a1 : Int32) (res : cr_S × Int32) (h : f_X11_digit σ a1 = some res) : cr_M l yX11_digit cX11_digit 3 (some .int) 1 25 sfM 17 base D cA [.ref (base + 0), .int a1] σ (cr_Qi sfM 17 base D cA res) := by
  refine cr_enter [.ref (base + 0), .int a1] [(0, .ref (base + 0)), (1, .int a1)] (by decide) (Nat.le_of_ble_eq_true rfl) rfl ?_
  intro p e R s m below meth c C hr hR
  exact w_X11_digit C hr hR σ a1 h
noncomputable def f_X11_readPair_B123  (σ : cr_S) (t0 : Int32) (t1 : Int32) : Option (cr_S) :=
  chk (inb t1 30) (cr_let (sA σ 6 t1 t0) (fun s31 => cr_let (sF s31 0 17 ((rF s31 0 17) + 1)) (fun s33 => some s33)))
set_option maxRecDepth 100000 in
set_option maxHeartbeats 4000000 in
theorem w_X11_readPair_B123 (C : cr_C p l e R s m args below meth c sfM 17 base D cA cX11_readPair 2 RX11) (hr : meth.sig.returnType = none) (hR : 3 ≤ R.frames ∧ 63 ≤ R.locals) {res : cr_S}  (σ : cr_S) (t0 : Int32) (t1 : Int32) (h : f_X11_readPair_B123 σ t0 t1 = some res) : cr_W p l e R s m args below meth c sfM 17 base D cA 2 (MQ below (cr_Qv sfM 17 base D cA res) args s 0 0 (cr_A 17 base)) σ 123 [(0, .ref (base + 0))] [.int t0, .int t1, .ref (base + 6)] := by
  unfold f_X11_readPair_B123 at h
  obtain ⟨h30, h⟩ := chk_some h
  obtain ⟨s31, e32, h⟩ := let_some h
  refine g_iast (pc' := 124) C (o := 6) (by decide) rfl (inb_d h30) dX11_readPair_123 rfl e32 ?_
  refine g_aload_n (pc' := 125) C dX11_readPair_124 0 rfl rfl ?_
  refine g_dup (pc' := 126) C dX11_readPair_125 rfl rfl ?_
  refine gg_X11_171 (pc' := 129) C dX11_readPair_126 rfl ?_
  refine g_iconst (pc' := 130) (v := 1) C dX11_readPair_129 (by decide) rfl ?_
  refine g_iadd (pc' := 131) C dX11_readPair_130 rfl ?_
  obtain ⟨s33, e34, h⟩ := let_some h
  refine gp_X11_171 (pc' := 134) C dX11_readPair_131 rfl e34 ?_
  exact g_vret C hr dX11_readPair_134 h
noncomputable def f_X11_readPair (σ : cr_S) : Option (cr_S) :=
  cr_let (5 * (rF σ 0 17)) (fun v1 => Option.bind (f_X11_letter σ 112 115 116 102) (fun q3 => chk (inb v1 30) (cr_let (sA q3.1 6 v1 q3.2) (fun s6 => Option.bind (f_X11_number s6 1 30) (fun q8 => chk (inb (v1 + 1) 30) (cr_let (sA q8.1 6 (v1 + 1) q8.2) (fun s11 => Option.bind (f_X11_must s11 47) (fun q13 => Option.bind (f_X11_number q13 2 24) (fun q15 => chk (inb (v1 + 2) 30) (cr_let (sA q15.1 6 (v1 + 2) q15.2) (fun s18 => Option.bind (f_X11_must s18 47) (fun q20 => chk (inb (v1 + 2) 30) (Option.bind (f_X11_number q20 1 (rA q20 6 (v1 + 2))) (fun q23 => chk (inb (v1 + 3) 30) (cr_let (sA q23.1 6 (v1 + 3) q23.2) (fun s26 => Option.bind (f_X11_has s26 43) (fun q28 => (if q28.2 = 0 then f_X11_readPair_B123 q28.1 0 (v1 + 4) else chk (inb (v1 + 2) 30) (Option.bind (f_X11_number q28.1 0 ((rA q28.1 6 (v1 + 2)) - 1)) (fun q36 => f_X11_readPair_B123 q36.1 q36.2 (v1 + 4)))))))))))))))))))))
set_option maxRecDepth 100000 in
set_option maxHeartbeats 4000000 in
theorem w_X11_readPair (C : cr_C p l e R s m args below meth c sfM 17 base D cA cX11_readPair 2 RX11) (hr : meth.sig.returnType = none) (hR : 3 ≤ R.frames ∧ 63 ≤ R.locals) {res : cr_S} (σ : cr_S) (h : f_X11_readPair σ = some res) : cr_W p l e R s m args below meth c sfM 17 base D cA 2 (MQ below (cr_Qv sfM 17 base D cA res) args s 0 0 (cr_A 17 base)) σ 0 [(0, .ref (base + 0))] [] := by
  unfold f_X11_readPair at h
  refine g_iconst (pc' := 1) (v := 5) C dX11_readPair_0 (by decide) rfl ?_
  refine g_aload_n (pc' := 2) C dX11_readPair_1 0 rfl rfl ?_
  refine gg_X11_171 (pc' := 5) C dX11_readPair_2 rfl ?_
  refine g_imul (pc' := 6) C dX11_readPair_5 rfl ?_
  obtain ⟨v1, e2, h⟩ := let_some h
  refine g_nameI e2 ?_
  refine g_istore_n (pc' := 7) (lv' := [(1, .int v1), (0, .ref (base + 0))]) C dX11_readPair_6 rfl (by decide) rfl rfl ?_
  refine g_aload_n (pc' := 8) C dX11_readPair_7 1 rfl rfl ?_
  refine gg_X11_29 (pc' := 11) C dX11_readPair_8 rfl ?_
  refine g_iload_n (pc' := 12) C dX11_readPair_11 0 rfl rfl ?_
  refine g_aload_n (pc' := 13) C dX11_readPair_12 1 rfl rfl ?_
  refine g_bipush (pc' := 15) (v := 112) C dX11_readPair_13 (by decide) rfl ?_
  refine g_bipush (pc' := 17) (v := 115) C dX11_readPair_15 (by decide) rfl ?_
  refine g_bipush (pc' := 19) (v := 116) C dX11_readPair_17 (by decide) rfl ?_
  refine g_bipush (pc' := 21) (v := 102) C dX11_readPair_19 (by decide) rfl ?_
  obtain ⟨q3, h4, h⟩ := bind_some h
  refine g_callVi (pc' := 24) (res := q3) C [.int 112, .int 115, .int 116, .int 102] cY_X11_letter rfl (o := 0) (by decide) rfl mv_X11_letter mm_X11_174 ⟨Nat.le_trans (by decide) hR.1, Nat.le_trans (by decide) hR.2⟩ rfl (Nat.le_of_ble_eq_true rfl) rfl dX11_readPair_21 (c_X11_letter l base D cA σ 112 115 116 102 q3 h4) rfl ?_
  obtain ⟨h5, h⟩ := chk_some h
  obtain ⟨s6, e7, h⟩ := let_some h
  refine g_iast (pc' := 25) C (o := 6) (by decide) rfl (inb_d h5) dX11_readPair_24 rfl e7 ?_
  refine g_aload_n (pc' := 26) C dX11_readPair_25 1 rfl rfl ?_
  refine gg_X11_29 (pc' := 29) C dX11_readPair_26 rfl ?_
  refine g_iload_n (pc' := 30) C dX11_readPair_29 0 rfl rfl ?_
  refine g_iconst (pc' := 31) (v := 1) C dX11_readPair_30 (by decide) rfl ?_
  refine g_iadd (pc' := 32) C dX11_readPair_31 rfl ?_
  refine g_aload_n (pc' := 33) C dX11_readPair_32 1 rfl rfl ?_
  refine g_iconst (pc' := 34) (v := 1) C dX11_readPair_33 (by decide) rfl ?_
  refine g_bipush (pc' := 36) (v := 30) C dX11_readPair_34 (by decide) rfl ?_
  obtain ⟨q8, h9, h⟩ := bind_some h
  refine g_callVi (pc' := 39) (res := q8) C [.int 1, .int 30] cY_X11_number rfl (o := 0) (by decide) rfl mv_X11_number mm_X11_178 ⟨Nat.le_trans (by decide) hR.1, Nat.le_trans (by decide) hR.2⟩ rfl (Nat.le_of_ble_eq_true rfl) rfl dX11_readPair_36 (c_X11_number l base D cA s6 1 30 q8 h9) rfl ?_
  obtain ⟨h10, h⟩ := chk_some h
  obtain ⟨s11, e12, h⟩ := let_some h
  refine g_iast (pc' := 40) C (o := 6) (by decide) rfl (inb_d h10) dX11_readPair_39 rfl e12 ?_
  refine g_aload_n (pc' := 41) C dX11_readPair_40 1 rfl rfl ?_
  refine g_bipush (pc' := 43) (v := 47) C dX11_readPair_41 (by decide) rfl ?_
  obtain ⟨q13, h14, h⟩ := bind_some h
  refine g_callVv (pc' := 46) (res := q13) C [.int 47] cY_X11_must rfl (o := 0) (by decide) rfl mv_X11_must mm_X11_181 ⟨Nat.le_trans (by decide) hR.1, Nat.le_trans (by decide) hR.2⟩ rfl (Nat.le_of_ble_eq_true rfl) rfl dX11_readPair_43 (c_X11_must l base D cA s11 47 q13 h14) rfl ?_
  refine g_aload_n (pc' := 47) C dX11_readPair_46 1 rfl rfl ?_
  refine gg_X11_29 (pc' := 50) C dX11_readPair_47 rfl ?_
  refine g_iload_n (pc' := 51) C dX11_readPair_50 0 rfl rfl ?_
  refine g_iconst (pc' := 52) (v := 2) C dX11_readPair_51 (by decide) rfl ?_
  refine g_iadd (pc' := 53) C dX11_readPair_52 rfl ?_
  refine g_aload_n (pc' := 54) C dX11_readPair_53 1 rfl rfl ?_
  refine g_iconst (pc' := 55) (v := 2) C dX11_readPair_54 (by decide) rfl ?_
  refine g_bipush (pc' := 57) (v := 24) C dX11_readPair_55 (by decide) rfl ?_
  obtain ⟨q15, h16, h⟩ := bind_some h
  refine g_callVi (pc' := 60) (res := q15) C [.int 2, .int 24] cY_X11_number rfl (o := 0) (by decide) rfl mv_X11_number mm_X11_178 ⟨Nat.le_trans (by decide) hR.1, Nat.le_trans (by decide) hR.2⟩ rfl (Nat.le_of_ble_eq_true rfl) rfl dX11_readPair_57 (c_X11_number l base D cA q13 2 24 q15 h16) rfl ?_
  obtain ⟨h17, h⟩ := chk_some h
  obtain ⟨s18, e19, h⟩ := let_some h
  refine g_iast (pc' := 61) C (o := 6) (by decide) rfl (inb_d h17) dX11_readPair_60 rfl e19 ?_
  refine g_aload_n (pc' := 62) C dX11_readPair_61 1 rfl rfl ?_
  refine g_bipush (pc' := 64) (v := 47) C dX11_readPair_62 (by decide) rfl ?_
  obtain ⟨q20, h21, h⟩ := bind_some h
  refine g_callVv (pc' := 67) (res := q20) C [.int 47] cY_X11_must rfl (o := 0) (by decide) rfl mv_X11_must mm_X11_181 ⟨Nat.le_trans (by decide) hR.1, Nat.le_trans (by decide) hR.2⟩ rfl (Nat.le_of_ble_eq_true rfl) rfl dX11_readPair_64 (c_X11_must l base D cA s18 47 q20 h21) rfl ?_
  refine g_aload_n (pc' := 68) C dX11_readPair_67 1 rfl rfl ?_
  refine gg_X11_29 (pc' := 71) C dX11_readPair_68 rfl ?_
  refine g_iload_n (pc' := 72) C dX11_readPair_71 0 rfl rfl ?_
  refine g_iconst (pc' := 73) (v := 3) C dX11_readPair_72 (by decide) rfl ?_
  refine g_iadd (pc' := 74) C dX11_readPair_73 rfl ?_
  refine g_aload_n (pc' := 75) C dX11_readPair_74 1 rfl rfl ?_
  refine g_iconst (pc' := 76) (v := 1) C dX11_readPair_75 (by decide) rfl ?_
  refine g_aload_n (pc' := 77) C dX11_readPair_76 1 rfl rfl ?_
  refine gg_X11_29 (pc' := 80) C dX11_readPair_77 rfl ?_
  refine g_iload_n (pc' := 81) C dX11_readPair_80 0 rfl rfl ?_
  refine g_iconst (pc' := 82) (v := 2) C dX11_readPair_81 (by decide) rfl ?_
  refine g_iadd (pc' := 83) C dX11_readPair_82 rfl ?_
  obtain ⟨h22, h⟩ := chk_some h
  refine g_iald (pc' := 84) C (o := 6) (by decide) rfl (inb_d h22) dX11_readPair_83 rfl ?_
  obtain ⟨q23, h24, h⟩ := bind_some h
  refine g_callVi (pc' := 87) (res := q23) C [.int 1, .int (rA q20 6 (v1 + 2))] cY_X11_number rfl (o := 0) (by decide) rfl mv_X11_number mm_X11_178 ⟨Nat.le_trans (by decide) hR.1, Nat.le_trans (by decide) hR.2⟩ rfl (Nat.le_of_ble_eq_true rfl) rfl dX11_readPair_84 (c_X11_number l base D cA q20 1 (rA q20 6 (v1 + 2)) q23 h24) rfl ?_
  obtain ⟨h25, h⟩ := chk_some h
  obtain ⟨s26, e27, h⟩ := let_some h
  refine g_iast (pc' := 88) C (o := 6) (by decide) rfl (inb_d h25) dX11_readPair_87 rfl e27 ?_
  refine g_aload_n (pc' := 89) C dX11_readPair_88 1 rfl rfl ?_
  refine gg_X11_29 (pc' := 92) C dX11_readPair_89 rfl ?_
  refine g_iload_n (pc' := 93) C dX11_readPair_92 0 rfl rfl ?_
  refine g_iconst (pc' := 94) (v := 4) C dX11_readPair_93 (by decide) rfl ?_
  refine g_iadd (pc' := 95) C dX11_readPair_94 rfl ?_
  refine g_aload_n (pc' := 96) C dX11_readPair_95 1 rfl rfl ?_
  refine g_bipush (pc' := 98) (v := 43) C dX11_readPair_96 (by decide) rfl ?_
  obtain ⟨q28, h29, h⟩ := bind_some h
  refine g_callVi (pc' := 101) (res := q28) C [.int 43] cY_X11_has rfl (o := 0) (by decide) rfl mv_X11_has mm_X11_164 ⟨Nat.le_trans (by decide) hR.1, Nat.le_trans (by decide) hR.2⟩ rfl (Nat.le_of_ble_eq_true rfl) rfl dX11_readPair_98 (c_X11_has l base D cA s26 43 q28 h29) rfl ?_
  refine g_if_eq (pc' := 104) (tgt := 122) C dX11_readPair_101 (by decide) rfl (fun hc => ?_) (fun hc => ?_)
  · rw [if_pos hc] at h
    refine g_iconst (pc' := 123) (v := 0) C dX11_readPair_122 (by decide) rfl ?_
    exact g_sub C [1] rfl (w_X11_readPair_B123 C hr hR _ _ _ h)
  · rw [if_neg hc] at h
    refine g_aload_n (pc' := 105) C dX11_readPair_104 1 rfl rfl ?_
    refine g_iconst (pc' := 106) (v := 0) C dX11_readPair_105 (by decide) rfl ?_
    refine g_aload_n (pc' := 107) C dX11_readPair_106 1 rfl rfl ?_
    refine gg_X11_29 (pc' := 110) C dX11_readPair_107 rfl ?_
    refine g_iload_n (pc' := 111) C dX11_readPair_110 0 rfl rfl ?_
    refine g_iconst (pc' := 112) (v := 2) C dX11_readPair_111 (by decide) rfl ?_
    refine g_iadd (pc' := 113) C dX11_readPair_112 rfl ?_
    obtain ⟨h35, h⟩ := chk_some h
    refine g_iald (pc' := 114) C (o := 6) (by decide) rfl (inb_d h35) dX11_readPair_113 rfl ?_
    refine g_iconst (pc' := 115) (v := 1) C dX11_readPair_114 (by decide) rfl ?_
    refine g_isub (pc' := 116) C dX11_readPair_115 rfl ?_
    obtain ⟨q36, h37, h⟩ := bind_some h
    refine g_callVi (pc' := 119) (res := q36) C [.int 0, .int ((rA q28.1 6 (v1 + 2)) - 1)] cY_X11_number rfl (o := 0) (by decide) rfl mv_X11_number mm_X11_178 ⟨Nat.le_trans (by decide) hR.1, Nat.le_trans (by decide) hR.2⟩ rfl (Nat.le_of_ble_eq_true rfl) rfl dX11_readPair_116 (c_X11_number l base D cA q28.1 0 ((rA q28.1 6 (v1 + 2)) - 1) q36 h37) rfl ?_
    refine g_goto (tgt := 123) C dX11_readPair_119 (by decide) ?_
    exact g_sub C [1] rfl (w_X11_readPair_B123 C hr hR _ _ _ h)
theorem c_X11_readPair (l : Launch) (base : Nat) (D : va_G) (cA : Nat → ClassId) (σ : cr_S) (res : cr_S) (h : f_X11_readPair σ = some res) : cr_M l yX11_readPair cX11_readPair 2 none 3 63 sfM 17 base D cA [.ref (base + 0)] σ (cr_Qv sfM 17 base D cA res) := by
  refine cr_enter [.ref (base + 0)] [(0, .ref (base + 0))] (by decide) (Nat.le_of_ble_eq_true rfl) rfl ?_
  intro p e R s m below meth c C hr hR
  exact w_X11_readPair C hr hR σ h
end

section
variable {p : Program} {l : Launch} {e : Env} {R : Room} {s : State} {m : MethodId} {args : Array Value} {below : List Frame} {meth : Method} {c : Code} {base : Nat} {D : va_G} {cA : Nat → ClassId}
noncomputable def f_X11_notesRow_11_B25  (σ : cr_S) (x2 : Int32) : Option (cr_S × Int32) :=
  some (σ, x2 + 12)
set_option maxRecDepth 100000 in
set_option maxHeartbeats 4000000 in
theorem w_X11_notesRow_11_B25 (C : cr_C p l e R s m args below meth c sfM 17 base D cA cX11_notesRow 4 RX11) (hr : meth.sig.returnType = some .int) (hR : 0 ≤ R.frames ∧ 0 ≤ R.locals) {res : cr_S × Int32}  (σ : cr_S) (x2 : Int32) (h : f_X11_notesRow_11_B25 σ x2 = some res) : cr_W p l e R s m args below meth c sfM 17 base D cA 4 (MQ below (cr_Qi sfM 17 base D cA res) args s 0 0 (cr_A 17 base)) σ 25 [(1, .ref (base + 11)), (2, .int x2)] [] := by
  unfold f_X11_notesRow_11_B25 at h
  refine g_iload_n (pc' := 26) C dX11_notesRow_25 1 rfl rfl ?_
  refine g_aload_n (pc' := 27) C dX11_notesRow_26 0 rfl rfl ?_
  refine g_alenI (pc' := 28) (v := 12) C (o := 11) (by decide) rfl rfl (by decide) dX11_notesRow_27 rfl ?_
  refine g_iadd (pc' := 29) C dX11_notesRow_28 rfl ?_
  exact g_iret C hr dX11_notesRow_29 h
noncomputable def f_X11_notesRow_11_L2  : Nat → cr_S → Int32 → Int32 → Option (cr_S × Int32)
  | 0, _, _, _ => none
  | n + 1, σ, x2, x3 =>
    (if 12 ≤ x3 then f_X11_notesRow_11_B25 σ x2 else chk (inb x3 12) (chk (inb (x2 + x3) 111) (cr_let (sA σ 12 (x2 + x3) (rA σ 11 x3)) (fun s3 => cr_let (x3 + 1) (fun v5 => f_X11_notesRow_11_L2 n s3 x2 v5)))))
set_option maxRecDepth 100000 in
set_option maxHeartbeats 4000000 in
theorem w_X11_notesRow_11_L2 (C : cr_C p l e R s m args below meth c sfM 17 base D cA cX11_notesRow 4 RX11) (hr : meth.sig.returnType = some .int) (hR : 0 ≤ R.frames ∧ 0 ≤ R.locals) {res : cr_S × Int32}  : ∀ (n : Nat) (σ : cr_S) (x2 : Int32) (x3 : Int32), f_X11_notesRow_11_L2 n σ x2 x3 = some res → cr_W p l e R s m args below meth c sfM 17 base D cA 4 (MQ below (cr_Qi sfM 17 base D cA res) args s 0 0 (cr_A 17 base)) σ 2 [(0, .ref (base + 0)), (1, .ref (base + 11)), (2, .int x2), (3, .int x3)] [] := by
  intro n
  induction n with
  | zero =>
    intro σ x2 x3 h
    cases h
  | succ n ih =>
    intro σ x2 x3 h
    rw [f_X11_notesRow_11_L2] at h
    refine g_iload_n (pc' := 3) C dX11_notesRow_2 3 rfl rfl ?_
    refine g_aload_n (pc' := 4) C dX11_notesRow_3 1 rfl rfl ?_
    refine g_alenI (pc' := 5) (v := 12) C (o := 11) (by decide) rfl rfl (by decide) dX11_notesRow_4 rfl ?_
    refine g_icmp_ge (pc' := 8) (tgt := 25) C dX11_notesRow_5 (by decide) rfl (fun hc => ?_) (fun hc => ?_)
    · rw [if_pos hc] at h
      exact g_sub C [1, 2] rfl (w_X11_notesRow_11_B25 C hr hR _ _ h)
    · rw [if_neg hc] at h
      refine g_aload_n (pc' := 9) C dX11_notesRow_8 0 rfl rfl ?_
      refine gg_X11_47 (pc' := 12) C dX11_notesRow_9 rfl ?_
      refine g_iload_n (pc' := 13) C dX11_notesRow_12 2 rfl rfl ?_
      refine g_iload_n (pc' := 14) C dX11_notesRow_13 3 rfl rfl ?_
      refine g_iadd (pc' := 15) C dX11_notesRow_14 rfl ?_
      refine g_aload_n (pc' := 16) C dX11_notesRow_15 1 rfl rfl ?_
      refine g_iload_n (pc' := 17) C dX11_notesRow_16 3 rfl rfl ?_
      obtain ⟨h1, h⟩ := chk_some h
      refine g_iald (pc' := 18) C (o := 11) (by decide) rfl (inb_d h1) dX11_notesRow_17 rfl ?_
      obtain ⟨h2, h⟩ := chk_some h
      obtain ⟨s3, e4, h⟩ := let_some h
      refine g_iast (pc' := 19) C (o := 12) (by decide) rfl (inb_d h2) dX11_notesRow_18 rfl e4 ?_
      obtain ⟨v5, e6, h⟩ := let_some h
      refine g_iinc (pc' := 22) (v := v5) (lv' := [(3, .int v5), (0, .ref (base + 0)), (1, .ref (base + 11)), (2, .int x2)]) C dX11_notesRow_19 3 rfl (by rw [e6]; rfl) (by decide) rfl rfl ?_
      refine g_goto (tgt := 2) C dX11_notesRow_22 (by decide) ?_
      exact g_sub C [1, 2, 3, 0] rfl (ih _ _ _ h)
noncomputable def f_X11_notesRow_11 (σ : cr_S) (a2 : Int32) : Option (cr_S × Int32) :=
  f_X11_notesRow_11_L2 cr_fuel σ a2 0
set_option maxRecDepth 100000 in
set_option maxHeartbeats 4000000 in
theorem w_X11_notesRow_11 (C : cr_C p l e R s m args below meth c sfM 17 base D cA cX11_notesRow 4 RX11) (hr : meth.sig.returnType = some .int) (hR : 0 ≤ R.frames ∧ 0 ≤ R.locals) {res : cr_S × Int32} (σ : cr_S) (a2 : Int32) (h : f_X11_notesRow_11 σ a2 = some res) : cr_W p l e R s m args below meth c sfM 17 base D cA 4 (MQ below (cr_Qi sfM 17 base D cA res) args s 0 0 (cr_A 17 base)) σ 0 [(0, .ref (base + 0)), (1, .ref (base + 11)), (2, .int a2)] [] := by
  unfold f_X11_notesRow_11 at h
  refine g_iconst (pc' := 1) (v := 0) C dX11_notesRow_0 (by decide) rfl ?_
  refine g_istore_n (pc' := 2) (lv' := [(3, .int 0), (0, .ref (base + 0)), (1, .ref (base + 11)), (2, .int a2)]) C dX11_notesRow_1 rfl (by decide) rfl rfl ?_
  exact g_sub C [1, 2, 3, 0] rfl (w_X11_notesRow_11_L2 C hr hR _ _ _ _ h)
theorem c_X11_notesRow_11 (l : Launch) (base : Nat) (D : va_G) (cA : Nat → ClassId) (σ : cr_S) (a2 : Int32) (res : cr_S × Int32) (h : f_X11_notesRow_11 σ a2 = some res) : cr_M l yX11_notesRow cX11_notesRow 4 (some .int) 0 0 sfM 17 base D cA [.ref (base + 0), .ref (base + 11), .int a2] σ (cr_Qi sfM 17 base D cA res) := by
  refine cr_enter [.ref (base + 0), .ref (base + 11), .int a2] [(0, .ref (base + 0)), (1, .ref (base + 11)), (2, .int a2)] (by decide) (Nat.le_of_ble_eq_true rfl) rfl ?_
  intro p e R s m below meth c C hr hR
  exact w_X11_notesRow_11 C hr hR σ a2 h
noncomputable def f_X11_image (σ : cr_S) : Option (cr_S × Int32) :=
  cr_let (sA σ 12 0 (rF σ 0 0)) (fun s1 => cr_let (sA s1 12 1 (rF s1 0 1)) (fun s3 => cr_let (sA s3 12 2 (rF s3 0 5)) (fun s5 => cr_let (sA s5 12 3 (rF s5 0 20)) (fun s7 => cr_let (sA s7 12 4 (rF s7 0 22)) (fun s9 => Option.bind (f_X11_notesRow_1 s9 5) (fun q11 => cr_let q11.2 (fun v13 => Option.bind (f_X11_notesRow_2 q11.1 v13) (fun q15 => cr_let q15.2 (fun v17 => Option.bind (f_X11_notesRow_3 q15.1 v17) (fun q19 => cr_let q19.2 (fun v21 => Option.bind (f_X11_notesRow_8 q19.1 v21) (fun q23 => cr_let q23.2 (fun v25 => Option.bind (f_X11_notesRow_10 q23.1 v25) (fun q27 => cr_let q27.2 (fun v29 => Option.bind (f_X11_notesRow_11 q27.1 v29) (fun q31 => cr_let (sF q31.1 0 29 1) (fun s33 => some (s33, 1))))))))))))))))))
set_option maxRecDepth 100000 in
set_option maxHeartbeats 4000000 in
theorem w_X11_image (C : cr_C p l e R s m args below meth c sfM 17 base D cA cX11_image 2 RX11) (hr : meth.sig.returnType = some .int) (hR : 1 ≤ R.frames ∧ 23 ≤ R.locals) {res : cr_S × Int32} (σ : cr_S) (h : f_X11_image σ = some res) : cr_W p l e R s m args below meth c sfM 17 base D cA 2 (MQ below (cr_Qi sfM 17 base D cA res) args s 0 0 (cr_A 17 base)) σ 0 [(0, .ref (base + 0))] [] := by
  unfold f_X11_image at h
  refine g_aload_n (pc' := 1) C dX11_image_0 0 rfl rfl ?_
  refine gg_X11_47 (pc' := 4) C dX11_image_1 rfl ?_
  refine g_iconst (pc' := 5) (v := 0) C dX11_image_4 (by decide) rfl ?_
  refine g_aload_n (pc' := 6) C dX11_image_5 0 rfl rfl ?_
  refine gg_X11_63 (pc' := 9) C dX11_image_6 rfl ?_
  obtain ⟨s1, e2, h⟩ := let_some h
  refine g_iast (pc' := 10) C (o := 12) (by decide) rfl (inb_d (by decide)) dX11_image_9 rfl e2 ?_
  refine g_aload_n (pc' := 11) C dX11_image_10 0 rfl rfl ?_
  refine gg_X11_47 (pc' := 14) C dX11_image_11 rfl ?_
  refine g_iconst (pc' := 15) (v := 1) C dX11_image_14 (by decide) rfl ?_
  refine g_aload_n (pc' := 16) C dX11_image_15 0 rfl rfl ?_
  refine gg_X11_70 (pc' := 19) C dX11_image_16 rfl ?_
  obtain ⟨s3, e4, h⟩ := let_some h
  refine g_iast (pc' := 20) C (o := 12) (by decide) rfl (inb_d (by decide)) dX11_image_19 rfl e4 ?_
  refine g_aload_n (pc' := 21) C dX11_image_20 0 rfl rfl ?_
  refine gg_X11_47 (pc' := 24) C dX11_image_21 rfl ?_
  refine g_iconst (pc' := 25) (v := 2) C dX11_image_24 (by decide) rfl ?_
  refine g_aload_n (pc' := 26) C dX11_image_25 0 rfl rfl ?_
  refine gg_X11_19 (pc' := 29) C dX11_image_26 rfl ?_
  obtain ⟨s5, e6, h⟩ := let_some h
  refine g_iast (pc' := 30) C (o := 12) (by decide) rfl (inb_d (by decide)) dX11_image_29 rfl e6 ?_
  refine g_aload_n (pc' := 31) C dX11_image_30 0 rfl rfl ?_
  refine gg_X11_47 (pc' := 34) C dX11_image_31 rfl ?_
  refine g_iconst (pc' := 35) (v := 3) C dX11_image_34 (by decide) rfl ?_
  refine g_aload_n (pc' := 36) C dX11_image_35 0 rfl rfl ?_
  refine gg_X11_197 (pc' := 39) C dX11_image_36 rfl ?_
  obtain ⟨s7, e8, h⟩ := let_some h
  refine g_iast (pc' := 40) C (o := 12) (by decide) rfl (inb_d (by decide)) dX11_image_39 rfl e8 ?_
  refine g_aload_n (pc' := 41) C dX11_image_40 0 rfl rfl ?_
  refine gg_X11_47 (pc' := 44) C dX11_image_41 rfl ?_
  refine g_iconst (pc' := 45) (v := 4) C dX11_image_44 (by decide) rfl ?_
  refine g_aload_n (pc' := 46) C dX11_image_45 0 rfl rfl ?_
  refine gg_X11_200 (pc' := 49) C dX11_image_46 rfl ?_
  obtain ⟨s9, e10, h⟩ := let_some h
  refine g_iast (pc' := 50) C (o := 12) (by decide) rfl (inb_d (by decide)) dX11_image_49 rfl e10 ?_
  refine g_aload_n (pc' := 51) C dX11_image_50 0 rfl rfl ?_
  refine g_aload_n (pc' := 52) C dX11_image_51 0 rfl rfl ?_
  refine gg_X11_7 (pc' := 55) C dX11_image_52 rfl ?_
  refine g_iconst (pc' := 56) (v := 5) C dX11_image_55 (by decide) rfl ?_
  obtain ⟨q11, h12, h⟩ := bind_some h
  refine g_callVi (pc' := 59) (res := q11) C [.ref (base + 1), .int 5] cY_X11_notesRow rfl (o := 0) (by decide) rfl mv_X11_notesRow mm_X11_262 ⟨Nat.le_trans (by decide) hR.1, Nat.le_trans (by decide) hR.2⟩ rfl (Nat.le_of_ble_eq_true rfl) rfl dX11_image_56 (c_X11_notesRow_1 l base D cA s9 5 q11 h12) rfl ?_
  obtain ⟨v13, e14, h⟩ := let_some h
  refine g_nameI e14 ?_
  refine g_istore_n (pc' := 60) (lv' := [(1, .int v13), (0, .ref (base + 0))]) C dX11_image_59 rfl (by decide) rfl rfl ?_
  refine g_aload_n (pc' := 61) C dX11_image_60 1 rfl rfl ?_
  refine g_aload_n (pc' := 62) C dX11_image_61 1 rfl rfl ?_
  refine gg_X11_13 (pc' := 65) C dX11_image_62 rfl ?_
  refine g_iload_n (pc' := 66) C dX11_image_65 0 rfl rfl ?_
  obtain ⟨q15, h16, h⟩ := bind_some h
  refine g_callVi (pc' := 69) (res := q15) C [.ref (base + 2), .int v13] cY_X11_notesRow rfl (o := 0) (by decide) rfl mv_X11_notesRow mm_X11_262 ⟨Nat.le_trans (by decide) hR.1, Nat.le_trans (by decide) hR.2⟩ rfl (Nat.le_of_ble_eq_true rfl) rfl dX11_image_66 (c_X11_notesRow_2 l base D cA q11.1 v13 q15 h16) rfl ?_
  obtain ⟨v17, e18, h⟩ := let_some h
  refine g_nameI e18 ?_
  refine g_istore_n (pc' := 70) (lv' := [(1, .int v17), (0, .ref (base + 0))]) C dX11_image_69 rfl (by decide) rfl rfl ?_
  refine g_aload_n (pc' := 71) C dX11_image_70 1 rfl rfl ?_
  refine g_aload_n (pc' := 72) C dX11_image_71 1 rfl rfl ?_
  refine gg_X11_16 (pc' := 75) C dX11_image_72 rfl ?_
  refine g_iload_n (pc' := 76) C dX11_image_75 0 rfl rfl ?_
  obtain ⟨q19, h20, h⟩ := bind_some h
  refine g_callVi (pc' := 79) (res := q19) C [.ref (base + 3), .int v17] cY_X11_notesRow rfl (o := 0) (by decide) rfl mv_X11_notesRow mm_X11_262 ⟨Nat.le_trans (by decide) hR.1, Nat.le_trans (by decide) hR.2⟩ rfl (Nat.le_of_ble_eq_true rfl) rfl dX11_image_76 (c_X11_notesRow_3 l base D cA q15.1 v17 q19 h20) rfl ?_
  obtain ⟨v21, e22, h⟩ := let_some h
  refine g_nameI e22 ?_
  refine g_istore_n (pc' := 80) (lv' := [(1, .int v21), (0, .ref (base + 0))]) C dX11_image_79 rfl (by decide) rfl rfl ?_
  refine g_aload_n (pc' := 81) C dX11_image_80 1 rfl rfl ?_
  refine g_aload_n (pc' := 82) C dX11_image_81 1 rfl rfl ?_
  refine gg_X11_35 (pc' := 85) C dX11_image_82 rfl ?_
  refine g_iload_n (pc' := 86) C dX11_image_85 0 rfl rfl ?_
  obtain ⟨q23, h24, h⟩ := bind_some h
  refine g_callVi (pc' := 89) (res := q23) C [.ref (base + 8), .int v21] cY_X11_notesRow rfl (o := 0) (by decide) rfl mv_X11_notesRow mm_X11_262 ⟨Nat.le_trans (by decide) hR.1, Nat.le_trans (by decide) hR.2⟩ rfl (Nat.le_of_ble_eq_true rfl) rfl dX11_image_86 (c_X11_notesRow_8 l base D cA q19.1 v21 q23 h24) rfl ?_
  obtain ⟨v25, e26, h⟩ := let_some h
  refine g_nameI e26 ?_
  refine g_istore_n (pc' := 90) (lv' := [(1, .int v25), (0, .ref (base + 0))]) C dX11_image_89 rfl (by decide) rfl rfl ?_
  refine g_aload_n (pc' := 91) C dX11_image_90 1 rfl rfl ?_
  refine g_aload_n (pc' := 92) C dX11_image_91 1 rfl rfl ?_
  refine gg_X11_41 (pc' := 95) C dX11_image_92 rfl ?_
  refine g_iload_n (pc' := 96) C dX11_image_95 0 rfl rfl ?_
  obtain ⟨q27, h28, h⟩ := bind_some h
  refine g_callVi (pc' := 99) (res := q27) C [.ref (base + 10), .int v25] cY_X11_notesRow rfl (o := 0) (by decide) rfl mv_X11_notesRow mm_X11_262 ⟨Nat.le_trans (by decide) hR.1, Nat.le_trans (by decide) hR.2⟩ rfl (Nat.le_of_ble_eq_true rfl) rfl dX11_image_96 (c_X11_notesRow_10 l base D cA q23.1 v25 q27 h28) rfl ?_
  obtain ⟨v29, e30, h⟩ := let_some h
  refine g_nameI e30 ?_
  refine g_istore_n (pc' := 100) (lv' := [(1, .int v29), (0, .ref (base + 0))]) C dX11_image_99 rfl (by decide) rfl rfl ?_
  refine g_aload_n (pc' := 101) C dX11_image_100 1 rfl rfl ?_
  refine g_aload_n (pc' := 102) C dX11_image_101 1 rfl rfl ?_
  refine gg_X11_44 (pc' := 105) C dX11_image_102 rfl ?_
  refine g_iload_n (pc' := 106) C dX11_image_105 0 rfl rfl ?_
  obtain ⟨q31, h32, h⟩ := bind_some h
  refine g_callVi (pc' := 109) (res := q31) C [.ref (base + 11), .int v29] cY_X11_notesRow rfl (o := 0) (by decide) rfl mv_X11_notesRow mm_X11_262 ⟨Nat.le_trans (by decide) hR.1, Nat.le_trans (by decide) hR.2⟩ rfl (Nat.le_of_ble_eq_true rfl) rfl dX11_image_106 (c_X11_notesRow_11 l base D cA q27.1 v29 q31 h32) rfl ?_
  refine g_pop (pc' := 110) C dX11_image_109 rfl rfl ?_
  refine g_aload_n (pc' := 111) C dX11_image_110 1 rfl rfl ?_
  refine g_iconst (pc' := 112) (v := 1) C dX11_image_111 (by decide) rfl ?_
  obtain ⟨s33, e34, h⟩ := let_some h
  refine gp_X11_266 (pc' := 115) C rfl rfl dX11_image_112 rfl e34 ?_
  refine g_iconst (pc' := 116) (v := 1) C dX11_image_115 (by decide) rfl ?_
  exact g_iret C hr dX11_image_116 h
theorem c_X11_image (l : Launch) (base : Nat) (D : va_G) (cA : Nat → ClassId) (σ : cr_S) (res : cr_S × Int32) (h : f_X11_image σ = some res) : cr_M l yX11_image cX11_image 2 (some .int) 1 23 sfM 17 base D cA [.ref (base + 0)] σ (cr_Qi sfM 17 base D cA res) := by
  refine cr_enter [.ref (base + 0)] [(0, .ref (base + 0))] (by decide) (Nat.le_of_ble_eq_true rfl) rfl ?_
  intro p e R s m below meth c C hr hR
  exact w_X11_image C hr hR σ h
noncomputable def f_X11_gives_1_B25  (σ : cr_S) (x1 : Int32) : Option (cr_S × Int32) :=
  some (σ, x1 + 30)
set_option maxRecDepth 100000 in
set_option maxHeartbeats 4000000 in
theorem w_X11_gives_1_B25 (C : cr_C p l e R s m args below meth c sfM 17 base D cA cX11_gives 4 RX11) (hr : meth.sig.returnType = some .int) (hR : 0 ≤ R.frames ∧ 0 ≤ R.locals) {res : cr_S × Int32}  (σ : cr_S) (x1 : Int32) (h : f_X11_gives_1_B25 σ x1 = some res) : cr_W p l e R s m args below meth c sfM 17 base D cA 4 (MQ below (cr_Qi sfM 17 base D cA res) args s 0 0 (cr_A 17 base)) σ 25 [(1, .int x1), (2, .ref (base + 1))] [] := by
  unfold f_X11_gives_1_B25 at h
  refine g_iload_n (pc' := 26) C dX11_gives_25 0 rfl rfl ?_
  refine g_aload_n (pc' := 27) C dX11_gives_26 1 rfl rfl ?_
  refine g_alenI (pc' := 28) (v := 30) C (o := 1) (by decide) rfl rfl (by decide) dX11_gives_27 rfl ?_
  refine g_iadd (pc' := 29) C dX11_gives_28 rfl ?_
  exact g_iret C hr dX11_gives_29 h
noncomputable def f_X11_gives_1_L2  : Nat → cr_S → Int32 → Int32 → Option (cr_S × Int32)
  | 0, _, _, _ => none
  | n + 1, σ, x1, x3 =>
    (if 30 ≤ x3 then f_X11_gives_1_B25 σ x1 else chk (inb (x1 + x3) 111) (chk (inb x3 30) (cr_let (sA σ 1 x3 (rA σ 12 (x1 + x3))) (fun s3 => cr_let (x3 + 1) (fun v5 => f_X11_gives_1_L2 n s3 x1 v5)))))
set_option maxRecDepth 100000 in
set_option maxHeartbeats 4000000 in
theorem w_X11_gives_1_L2 (C : cr_C p l e R s m args below meth c sfM 17 base D cA cX11_gives 4 RX11) (hr : meth.sig.returnType = some .int) (hR : 0 ≤ R.frames ∧ 0 ≤ R.locals) {res : cr_S × Int32}  : ∀ (n : Nat) (σ : cr_S) (x1 : Int32) (x3 : Int32), f_X11_gives_1_L2 n σ x1 x3 = some res → cr_W p l e R s m args below meth c sfM 17 base D cA 4 (MQ below (cr_Qi sfM 17 base D cA res) args s 0 0 (cr_A 17 base)) σ 2 [(0, .ref (base + 0)), (1, .int x1), (2, .ref (base + 1)), (3, .int x3)] [] := by
  intro n
  induction n with
  | zero =>
    intro σ x1 x3 h
    cases h
  | succ n ih =>
    intro σ x1 x3 h
    rw [f_X11_gives_1_L2] at h
    refine g_iload_n (pc' := 3) C dX11_gives_2 3 rfl rfl ?_
    refine g_aload_n (pc' := 4) C dX11_gives_3 2 rfl rfl ?_
    refine g_alenI (pc' := 5) (v := 30) C (o := 1) (by decide) rfl rfl (by decide) dX11_gives_4 rfl ?_
    refine g_icmp_ge (pc' := 8) (tgt := 25) C dX11_gives_5 (by decide) rfl (fun hc => ?_) (fun hc => ?_)
    · rw [if_pos hc] at h
      exact g_sub C [1, 2] rfl (w_X11_gives_1_B25 C hr hR _ _ h)
    · rw [if_neg hc] at h
      refine g_aload_n (pc' := 9) C dX11_gives_8 2 rfl rfl ?_
      refine g_iload_n (pc' := 10) C dX11_gives_9 3 rfl rfl ?_
      refine g_aload_n (pc' := 11) C dX11_gives_10 0 rfl rfl ?_
      refine gg_X11_47 (pc' := 14) C dX11_gives_11 rfl ?_
      refine g_iload_n (pc' := 15) C dX11_gives_14 1 rfl rfl ?_
      refine g_iload_n (pc' := 16) C dX11_gives_15 3 rfl rfl ?_
      refine g_iadd (pc' := 17) C dX11_gives_16 rfl ?_
      obtain ⟨h1, h⟩ := chk_some h
      refine g_iald (pc' := 18) C (o := 12) (by decide) rfl (inb_d h1) dX11_gives_17 rfl ?_
      obtain ⟨h2, h⟩ := chk_some h
      obtain ⟨s3, e4, h⟩ := let_some h
      refine g_iast (pc' := 19) C (o := 1) (by decide) rfl (inb_d h2) dX11_gives_18 rfl e4 ?_
      obtain ⟨v5, e6, h⟩ := let_some h
      refine g_iinc (pc' := 22) (v := v5) (lv' := [(3, .int v5), (0, .ref (base + 0)), (1, .int x1), (2, .ref (base + 1))]) C dX11_gives_19 3 rfl (by rw [e6]; rfl) (by decide) rfl rfl ?_
      refine g_goto (tgt := 2) C dX11_gives_22 (by decide) ?_
      exact g_sub C [1, 2, 3, 0] rfl (ih _ _ _ h)
noncomputable def f_X11_gives_1 (σ : cr_S) (a1 : Int32) : Option (cr_S × Int32) :=
  f_X11_gives_1_L2 cr_fuel σ a1 0
set_option maxRecDepth 100000 in
set_option maxHeartbeats 4000000 in
theorem w_X11_gives_1 (C : cr_C p l e R s m args below meth c sfM 17 base D cA cX11_gives 4 RX11) (hr : meth.sig.returnType = some .int) (hR : 0 ≤ R.frames ∧ 0 ≤ R.locals) {res : cr_S × Int32} (σ : cr_S) (a1 : Int32) (h : f_X11_gives_1 σ a1 = some res) : cr_W p l e R s m args below meth c sfM 17 base D cA 4 (MQ below (cr_Qi sfM 17 base D cA res) args s 0 0 (cr_A 17 base)) σ 0 [(0, .ref (base + 0)), (1, .int a1), (2, .ref (base + 1))] [] := by
  unfold f_X11_gives_1 at h
  refine g_iconst (pc' := 1) (v := 0) C dX11_gives_0 (by decide) rfl ?_
  refine g_istore_n (pc' := 2) (lv' := [(3, .int 0), (0, .ref (base + 0)), (1, .int a1), (2, .ref (base + 1))]) C dX11_gives_1 rfl (by decide) rfl rfl ?_
  exact g_sub C [1, 2, 3, 0] rfl (w_X11_gives_1_L2 C hr hR _ _ _ _ h)
theorem c_X11_gives_1 (l : Launch) (base : Nat) (D : va_G) (cA : Nat → ClassId) (σ : cr_S) (a1 : Int32) (res : cr_S × Int32) (h : f_X11_gives_1 σ a1 = some res) : cr_M l yX11_gives cX11_gives 4 (some .int) 0 0 sfM 17 base D cA [.ref (base + 0), .int a1, .ref (base + 1)] σ (cr_Qi sfM 17 base D cA res) := by
  refine cr_enter [.ref (base + 0), .int a1, .ref (base + 1)] [(0, .ref (base + 0)), (1, .int a1), (2, .ref (base + 1))] (by decide) (Nat.le_of_ble_eq_true rfl) rfl ?_
  intro p e R s m below meth c C hr hR
  exact w_X11_gives_1 C hr hR σ a1 h
noncomputable def f_X11_gives_2_B25  (σ : cr_S) (x1 : Int32) : Option (cr_S × Int32) :=
  some (σ, x1 + 15)
set_option maxRecDepth 100000 in
set_option maxHeartbeats 4000000 in
theorem w_X11_gives_2_B25 (C : cr_C p l e R s m args below meth c sfM 17 base D cA cX11_gives 4 RX11) (hr : meth.sig.returnType = some .int) (hR : 0 ≤ R.frames ∧ 0 ≤ R.locals) {res : cr_S × Int32}  (σ : cr_S) (x1 : Int32) (h : f_X11_gives_2_B25 σ x1 = some res) : cr_W p l e R s m args below meth c sfM 17 base D cA 4 (MQ below (cr_Qi sfM 17 base D cA res) args s 0 0 (cr_A 17 base)) σ 25 [(1, .int x1), (2, .ref (base + 2))] [] := by
  unfold f_X11_gives_2_B25 at h
  refine g_iload_n (pc' := 26) C dX11_gives_25 0 rfl rfl ?_
  refine g_aload_n (pc' := 27) C dX11_gives_26 1 rfl rfl ?_
  refine g_alenI (pc' := 28) (v := 15) C (o := 2) (by decide) rfl rfl (by decide) dX11_gives_27 rfl ?_
  refine g_iadd (pc' := 29) C dX11_gives_28 rfl ?_
  exact g_iret C hr dX11_gives_29 h
noncomputable def f_X11_gives_2_L2  : Nat → cr_S → Int32 → Int32 → Option (cr_S × Int32)
  | 0, _, _, _ => none
  | n + 1, σ, x1, x3 =>
    (if 15 ≤ x3 then f_X11_gives_2_B25 σ x1 else chk (inb (x1 + x3) 111) (chk (inb x3 15) (cr_let (sA σ 2 x3 (rA σ 12 (x1 + x3))) (fun s3 => cr_let (x3 + 1) (fun v5 => f_X11_gives_2_L2 n s3 x1 v5)))))
set_option maxRecDepth 100000 in
set_option maxHeartbeats 4000000 in
theorem w_X11_gives_2_L2 (C : cr_C p l e R s m args below meth c sfM 17 base D cA cX11_gives 4 RX11) (hr : meth.sig.returnType = some .int) (hR : 0 ≤ R.frames ∧ 0 ≤ R.locals) {res : cr_S × Int32}  : ∀ (n : Nat) (σ : cr_S) (x1 : Int32) (x3 : Int32), f_X11_gives_2_L2 n σ x1 x3 = some res → cr_W p l e R s m args below meth c sfM 17 base D cA 4 (MQ below (cr_Qi sfM 17 base D cA res) args s 0 0 (cr_A 17 base)) σ 2 [(0, .ref (base + 0)), (1, .int x1), (2, .ref (base + 2)), (3, .int x3)] [] := by
  intro n
  induction n with
  | zero =>
    intro σ x1 x3 h
    cases h
  | succ n ih =>
    intro σ x1 x3 h
    rw [f_X11_gives_2_L2] at h
    refine g_iload_n (pc' := 3) C dX11_gives_2 3 rfl rfl ?_
    refine g_aload_n (pc' := 4) C dX11_gives_3 2 rfl rfl ?_
    refine g_alenI (pc' := 5) (v := 15) C (o := 2) (by decide) rfl rfl (by decide) dX11_gives_4 rfl ?_
    refine g_icmp_ge (pc' := 8) (tgt := 25) C dX11_gives_5 (by decide) rfl (fun hc => ?_) (fun hc => ?_)
    · rw [if_pos hc] at h
      exact g_sub C [1, 2] rfl (w_X11_gives_2_B25 C hr hR _ _ h)
    · rw [if_neg hc] at h
      refine g_aload_n (pc' := 9) C dX11_gives_8 2 rfl rfl ?_
      refine g_iload_n (pc' := 10) C dX11_gives_9 3 rfl rfl ?_
      refine g_aload_n (pc' := 11) C dX11_gives_10 0 rfl rfl ?_
      refine gg_X11_47 (pc' := 14) C dX11_gives_11 rfl ?_
      refine g_iload_n (pc' := 15) C dX11_gives_14 1 rfl rfl ?_
      refine g_iload_n (pc' := 16) C dX11_gives_15 3 rfl rfl ?_
      refine g_iadd (pc' := 17) C dX11_gives_16 rfl ?_
      obtain ⟨h1, h⟩ := chk_some h
      refine g_iald (pc' := 18) C (o := 12) (by decide) rfl (inb_d h1) dX11_gives_17 rfl ?_
      obtain ⟨h2, h⟩ := chk_some h
      obtain ⟨s3, e4, h⟩ := let_some h
      refine g_iast (pc' := 19) C (o := 2) (by decide) rfl (inb_d h2) dX11_gives_18 rfl e4 ?_
      obtain ⟨v5, e6, h⟩ := let_some h
      refine g_iinc (pc' := 22) (v := v5) (lv' := [(3, .int v5), (0, .ref (base + 0)), (1, .int x1), (2, .ref (base + 2))]) C dX11_gives_19 3 rfl (by rw [e6]; rfl) (by decide) rfl rfl ?_
      refine g_goto (tgt := 2) C dX11_gives_22 (by decide) ?_
      exact g_sub C [1, 2, 3, 0] rfl (ih _ _ _ h)
noncomputable def f_X11_gives_2 (σ : cr_S) (a1 : Int32) : Option (cr_S × Int32) :=
  f_X11_gives_2_L2 cr_fuel σ a1 0
set_option maxRecDepth 100000 in
set_option maxHeartbeats 4000000 in
theorem w_X11_gives_2 (C : cr_C p l e R s m args below meth c sfM 17 base D cA cX11_gives 4 RX11) (hr : meth.sig.returnType = some .int) (hR : 0 ≤ R.frames ∧ 0 ≤ R.locals) {res : cr_S × Int32} (σ : cr_S) (a1 : Int32) (h : f_X11_gives_2 σ a1 = some res) : cr_W p l e R s m args below meth c sfM 17 base D cA 4 (MQ below (cr_Qi sfM 17 base D cA res) args s 0 0 (cr_A 17 base)) σ 0 [(0, .ref (base + 0)), (1, .int a1), (2, .ref (base + 2))] [] := by
  unfold f_X11_gives_2 at h
  refine g_iconst (pc' := 1) (v := 0) C dX11_gives_0 (by decide) rfl ?_
  refine g_istore_n (pc' := 2) (lv' := [(3, .int 0), (0, .ref (base + 0)), (1, .int a1), (2, .ref (base + 2))]) C dX11_gives_1 rfl (by decide) rfl rfl ?_
  exact g_sub C [1, 2, 3, 0] rfl (w_X11_gives_2_L2 C hr hR _ _ _ _ h)
theorem c_X11_gives_2 (l : Launch) (base : Nat) (D : va_G) (cA : Nat → ClassId) (σ : cr_S) (a1 : Int32) (res : cr_S × Int32) (h : f_X11_gives_2 σ a1 = some res) : cr_M l yX11_gives cX11_gives 4 (some .int) 0 0 sfM 17 base D cA [.ref (base + 0), .int a1, .ref (base + 2)] σ (cr_Qi sfM 17 base D cA res) := by
  refine cr_enter [.ref (base + 0), .int a1, .ref (base + 2)] [(0, .ref (base + 0)), (1, .int a1), (2, .ref (base + 2))] (by decide) (Nat.le_of_ble_eq_true rfl) rfl ?_
  intro p e R s m below meth c C hr hR
  exact w_X11_gives_2 C hr hR σ a1 h
noncomputable def f_X11_gives_3_B25  (σ : cr_S) (x1 : Int32) : Option (cr_S × Int32) :=
  some (σ, x1 + 4)
set_option maxRecDepth 100000 in
set_option maxHeartbeats 4000000 in
theorem w_X11_gives_3_B25 (C : cr_C p l e R s m args below meth c sfM 17 base D cA cX11_gives 4 RX11) (hr : meth.sig.returnType = some .int) (hR : 0 ≤ R.frames ∧ 0 ≤ R.locals) {res : cr_S × Int32}  (σ : cr_S) (x1 : Int32) (h : f_X11_gives_3_B25 σ x1 = some res) : cr_W p l e R s m args below meth c sfM 17 base D cA 4 (MQ below (cr_Qi sfM 17 base D cA res) args s 0 0 (cr_A 17 base)) σ 25 [(1, .int x1), (2, .ref (base + 3))] [] := by
  unfold f_X11_gives_3_B25 at h
  refine g_iload_n (pc' := 26) C dX11_gives_25 0 rfl rfl ?_
  refine g_aload_n (pc' := 27) C dX11_gives_26 1 rfl rfl ?_
  refine g_alenI (pc' := 28) (v := 4) C (o := 3) (by decide) rfl rfl (by decide) dX11_gives_27 rfl ?_
  refine g_iadd (pc' := 29) C dX11_gives_28 rfl ?_
  exact g_iret C hr dX11_gives_29 h
noncomputable def f_X11_gives_3_L2  : Nat → cr_S → Int32 → Int32 → Option (cr_S × Int32)
  | 0, _, _, _ => none
  | n + 1, σ, x1, x3 =>
    (if 4 ≤ x3 then f_X11_gives_3_B25 σ x1 else chk (inb (x1 + x3) 111) (chk (inb x3 4) (cr_let (sA σ 3 x3 (rA σ 12 (x1 + x3))) (fun s3 => cr_let (x3 + 1) (fun v5 => f_X11_gives_3_L2 n s3 x1 v5)))))
set_option maxRecDepth 100000 in
set_option maxHeartbeats 4000000 in
theorem w_X11_gives_3_L2 (C : cr_C p l e R s m args below meth c sfM 17 base D cA cX11_gives 4 RX11) (hr : meth.sig.returnType = some .int) (hR : 0 ≤ R.frames ∧ 0 ≤ R.locals) {res : cr_S × Int32}  : ∀ (n : Nat) (σ : cr_S) (x1 : Int32) (x3 : Int32), f_X11_gives_3_L2 n σ x1 x3 = some res → cr_W p l e R s m args below meth c sfM 17 base D cA 4 (MQ below (cr_Qi sfM 17 base D cA res) args s 0 0 (cr_A 17 base)) σ 2 [(0, .ref (base + 0)), (1, .int x1), (2, .ref (base + 3)), (3, .int x3)] [] := by
  intro n
  induction n with
  | zero =>
    intro σ x1 x3 h
    cases h
  | succ n ih =>
    intro σ x1 x3 h
    rw [f_X11_gives_3_L2] at h
    refine g_iload_n (pc' := 3) C dX11_gives_2 3 rfl rfl ?_
    refine g_aload_n (pc' := 4) C dX11_gives_3 2 rfl rfl ?_
    refine g_alenI (pc' := 5) (v := 4) C (o := 3) (by decide) rfl rfl (by decide) dX11_gives_4 rfl ?_
    refine g_icmp_ge (pc' := 8) (tgt := 25) C dX11_gives_5 (by decide) rfl (fun hc => ?_) (fun hc => ?_)
    · rw [if_pos hc] at h
      exact g_sub C [1, 2] rfl (w_X11_gives_3_B25 C hr hR _ _ h)
    · rw [if_neg hc] at h
      refine g_aload_n (pc' := 9) C dX11_gives_8 2 rfl rfl ?_
      refine g_iload_n (pc' := 10) C dX11_gives_9 3 rfl rfl ?_
      refine g_aload_n (pc' := 11) C dX11_gives_10 0 rfl rfl ?_
      refine gg_X11_47 (pc' := 14) C dX11_gives_11 rfl ?_
      refine g_iload_n (pc' := 15) C dX11_gives_14 1 rfl rfl ?_
      refine g_iload_n (pc' := 16) C dX11_gives_15 3 rfl rfl ?_
      refine g_iadd (pc' := 17) C dX11_gives_16 rfl ?_
      obtain ⟨h1, h⟩ := chk_some h
      refine g_iald (pc' := 18) C (o := 12) (by decide) rfl (inb_d h1) dX11_gives_17 rfl ?_
      obtain ⟨h2, h⟩ := chk_some h
      obtain ⟨s3, e4, h⟩ := let_some h
      refine g_iast (pc' := 19) C (o := 3) (by decide) rfl (inb_d h2) dX11_gives_18 rfl e4 ?_
      obtain ⟨v5, e6, h⟩ := let_some h
      refine g_iinc (pc' := 22) (v := v5) (lv' := [(3, .int v5), (0, .ref (base + 0)), (1, .int x1), (2, .ref (base + 3))]) C dX11_gives_19 3 rfl (by rw [e6]; rfl) (by decide) rfl rfl ?_
      refine g_goto (tgt := 2) C dX11_gives_22 (by decide) ?_
      exact g_sub C [1, 2, 3, 0] rfl (ih _ _ _ h)
noncomputable def f_X11_gives_3 (σ : cr_S) (a1 : Int32) : Option (cr_S × Int32) :=
  f_X11_gives_3_L2 cr_fuel σ a1 0
set_option maxRecDepth 100000 in
set_option maxHeartbeats 4000000 in
theorem w_X11_gives_3 (C : cr_C p l e R s m args below meth c sfM 17 base D cA cX11_gives 4 RX11) (hr : meth.sig.returnType = some .int) (hR : 0 ≤ R.frames ∧ 0 ≤ R.locals) {res : cr_S × Int32} (σ : cr_S) (a1 : Int32) (h : f_X11_gives_3 σ a1 = some res) : cr_W p l e R s m args below meth c sfM 17 base D cA 4 (MQ below (cr_Qi sfM 17 base D cA res) args s 0 0 (cr_A 17 base)) σ 0 [(0, .ref (base + 0)), (1, .int a1), (2, .ref (base + 3))] [] := by
  unfold f_X11_gives_3 at h
  refine g_iconst (pc' := 1) (v := 0) C dX11_gives_0 (by decide) rfl ?_
  refine g_istore_n (pc' := 2) (lv' := [(3, .int 0), (0, .ref (base + 0)), (1, .int a1), (2, .ref (base + 3))]) C dX11_gives_1 rfl (by decide) rfl rfl ?_
  exact g_sub C [1, 2, 3, 0] rfl (w_X11_gives_3_L2 C hr hR _ _ _ _ h)
theorem c_X11_gives_3 (l : Launch) (base : Nat) (D : va_G) (cA : Nat → ClassId) (σ : cr_S) (a1 : Int32) (res : cr_S × Int32) (h : f_X11_gives_3 σ a1 = some res) : cr_M l yX11_gives cX11_gives 4 (some .int) 0 0 sfM 17 base D cA [.ref (base + 0), .int a1, .ref (base + 3)] σ (cr_Qi sfM 17 base D cA res) := by
  refine cr_enter [.ref (base + 0), .int a1, .ref (base + 3)] [(0, .ref (base + 0)), (1, .int a1), (2, .ref (base + 3))] (by decide) (Nat.le_of_ble_eq_true rfl) rfl ?_
  intro p e R s m below meth c C hr hR
  exact w_X11_gives_3 C hr hR σ a1 h
noncomputable def f_X11_gives_8_B25  (σ : cr_S) (x1 : Int32) : Option (cr_S × Int32) :=
  some (σ, x1 + 32)
set_option maxRecDepth 100000 in
set_option maxHeartbeats 4000000 in
theorem w_X11_gives_8_B25 (C : cr_C p l e R s m args below meth c sfM 17 base D cA cX11_gives 4 RX11) (hr : meth.sig.returnType = some .int) (hR : 0 ≤ R.frames ∧ 0 ≤ R.locals) {res : cr_S × Int32}  (σ : cr_S) (x1 : Int32) (h : f_X11_gives_8_B25 σ x1 = some res) : cr_W p l e R s m args below meth c sfM 17 base D cA 4 (MQ below (cr_Qi sfM 17 base D cA res) args s 0 0 (cr_A 17 base)) σ 25 [(1, .int x1), (2, .ref (base + 8))] [] := by
  unfold f_X11_gives_8_B25 at h
  refine g_iload_n (pc' := 26) C dX11_gives_25 0 rfl rfl ?_
  refine g_aload_n (pc' := 27) C dX11_gives_26 1 rfl rfl ?_
  refine g_alenI (pc' := 28) (v := 32) C (o := 8) (by decide) rfl rfl (by decide) dX11_gives_27 rfl ?_
  refine g_iadd (pc' := 29) C dX11_gives_28 rfl ?_
  exact g_iret C hr dX11_gives_29 h
noncomputable def f_X11_gives_8_L2  : Nat → cr_S → Int32 → Int32 → Option (cr_S × Int32)
  | 0, _, _, _ => none
  | n + 1, σ, x1, x3 =>
    (if 32 ≤ x3 then f_X11_gives_8_B25 σ x1 else chk (inb (x1 + x3) 111) (chk (inb x3 32) (cr_let (sA σ 8 x3 (rA σ 12 (x1 + x3))) (fun s3 => cr_let (x3 + 1) (fun v5 => f_X11_gives_8_L2 n s3 x1 v5)))))
set_option maxRecDepth 100000 in
set_option maxHeartbeats 4000000 in
theorem w_X11_gives_8_L2 (C : cr_C p l e R s m args below meth c sfM 17 base D cA cX11_gives 4 RX11) (hr : meth.sig.returnType = some .int) (hR : 0 ≤ R.frames ∧ 0 ≤ R.locals) {res : cr_S × Int32}  : ∀ (n : Nat) (σ : cr_S) (x1 : Int32) (x3 : Int32), f_X11_gives_8_L2 n σ x1 x3 = some res → cr_W p l e R s m args below meth c sfM 17 base D cA 4 (MQ below (cr_Qi sfM 17 base D cA res) args s 0 0 (cr_A 17 base)) σ 2 [(0, .ref (base + 0)), (1, .int x1), (2, .ref (base + 8)), (3, .int x3)] [] := by
  intro n
  induction n with
  | zero =>
    intro σ x1 x3 h
    cases h
  | succ n ih =>
    intro σ x1 x3 h
    rw [f_X11_gives_8_L2] at h
    refine g_iload_n (pc' := 3) C dX11_gives_2 3 rfl rfl ?_
    refine g_aload_n (pc' := 4) C dX11_gives_3 2 rfl rfl ?_
    refine g_alenI (pc' := 5) (v := 32) C (o := 8) (by decide) rfl rfl (by decide) dX11_gives_4 rfl ?_
    refine g_icmp_ge (pc' := 8) (tgt := 25) C dX11_gives_5 (by decide) rfl (fun hc => ?_) (fun hc => ?_)
    · rw [if_pos hc] at h
      exact g_sub C [1, 2] rfl (w_X11_gives_8_B25 C hr hR _ _ h)
    · rw [if_neg hc] at h
      refine g_aload_n (pc' := 9) C dX11_gives_8 2 rfl rfl ?_
      refine g_iload_n (pc' := 10) C dX11_gives_9 3 rfl rfl ?_
      refine g_aload_n (pc' := 11) C dX11_gives_10 0 rfl rfl ?_
      refine gg_X11_47 (pc' := 14) C dX11_gives_11 rfl ?_
      refine g_iload_n (pc' := 15) C dX11_gives_14 1 rfl rfl ?_
      refine g_iload_n (pc' := 16) C dX11_gives_15 3 rfl rfl ?_
      refine g_iadd (pc' := 17) C dX11_gives_16 rfl ?_
      obtain ⟨h1, h⟩ := chk_some h
      refine g_iald (pc' := 18) C (o := 12) (by decide) rfl (inb_d h1) dX11_gives_17 rfl ?_
      obtain ⟨h2, h⟩ := chk_some h
      obtain ⟨s3, e4, h⟩ := let_some h
      refine g_iast (pc' := 19) C (o := 8) (by decide) rfl (inb_d h2) dX11_gives_18 rfl e4 ?_
      obtain ⟨v5, e6, h⟩ := let_some h
      refine g_iinc (pc' := 22) (v := v5) (lv' := [(3, .int v5), (0, .ref (base + 0)), (1, .int x1), (2, .ref (base + 8))]) C dX11_gives_19 3 rfl (by rw [e6]; rfl) (by decide) rfl rfl ?_
      refine g_goto (tgt := 2) C dX11_gives_22 (by decide) ?_
      exact g_sub C [1, 2, 3, 0] rfl (ih _ _ _ h)
noncomputable def f_X11_gives_8 (σ : cr_S) (a1 : Int32) : Option (cr_S × Int32) :=
  f_X11_gives_8_L2 cr_fuel σ a1 0
set_option maxRecDepth 100000 in
set_option maxHeartbeats 4000000 in
theorem w_X11_gives_8 (C : cr_C p l e R s m args below meth c sfM 17 base D cA cX11_gives 4 RX11) (hr : meth.sig.returnType = some .int) (hR : 0 ≤ R.frames ∧ 0 ≤ R.locals) {res : cr_S × Int32} (σ : cr_S) (a1 : Int32) (h : f_X11_gives_8 σ a1 = some res) : cr_W p l e R s m args below meth c sfM 17 base D cA 4 (MQ below (cr_Qi sfM 17 base D cA res) args s 0 0 (cr_A 17 base)) σ 0 [(0, .ref (base + 0)), (1, .int a1), (2, .ref (base + 8))] [] := by
  unfold f_X11_gives_8 at h
  refine g_iconst (pc' := 1) (v := 0) C dX11_gives_0 (by decide) rfl ?_
  refine g_istore_n (pc' := 2) (lv' := [(3, .int 0), (0, .ref (base + 0)), (1, .int a1), (2, .ref (base + 8))]) C dX11_gives_1 rfl (by decide) rfl rfl ?_
  exact g_sub C [1, 2, 3, 0] rfl (w_X11_gives_8_L2 C hr hR _ _ _ _ h)
theorem c_X11_gives_8 (l : Launch) (base : Nat) (D : va_G) (cA : Nat → ClassId) (σ : cr_S) (a1 : Int32) (res : cr_S × Int32) (h : f_X11_gives_8 σ a1 = some res) : cr_M l yX11_gives cX11_gives 4 (some .int) 0 0 sfM 17 base D cA [.ref (base + 0), .int a1, .ref (base + 8)] σ (cr_Qi sfM 17 base D cA res) := by
  refine cr_enter [.ref (base + 0), .int a1, .ref (base + 8)] [(0, .ref (base + 0)), (1, .int a1), (2, .ref (base + 8))] (by decide) (Nat.le_of_ble_eq_true rfl) rfl ?_
  intro p e R s m below meth c C hr hR
  exact w_X11_gives_8 C hr hR σ a1 h
noncomputable def f_X11_gives_10_B25  (σ : cr_S) (x1 : Int32) : Option (cr_S × Int32) :=
  some (σ, x1 + 12)
set_option maxRecDepth 100000 in
set_option maxHeartbeats 4000000 in
theorem w_X11_gives_10_B25 (C : cr_C p l e R s m args below meth c sfM 17 base D cA cX11_gives 4 RX11) (hr : meth.sig.returnType = some .int) (hR : 0 ≤ R.frames ∧ 0 ≤ R.locals) {res : cr_S × Int32}  (σ : cr_S) (x1 : Int32) (h : f_X11_gives_10_B25 σ x1 = some res) : cr_W p l e R s m args below meth c sfM 17 base D cA 4 (MQ below (cr_Qi sfM 17 base D cA res) args s 0 0 (cr_A 17 base)) σ 25 [(1, .int x1), (2, .ref (base + 10))] [] := by
  unfold f_X11_gives_10_B25 at h
  refine g_iload_n (pc' := 26) C dX11_gives_25 0 rfl rfl ?_
  refine g_aload_n (pc' := 27) C dX11_gives_26 1 rfl rfl ?_
  refine g_alenI (pc' := 28) (v := 12) C (o := 10) (by decide) rfl rfl (by decide) dX11_gives_27 rfl ?_
  refine g_iadd (pc' := 29) C dX11_gives_28 rfl ?_
  exact g_iret C hr dX11_gives_29 h
noncomputable def f_X11_gives_10_L2  : Nat → cr_S → Int32 → Int32 → Option (cr_S × Int32)
  | 0, _, _, _ => none
  | n + 1, σ, x1, x3 =>
    (if 12 ≤ x3 then f_X11_gives_10_B25 σ x1 else chk (inb (x1 + x3) 111) (chk (inb x3 12) (cr_let (sA σ 10 x3 (rA σ 12 (x1 + x3))) (fun s3 => cr_let (x3 + 1) (fun v5 => f_X11_gives_10_L2 n s3 x1 v5)))))
set_option maxRecDepth 100000 in
set_option maxHeartbeats 4000000 in
theorem w_X11_gives_10_L2 (C : cr_C p l e R s m args below meth c sfM 17 base D cA cX11_gives 4 RX11) (hr : meth.sig.returnType = some .int) (hR : 0 ≤ R.frames ∧ 0 ≤ R.locals) {res : cr_S × Int32}  : ∀ (n : Nat) (σ : cr_S) (x1 : Int32) (x3 : Int32), f_X11_gives_10_L2 n σ x1 x3 = some res → cr_W p l e R s m args below meth c sfM 17 base D cA 4 (MQ below (cr_Qi sfM 17 base D cA res) args s 0 0 (cr_A 17 base)) σ 2 [(0, .ref (base + 0)), (1, .int x1), (2, .ref (base + 10)), (3, .int x3)] [] := by
  intro n
  induction n with
  | zero =>
    intro σ x1 x3 h
    cases h
  | succ n ih =>
    intro σ x1 x3 h
    rw [f_X11_gives_10_L2] at h
    refine g_iload_n (pc' := 3) C dX11_gives_2 3 rfl rfl ?_
    refine g_aload_n (pc' := 4) C dX11_gives_3 2 rfl rfl ?_
    refine g_alenI (pc' := 5) (v := 12) C (o := 10) (by decide) rfl rfl (by decide) dX11_gives_4 rfl ?_
    refine g_icmp_ge (pc' := 8) (tgt := 25) C dX11_gives_5 (by decide) rfl (fun hc => ?_) (fun hc => ?_)
    · rw [if_pos hc] at h
      exact g_sub C [1, 2] rfl (w_X11_gives_10_B25 C hr hR _ _ h)
    · rw [if_neg hc] at h
      refine g_aload_n (pc' := 9) C dX11_gives_8 2 rfl rfl ?_
      refine g_iload_n (pc' := 10) C dX11_gives_9 3 rfl rfl ?_
      refine g_aload_n (pc' := 11) C dX11_gives_10 0 rfl rfl ?_
      refine gg_X11_47 (pc' := 14) C dX11_gives_11 rfl ?_
      refine g_iload_n (pc' := 15) C dX11_gives_14 1 rfl rfl ?_
      refine g_iload_n (pc' := 16) C dX11_gives_15 3 rfl rfl ?_
      refine g_iadd (pc' := 17) C dX11_gives_16 rfl ?_
      obtain ⟨h1, h⟩ := chk_some h
      refine g_iald (pc' := 18) C (o := 12) (by decide) rfl (inb_d h1) dX11_gives_17 rfl ?_
      obtain ⟨h2, h⟩ := chk_some h
      obtain ⟨s3, e4, h⟩ := let_some h
      refine g_iast (pc' := 19) C (o := 10) (by decide) rfl (inb_d h2) dX11_gives_18 rfl e4 ?_
      obtain ⟨v5, e6, h⟩ := let_some h
      refine g_iinc (pc' := 22) (v := v5) (lv' := [(3, .int v5), (0, .ref (base + 0)), (1, .int x1), (2, .ref (base + 10))]) C dX11_gives_19 3 rfl (by rw [e6]; rfl) (by decide) rfl rfl ?_
      refine g_goto (tgt := 2) C dX11_gives_22 (by decide) ?_
      exact g_sub C [1, 2, 3, 0] rfl (ih _ _ _ h)
noncomputable def f_X11_gives_10 (σ : cr_S) (a1 : Int32) : Option (cr_S × Int32) :=
  f_X11_gives_10_L2 cr_fuel σ a1 0
set_option maxRecDepth 100000 in
set_option maxHeartbeats 4000000 in
theorem w_X11_gives_10 (C : cr_C p l e R s m args below meth c sfM 17 base D cA cX11_gives 4 RX11) (hr : meth.sig.returnType = some .int) (hR : 0 ≤ R.frames ∧ 0 ≤ R.locals) {res : cr_S × Int32} (σ : cr_S) (a1 : Int32) (h : f_X11_gives_10 σ a1 = some res) : cr_W p l e R s m args below meth c sfM 17 base D cA 4 (MQ below (cr_Qi sfM 17 base D cA res) args s 0 0 (cr_A 17 base)) σ 0 [(0, .ref (base + 0)), (1, .int a1), (2, .ref (base + 10))] [] := by
  unfold f_X11_gives_10 at h
  refine g_iconst (pc' := 1) (v := 0) C dX11_gives_0 (by decide) rfl ?_
  refine g_istore_n (pc' := 2) (lv' := [(3, .int 0), (0, .ref (base + 0)), (1, .int a1), (2, .ref (base + 10))]) C dX11_gives_1 rfl (by decide) rfl rfl ?_
  exact g_sub C [1, 2, 3, 0] rfl (w_X11_gives_10_L2 C hr hR _ _ _ _ h)
theorem c_X11_gives_10 (l : Launch) (base : Nat) (D : va_G) (cA : Nat → ClassId) (σ : cr_S) (a1 : Int32) (res : cr_S × Int32) (h : f_X11_gives_10 σ a1 = some res) : cr_M l yX11_gives cX11_gives 4 (some .int) 0 0 sfM 17 base D cA [.ref (base + 0), .int a1, .ref (base + 10)] σ (cr_Qi sfM 17 base D cA res) := by
  refine cr_enter [.ref (base + 0), .int a1, .ref (base + 10)] [(0, .ref (base + 0)), (1, .int a1), (2, .ref (base + 10))] (by decide) (Nat.le_of_ble_eq_true rfl) rfl ?_
  intro p e R s m below meth c C hr hR
  exact w_X11_gives_10 C hr hR σ a1 h
noncomputable def f_X11_gives_11_B25  (σ : cr_S) (x1 : Int32) : Option (cr_S × Int32) :=
  some (σ, x1 + 12)
set_option maxRecDepth 100000 in
set_option maxHeartbeats 4000000 in
theorem w_X11_gives_11_B25 (C : cr_C p l e R s m args below meth c sfM 17 base D cA cX11_gives 4 RX11) (hr : meth.sig.returnType = some .int) (hR : 0 ≤ R.frames ∧ 0 ≤ R.locals) {res : cr_S × Int32}  (σ : cr_S) (x1 : Int32) (h : f_X11_gives_11_B25 σ x1 = some res) : cr_W p l e R s m args below meth c sfM 17 base D cA 4 (MQ below (cr_Qi sfM 17 base D cA res) args s 0 0 (cr_A 17 base)) σ 25 [(1, .int x1), (2, .ref (base + 11))] [] := by
  unfold f_X11_gives_11_B25 at h
  refine g_iload_n (pc' := 26) C dX11_gives_25 0 rfl rfl ?_
  refine g_aload_n (pc' := 27) C dX11_gives_26 1 rfl rfl ?_
  refine g_alenI (pc' := 28) (v := 12) C (o := 11) (by decide) rfl rfl (by decide) dX11_gives_27 rfl ?_
  refine g_iadd (pc' := 29) C dX11_gives_28 rfl ?_
  exact g_iret C hr dX11_gives_29 h
noncomputable def f_X11_gives_11_L2  : Nat → cr_S → Int32 → Int32 → Option (cr_S × Int32)
  | 0, _, _, _ => none
  | n + 1, σ, x1, x3 =>
    (if 12 ≤ x3 then f_X11_gives_11_B25 σ x1 else chk (inb (x1 + x3) 111) (chk (inb x3 12) (cr_let (sA σ 11 x3 (rA σ 12 (x1 + x3))) (fun s3 => cr_let (x3 + 1) (fun v5 => f_X11_gives_11_L2 n s3 x1 v5)))))
set_option maxRecDepth 100000 in
set_option maxHeartbeats 4000000 in
theorem w_X11_gives_11_L2 (C : cr_C p l e R s m args below meth c sfM 17 base D cA cX11_gives 4 RX11) (hr : meth.sig.returnType = some .int) (hR : 0 ≤ R.frames ∧ 0 ≤ R.locals) {res : cr_S × Int32}  : ∀ (n : Nat) (σ : cr_S) (x1 : Int32) (x3 : Int32), f_X11_gives_11_L2 n σ x1 x3 = some res → cr_W p l e R s m args below meth c sfM 17 base D cA 4 (MQ below (cr_Qi sfM 17 base D cA res) args s 0 0 (cr_A 17 base)) σ 2 [(0, .ref (base + 0)), (1, .int x1), (2, .ref (base + 11)), (3, .int x3)] [] := by
  intro n
  induction n with
  | zero =>
    intro σ x1 x3 h
    cases h
  | succ n ih =>
    intro σ x1 x3 h
    rw [f_X11_gives_11_L2] at h
    refine g_iload_n (pc' := 3) C dX11_gives_2 3 rfl rfl ?_
    refine g_aload_n (pc' := 4) C dX11_gives_3 2 rfl rfl ?_
    refine g_alenI (pc' := 5) (v := 12) C (o := 11) (by decide) rfl rfl (by decide) dX11_gives_4 rfl ?_
    refine g_icmp_ge (pc' := 8) (tgt := 25) C dX11_gives_5 (by decide) rfl (fun hc => ?_) (fun hc => ?_)
    · rw [if_pos hc] at h
      exact g_sub C [1, 2] rfl (w_X11_gives_11_B25 C hr hR _ _ h)
    · rw [if_neg hc] at h
      refine g_aload_n (pc' := 9) C dX11_gives_8 2 rfl rfl ?_
      refine g_iload_n (pc' := 10) C dX11_gives_9 3 rfl rfl ?_
      refine g_aload_n (pc' := 11) C dX11_gives_10 0 rfl rfl ?_
      refine gg_X11_47 (pc' := 14) C dX11_gives_11 rfl ?_
      refine g_iload_n (pc' := 15) C dX11_gives_14 1 rfl rfl ?_
      refine g_iload_n (pc' := 16) C dX11_gives_15 3 rfl rfl ?_
      refine g_iadd (pc' := 17) C dX11_gives_16 rfl ?_
      obtain ⟨h1, h⟩ := chk_some h
      refine g_iald (pc' := 18) C (o := 12) (by decide) rfl (inb_d h1) dX11_gives_17 rfl ?_
      obtain ⟨h2, h⟩ := chk_some h
      obtain ⟨s3, e4, h⟩ := let_some h
      refine g_iast (pc' := 19) C (o := 11) (by decide) rfl (inb_d h2) dX11_gives_18 rfl e4 ?_
      obtain ⟨v5, e6, h⟩ := let_some h
      refine g_iinc (pc' := 22) (v := v5) (lv' := [(3, .int v5), (0, .ref (base + 0)), (1, .int x1), (2, .ref (base + 11))]) C dX11_gives_19 3 rfl (by rw [e6]; rfl) (by decide) rfl rfl ?_
      refine g_goto (tgt := 2) C dX11_gives_22 (by decide) ?_
      exact g_sub C [1, 2, 3, 0] rfl (ih _ _ _ h)
noncomputable def f_X11_gives_11 (σ : cr_S) (a1 : Int32) : Option (cr_S × Int32) :=
  f_X11_gives_11_L2 cr_fuel σ a1 0
set_option maxRecDepth 100000 in
set_option maxHeartbeats 4000000 in
theorem w_X11_gives_11 (C : cr_C p l e R s m args below meth c sfM 17 base D cA cX11_gives 4 RX11) (hr : meth.sig.returnType = some .int) (hR : 0 ≤ R.frames ∧ 0 ≤ R.locals) {res : cr_S × Int32} (σ : cr_S) (a1 : Int32) (h : f_X11_gives_11 σ a1 = some res) : cr_W p l e R s m args below meth c sfM 17 base D cA 4 (MQ below (cr_Qi sfM 17 base D cA res) args s 0 0 (cr_A 17 base)) σ 0 [(0, .ref (base + 0)), (1, .int a1), (2, .ref (base + 11))] [] := by
  unfold f_X11_gives_11 at h
  refine g_iconst (pc' := 1) (v := 0) C dX11_gives_0 (by decide) rfl ?_
  refine g_istore_n (pc' := 2) (lv' := [(3, .int 0), (0, .ref (base + 0)), (1, .int a1), (2, .ref (base + 11))]) C dX11_gives_1 rfl (by decide) rfl rfl ?_
  exact g_sub C [1, 2, 3, 0] rfl (w_X11_gives_11_L2 C hr hR _ _ _ _ h)
theorem c_X11_gives_11 (l : Launch) (base : Nat) (D : va_G) (cA : Nat → ClassId) (σ : cr_S) (a1 : Int32) (res : cr_S × Int32) (h : f_X11_gives_11 σ a1 = some res) : cr_M l yX11_gives cX11_gives 4 (some .int) 0 0 sfM 17 base D cA [.ref (base + 0), .int a1, .ref (base + 11)] σ (cr_Qi sfM 17 base D cA res) := by
  refine cr_enter [.ref (base + 0), .int a1, .ref (base + 11)] [(0, .ref (base + 0)), (1, .int a1), (2, .ref (base + 11))] (by decide) (Nat.le_of_ble_eq_true rfl) rfl ?_
  intro p e R s m below meth c C hr hR
  exact w_X11_gives_11 C hr hR σ a1 h
noncomputable def f_X11_restore (σ : cr_S) : Option (cr_S × Int32) :=
  (if (rF σ 0 29) = 0 then some (σ, (-4)) else cr_let (sF σ 0 0 (rA σ 12 0)) (fun s1 => cr_let (sF s1 0 1 (rA s1 12 1)) (fun s3 => cr_let (sF s3 0 5 (rA s3 12 2)) (fun s5 => cr_let (sF s5 0 20 (rA s5 12 3)) (fun s7 => cr_let (sF s7 0 22 (rA s7 12 4)) (fun s9 => Option.bind (f_X11_gives_1 s9 5) (fun q11 => cr_let q11.2 (fun v13 => Option.bind (f_X11_gives_2 q11.1 v13) (fun q15 => cr_let q15.2 (fun v17 => Option.bind (f_X11_gives_3 q15.1 v17) (fun q19 => cr_let q19.2 (fun v21 => Option.bind (f_X11_gives_8 q19.1 v21) (fun q23 => cr_let q23.2 (fun v25 => Option.bind (f_X11_gives_10 q23.1 v25) (fun q27 => cr_let q27.2 (fun v29 => Option.bind (f_X11_gives_11 q27.1 v29) (fun q31 => some (q31.1, 1))))))))))))))))))
set_option maxRecDepth 100000 in
set_option maxHeartbeats 4000000 in
theorem w_X11_restore (C : cr_C p l e R s m args below meth c sfM 17 base D cA cX11_restore 2 RX11) (hr : meth.sig.returnType = some .int) (hR : 1 ≤ R.frames ∧ 23 ≤ R.locals) {res : cr_S × Int32} (σ : cr_S) (h : f_X11_restore σ = some res) : cr_W p l e R s m args below meth c sfM 17 base D cA 2 (MQ below (cr_Qi sfM 17 base D cA res) args s 0 0 (cr_A 17 base)) σ 0 [(0, .ref (base + 0))] [] := by
  unfold f_X11_restore at h
  refine g_aload_n (pc' := 1) C dX11_restore_0 0 rfl rfl ?_
  refine gg_X11_266 (pc' := 4) C dX11_restore_1 rfl ?_
  refine g_if_ne (pc' := 7) (tgt := 10) C dX11_restore_4 (by decide) rfl (fun hc => ?_) (fun hc => ?_)
  · rw [if_neg hc] at h
    refine g_aload_n (pc' := 11) C dX11_restore_10 0 rfl rfl ?_
    refine g_aload_n (pc' := 12) C dX11_restore_11 0 rfl rfl ?_
    refine gg_X11_47 (pc' := 15) C dX11_restore_12 rfl ?_
    refine g_iconst (pc' := 16) (v := 0) C dX11_restore_15 (by decide) rfl ?_
    refine g_iald (pc' := 17) C (o := 12) (by decide) rfl (inb_d (by decide)) dX11_restore_16 rfl ?_
    obtain ⟨s1, e2, h⟩ := let_some h
    refine gp_X11_63 (pc' := 20) C dX11_restore_17 rfl e2 ?_
    refine g_aload_n (pc' := 21) C dX11_restore_20 0 rfl rfl ?_
    refine g_aload_n (pc' := 22) C dX11_restore_21 0 rfl rfl ?_
    refine gg_X11_47 (pc' := 25) C dX11_restore_22 rfl ?_
    refine g_iconst (pc' := 26) (v := 1) C dX11_restore_25 (by decide) rfl ?_
    refine g_iald (pc' := 27) C (o := 12) (by decide) rfl (inb_d (by decide)) dX11_restore_26 rfl ?_
    obtain ⟨s3, e4, h⟩ := let_some h
    refine gp_X11_70 (pc' := 30) C dX11_restore_27 rfl e4 ?_
    refine g_aload_n (pc' := 31) C dX11_restore_30 0 rfl rfl ?_
    refine g_aload_n (pc' := 32) C dX11_restore_31 0 rfl rfl ?_
    refine gg_X11_47 (pc' := 35) C dX11_restore_32 rfl ?_
    refine g_iconst (pc' := 36) (v := 2) C dX11_restore_35 (by decide) rfl ?_
    refine g_iald (pc' := 37) C (o := 12) (by decide) rfl (inb_d (by decide)) dX11_restore_36 rfl ?_
    obtain ⟨s5, e6, h⟩ := let_some h
    refine gp_X11_19 (pc' := 40) C dX11_restore_37 rfl e6 ?_
    refine g_aload_n (pc' := 41) C dX11_restore_40 0 rfl rfl ?_
    refine g_aload_n (pc' := 42) C dX11_restore_41 0 rfl rfl ?_
    refine gg_X11_47 (pc' := 45) C dX11_restore_42 rfl ?_
    refine g_iconst (pc' := 46) (v := 3) C dX11_restore_45 (by decide) rfl ?_
    refine g_iald (pc' := 47) C (o := 12) (by decide) rfl (inb_d (by decide)) dX11_restore_46 rfl ?_
    obtain ⟨s7, e8, h⟩ := let_some h
    refine gp_X11_197 (pc' := 50) C dX11_restore_47 rfl e8 ?_
    refine g_aload_n (pc' := 51) C dX11_restore_50 0 rfl rfl ?_
    refine g_aload_n (pc' := 52) C dX11_restore_51 0 rfl rfl ?_
    refine gg_X11_47 (pc' := 55) C dX11_restore_52 rfl ?_
    refine g_iconst (pc' := 56) (v := 4) C dX11_restore_55 (by decide) rfl ?_
    refine g_iald (pc' := 57) C (o := 12) (by decide) rfl (inb_d (by decide)) dX11_restore_56 rfl ?_
    obtain ⟨s9, e10, h⟩ := let_some h
    refine gp_X11_200 (pc' := 60) C dX11_restore_57 rfl e10 ?_
    refine g_aload_n (pc' := 61) C dX11_restore_60 0 rfl rfl ?_
    refine g_iconst (pc' := 62) (v := 5) C dX11_restore_61 (by decide) rfl ?_
    refine g_aload_n (pc' := 63) C dX11_restore_62 0 rfl rfl ?_
    refine gg_X11_7 (pc' := 66) C dX11_restore_63 rfl ?_
    obtain ⟨q11, h12, h⟩ := bind_some h
    refine g_callVi (pc' := 69) (res := q11) C [.int 5, .ref (base + 1)] cY_X11_gives rfl (o := 0) (by decide) rfl mv_X11_gives mm_X11_269 ⟨Nat.le_trans (by decide) hR.1, Nat.le_trans (by decide) hR.2⟩ rfl (Nat.le_of_ble_eq_true rfl) rfl dX11_restore_66 (c_X11_gives_1 l base D cA s9 5 q11 h12) rfl ?_
    obtain ⟨v13, e14, h⟩ := let_some h
    refine g_nameI e14 ?_
    refine g_istore_n (pc' := 70) (lv' := [(1, .int v13), (0, .ref (base + 0))]) C dX11_restore_69 rfl (by decide) rfl rfl ?_
    refine g_aload_n (pc' := 71) C dX11_restore_70 1 rfl rfl ?_
    refine g_iload_n (pc' := 72) C dX11_restore_71 0 rfl rfl ?_
    refine g_aload_n (pc' := 73) C dX11_restore_72 1 rfl rfl ?_
    refine gg_X11_13 (pc' := 76) C dX11_restore_73 rfl ?_
    obtain ⟨q15, h16, h⟩ := bind_some h
    refine g_callVi (pc' := 79) (res := q15) C [.int v13, .ref (base + 2)] cY_X11_gives rfl (o := 0) (by decide) rfl mv_X11_gives mm_X11_269 ⟨Nat.le_trans (by decide) hR.1, Nat.le_trans (by decide) hR.2⟩ rfl (Nat.le_of_ble_eq_true rfl) rfl dX11_restore_76 (c_X11_gives_2 l base D cA q11.1 v13 q15 h16) rfl ?_
    obtain ⟨v17, e18, h⟩ := let_some h
    refine g_nameI e18 ?_
    refine g_istore_n (pc' := 80) (lv' := [(1, .int v17), (0, .ref (base + 0))]) C dX11_restore_79 rfl (by decide) rfl rfl ?_
    refine g_aload_n (pc' := 81) C dX11_restore_80 1 rfl rfl ?_
    refine g_iload_n (pc' := 82) C dX11_restore_81 0 rfl rfl ?_
    refine g_aload_n (pc' := 83) C dX11_restore_82 1 rfl rfl ?_
    refine gg_X11_16 (pc' := 86) C dX11_restore_83 rfl ?_
    obtain ⟨q19, h20, h⟩ := bind_some h
    refine g_callVi (pc' := 89) (res := q19) C [.int v17, .ref (base + 3)] cY_X11_gives rfl (o := 0) (by decide) rfl mv_X11_gives mm_X11_269 ⟨Nat.le_trans (by decide) hR.1, Nat.le_trans (by decide) hR.2⟩ rfl (Nat.le_of_ble_eq_true rfl) rfl dX11_restore_86 (c_X11_gives_3 l base D cA q15.1 v17 q19 h20) rfl ?_
    obtain ⟨v21, e22, h⟩ := let_some h
    refine g_nameI e22 ?_
    refine g_istore_n (pc' := 90) (lv' := [(1, .int v21), (0, .ref (base + 0))]) C dX11_restore_89 rfl (by decide) rfl rfl ?_
    refine g_aload_n (pc' := 91) C dX11_restore_90 1 rfl rfl ?_
    refine g_iload_n (pc' := 92) C dX11_restore_91 0 rfl rfl ?_
    refine g_aload_n (pc' := 93) C dX11_restore_92 1 rfl rfl ?_
    refine gg_X11_35 (pc' := 96) C dX11_restore_93 rfl ?_
    obtain ⟨q23, h24, h⟩ := bind_some h
    refine g_callVi (pc' := 99) (res := q23) C [.int v21, .ref (base + 8)] cY_X11_gives rfl (o := 0) (by decide) rfl mv_X11_gives mm_X11_269 ⟨Nat.le_trans (by decide) hR.1, Nat.le_trans (by decide) hR.2⟩ rfl (Nat.le_of_ble_eq_true rfl) rfl dX11_restore_96 (c_X11_gives_8 l base D cA q19.1 v21 q23 h24) rfl ?_
    obtain ⟨v25, e26, h⟩ := let_some h
    refine g_nameI e26 ?_
    refine g_istore_n (pc' := 100) (lv' := [(1, .int v25), (0, .ref (base + 0))]) C dX11_restore_99 rfl (by decide) rfl rfl ?_
    refine g_aload_n (pc' := 101) C dX11_restore_100 1 rfl rfl ?_
    refine g_iload_n (pc' := 102) C dX11_restore_101 0 rfl rfl ?_
    refine g_aload_n (pc' := 103) C dX11_restore_102 1 rfl rfl ?_
    refine gg_X11_41 (pc' := 106) C dX11_restore_103 rfl ?_
    obtain ⟨q27, h28, h⟩ := bind_some h
    refine g_callVi (pc' := 109) (res := q27) C [.int v25, .ref (base + 10)] cY_X11_gives rfl (o := 0) (by decide) rfl mv_X11_gives mm_X11_269 ⟨Nat.le_trans (by decide) hR.1, Nat.le_trans (by decide) hR.2⟩ rfl (Nat.le_of_ble_eq_true rfl) rfl dX11_restore_106 (c_X11_gives_10 l base D cA q23.1 v25 q27 h28) rfl ?_
    obtain ⟨v29, e30, h⟩ := let_some h
    refine g_nameI e30 ?_
    refine g_istore_n (pc' := 110) (lv' := [(1, .int v29), (0, .ref (base + 0))]) C dX11_restore_109 rfl (by decide) rfl rfl ?_
    refine g_aload_n (pc' := 111) C dX11_restore_110 1 rfl rfl ?_
    refine g_iload_n (pc' := 112) C dX11_restore_111 0 rfl rfl ?_
    refine g_aload_n (pc' := 113) C dX11_restore_112 1 rfl rfl ?_
    refine gg_X11_44 (pc' := 116) C dX11_restore_113 rfl ?_
    obtain ⟨q31, h32, h⟩ := bind_some h
    refine g_callVi (pc' := 119) (res := q31) C [.int v29, .ref (base + 11)] cY_X11_gives rfl (o := 0) (by decide) rfl mv_X11_gives mm_X11_269 ⟨Nat.le_trans (by decide) hR.1, Nat.le_trans (by decide) hR.2⟩ rfl (Nat.le_of_ble_eq_true rfl) rfl dX11_restore_116 (c_X11_gives_11 l base D cA q27.1 v29 q31 h32) rfl ?_
    refine g_pop (pc' := 120) C dX11_restore_119 rfl rfl ?_
    refine g_iconst (pc' := 121) (v := 1) C dX11_restore_120 (by decide) rfl ?_
    exact g_iret C hr dX11_restore_121 h
  · rw [if_pos hc] at h
    refine g_bipush (pc' := 9) (v := (-4)) C dX11_restore_7 (by decide) rfl ?_
    exact g_iret C hr dX11_restore_9 h
theorem c_X11_restore (l : Launch) (base : Nat) (D : va_G) (cA : Nat → ClassId) (σ : cr_S) (res : cr_S × Int32) (h : f_X11_restore σ = some res) : cr_M l yX11_restore cX11_restore 2 (some .int) 1 23 sfM 17 base D cA [.ref (base + 0)] σ (cr_Qi sfM 17 base D cA res) := by
  refine cr_enter [.ref (base + 0)] [(0, .ref (base + 0))] (by decide) (Nat.le_of_ble_eq_true rfl) rfl ?_
  intro p e R s m below meth c C hr hR
  exact w_X11_restore C hr hR σ h
noncomputable def f_X11_isSheet (σ : cr_S) (a0 : Int32) : Option (cr_S × Int32) :=
  Option.bind (f_X11_in σ (Int32.toInt64 a0) 0 3) (fun q1 => chk (isB q1.2) (some (q1.1, q1.2)))
set_option maxRecDepth 100000 in
set_option maxHeartbeats 4000000 in
theorem w_X11_isSheet (C : cr_C p l e R s m args below meth c sfM 17 base D cA cX11_isSheet 1 RX11) (hr : meth.sig.returnType = some .boolean) (hR : 1 ≤ R.frames ∧ 25 ≤ R.locals) {res : cr_S × Int32} (σ : cr_S) (a0 : Int32) (h : f_X11_isSheet σ a0 = some res) : cr_W p l e R s m args below meth c sfM 17 base D cA 1 (MQ below (cr_Qi sfM 17 base D cA res) args s 0 0 (cr_A 17 base)) σ 0 [(0, .int a0)] [] := by
  unfold f_X11_isSheet at h
  refine g_iload_n (pc' := 1) C dX11_isSheet_0 0 rfl rfl ?_
  refine g_i2l (pc' := 2) C dX11_isSheet_1 rfl ?_
  refine g_lconst (pc' := 3) (v := 0) C dX11_isSheet_2 (by decide) rfl ?_
  refine g_ldc2 (pc' := 6) (v := 3) C dX11_isSheet_3 ml_X11_75 rfl ?_
  obtain ⟨q1, h2, h⟩ := bind_some h
  refine g_callSi (pc' := 9) (res := q1) C [.long (Int32.toInt64 a0), .long 0, .long 3] cY_X11_in mv_X11_in mm_X11_66 ⟨Nat.le_trans (by decide) hR.1, Nat.le_trans (by decide) hR.2⟩ rfl (Nat.le_of_ble_eq_true rfl) rfl dX11_isSheet_6 (c_X11_in l base D cA σ (Int32.toInt64 a0) 0 3 q1 h2) rfl ?_
  obtain ⟨h3, h⟩ := chk_some h
  exact g_zret C hr (isB_n h3) dX11_isSheet_9 h
theorem c_X11_isSheet (l : Launch) (base : Nat) (D : va_G) (cA : Nat → ClassId) (σ : cr_S) (a0 : Int32) (res : cr_S × Int32) (h : f_X11_isSheet σ a0 = some res) : cr_M l yX11_isSheet cX11_isSheet 1 (some .boolean) 1 25 sfM 17 base D cA [.int a0] σ (cr_Qi sfM 17 base D cA res) := by
  refine cr_enter [.int a0] [(0, .int a0)] (by decide) (Nat.le_of_ble_eq_true rfl) rfl ?_
  intro p e R s m below meth c C hr hR
  exact w_X11_isSheet C hr hR σ a0 h
noncomputable def f_X11_isLane (σ : cr_S) (a0 : Int32) : Option (cr_S × Int32) :=
  Option.bind (f_X11_in σ (Int32.toInt64 a0) 0 3) (fun q1 => chk (isB q1.2) (some (q1.1, q1.2)))
set_option maxRecDepth 100000 in
set_option maxHeartbeats 4000000 in
theorem w_X11_isLane (C : cr_C p l e R s m args below meth c sfM 17 base D cA cX11_isLane 1 RX11) (hr : meth.sig.returnType = some .boolean) (hR : 1 ≤ R.frames ∧ 25 ≤ R.locals) {res : cr_S × Int32} (σ : cr_S) (a0 : Int32) (h : f_X11_isLane σ a0 = some res) : cr_W p l e R s m args below meth c sfM 17 base D cA 1 (MQ below (cr_Qi sfM 17 base D cA res) args s 0 0 (cr_A 17 base)) σ 0 [(0, .int a0)] [] := by
  unfold f_X11_isLane at h
  refine g_iload_n (pc' := 1) C dX11_isLane_0 0 rfl rfl ?_
  refine g_i2l (pc' := 2) C dX11_isLane_1 rfl ?_
  refine g_lconst (pc' := 3) (v := 0) C dX11_isLane_2 (by decide) rfl ?_
  refine g_ldc2 (pc' := 6) (v := 3) C dX11_isLane_3 ml_X11_75 rfl ?_
  obtain ⟨q1, h2, h⟩ := bind_some h
  refine g_callSi (pc' := 9) (res := q1) C [.long (Int32.toInt64 a0), .long 0, .long 3] cY_X11_in mv_X11_in mm_X11_66 ⟨Nat.le_trans (by decide) hR.1, Nat.le_trans (by decide) hR.2⟩ rfl (Nat.le_of_ble_eq_true rfl) rfl dX11_isLane_6 (c_X11_in l base D cA σ (Int32.toInt64 a0) 0 3 q1 h2) rfl ?_
  obtain ⟨h3, h⟩ := chk_some h
  exact g_zret C hr (isB_n h3) dX11_isLane_9 h
theorem c_X11_isLane (l : Launch) (base : Nat) (D : va_G) (cA : Nat → ClassId) (σ : cr_S) (a0 : Int32) (res : cr_S × Int32) (h : f_X11_isLane σ a0 = some res) : cr_M l yX11_isLane cX11_isLane 1 (some .boolean) 1 25 sfM 17 base D cA [.int a0] σ (cr_Qi sfM 17 base D cA res) := by
  refine cr_enter [.int a0] [(0, .int a0)] (by decide) (Nat.le_of_ble_eq_true rfl) rfl ?_
  intro p e R s m below meth c C hr hR
  exact w_X11_isLane C hr hR σ a0 h
noncomputable def f_X11_why (σ : cr_S) (a1 : Int32) (a2 : Int32) (a3 : Int32) (a4 : Int32) : Option (cr_S × Int32) :=
  chk (inb a1 4) ((if 0 ≤ (rA σ 13 a1) then chk (inb a1 4) ((if (rA σ 13 a1) = a2 then (if a3 < 0 then some (σ, (-13)) else chk (inb a1 4) (some (σ, if (lg_cmp ((Int32.toInt64 a3) + (Int32.toInt64 a4)) (Int32.toInt64 (rA σ 14 a1))) ≤ 0 then 0 else (-13)))) else some (σ, (-12)))) else some (σ, (-11))))
set_option maxRecDepth 100000 in
set_option maxHeartbeats 4000000 in
theorem w_X11_why (C : cr_C p l e R s m args below meth c sfM 17 base D cA cX11_why 5 RX11) (hr : meth.sig.returnType = some .int) (hR : 0 ≤ R.frames ∧ 0 ≤ R.locals) {res : cr_S × Int32} (σ : cr_S) (a1 : Int32) (a2 : Int32) (a3 : Int32) (a4 : Int32) (h : f_X11_why σ a1 a2 a3 a4 = some res) : cr_W p l e R s m args below meth c sfM 17 base D cA 5 (MQ below (cr_Qi sfM 17 base D cA res) args s 0 0 (cr_A 17 base)) σ 0 [(0, .ref (base + 0)), (1, .int a1), (2, .int a2), (3, .int a3), (4, .int a4)] [] := by
  unfold f_X11_why at h
  refine g_aload_n (pc' := 1) C dX11_why_0 0 rfl rfl ?_
  refine gg_X11_50 (pc' := 4) C dX11_why_1 rfl ?_
  refine g_iload_n (pc' := 5) C dX11_why_4 1 rfl rfl ?_
  obtain ⟨h1, h⟩ := chk_some h
  refine g_iald (pc' := 6) C (o := 13) (by decide) rfl (inb_d h1) dX11_why_5 rfl ?_
  refine g_if_ge (pc' := 9) (tgt := 12) C dX11_why_6 (by decide) rfl (fun hc => ?_) (fun hc => ?_)
  · rw [if_pos hc] at h
    refine g_aload_n (pc' := 13) C dX11_why_12 0 rfl rfl ?_
    refine gg_X11_50 (pc' := 16) C dX11_why_13 rfl ?_
    refine g_iload_n (pc' := 17) C dX11_why_16 1 rfl rfl ?_
    obtain ⟨h2, h⟩ := chk_some h
    refine g_iald (pc' := 18) C (o := 13) (by decide) rfl (inb_d h2) dX11_why_17 rfl ?_
    refine g_iload_n (pc' := 19) C dX11_why_18 2 rfl rfl ?_
    refine g_icmp_eq (pc' := 22) (tgt := 25) C dX11_why_19 (by decide) rfl (fun hc => ?_) (fun hc => ?_)
    · rw [if_pos hc] at h
      refine g_iload_n (pc' := 26) C dX11_why_25 3 rfl rfl ?_
      refine g_if_lt (pc' := 29) (tgt := 46) C dX11_why_26 (by decide) rfl (fun hc => ?_) (fun hc => ?_)
      · rw [if_pos hc] at h
        refine g_bipush (pc' := 48) (v := (-13)) C dX11_why_46 (by decide) rfl ?_
        refine g_goto (tgt := 52) C dX11_why_48 (by decide) ?_
        exact g_iret C hr dX11_why_52 h
      · rw [if_neg hc] at h
        refine g_iload_n (pc' := 30) C dX11_why_29 3 rfl rfl ?_
        refine g_i2l (pc' := 31) C dX11_why_30 rfl ?_
        refine g_iload (pc' := 33) C dX11_why_31 4 rfl rfl ?_
        refine g_i2l (pc' := 34) C dX11_why_33 rfl ?_
        refine g_ladd (pc' := 35) C dX11_why_34 rfl ?_
        refine g_aload_n (pc' := 36) C dX11_why_35 0 rfl rfl ?_
        refine gg_X11_53 (pc' := 39) C dX11_why_36 rfl ?_
        refine g_iload_n (pc' := 40) C dX11_why_39 1 rfl rfl ?_
        obtain ⟨h3, h⟩ := chk_some h
        refine g_iald (pc' := 41) C (o := 14) (by decide) rfl (inb_d h3) dX11_why_40 rfl ?_
        refine g_i2l (pc' := 42) C dX11_why_41 rfl ?_
        refine g_lcmp (pc' := 43) C dX11_why_42 rfl ?_
        refine g_iteI (σ := σ) (pj := 52) (lv := [(0, .ref (base + 0)), (1, .int a1), (2, .int a2), (3, .int a3), (4, .int a4)]) (st := []) (cd := (lg_cmp ((Int32.toInt64 a3) + (Int32.toInt64 a4)) (Int32.toInt64 (rA σ 14 a1))) ≤ 0) (a := 0) (b := (-13)) C ?_ (fun kt kf => ?_)
        · exact g_iret C hr dX11_why_52 h
        · refine g_if_le (pc' := 46) (tgt := 51) C dX11_why_43 (by decide) rfl (fun hc => ?_) (fun hc => ?_)
          · refine g_iconst (pc' := 52) (v := 0) C dX11_why_51 (by decide) rfl ?_
            exact kt hc
          · refine g_bipush (pc' := 48) (v := (-13)) C dX11_why_46 (by decide) rfl ?_
            refine g_goto (tgt := 52) C dX11_why_48 (by decide) ?_
            exact kf hc
    · rw [if_neg hc] at h
      refine g_bipush (pc' := 24) (v := (-12)) C dX11_why_22 (by decide) rfl ?_
      exact g_iret C hr dX11_why_24 h
  · rw [if_neg hc] at h
    refine g_bipush (pc' := 11) (v := (-11)) C dX11_why_9 (by decide) rfl ?_
    exact g_iret C hr dX11_why_11 h
theorem c_X11_why (l : Launch) (base : Nat) (D : va_G) (cA : Nat → ClassId) (σ : cr_S) (a1 : Int32) (a2 : Int32) (a3 : Int32) (a4 : Int32) (res : cr_S × Int32) (h : f_X11_why σ a1 a2 a3 a4 = some res) : cr_M l yX11_why cX11_why 5 (some .int) 0 0 sfM 17 base D cA [.ref (base + 0), .int a1, .int a2, .int a3, .int a4] σ (cr_Qi sfM 17 base D cA res) := by
  refine cr_enter [.ref (base + 0), .int a1, .int a2, .int a3, .int a4] [(0, .ref (base + 0)), (1, .int a1), (2, .int a2), (3, .int a3), (4, .int a4)] (by decide) (Nat.le_of_ble_eq_true rfl) rfl ?_
  intro p e R s m below meth c C hr hR
  exact w_X11_why C hr hR σ a1 a2 a3 a4 h
noncomputable def f_X11_judged_B136  (σ : cr_S) (x1 : Int32) (x2 : Int32) (x6 : Int32) : Option (cr_S × Int32) :=
  Option.bind (f_X11_goes σ x1 x2) (fun q15 => (if x6 = 0 then some (q15, rF q15 0 8) else (if x6 = 1 then some (q15, rF q15 0 9) else some (q15, rF q15 0 7))))
set_option maxRecDepth 100000 in
set_option maxHeartbeats 4000000 in
theorem w_X11_judged_B136 (C : cr_C p l e R s m args below meth c sfM 17 base D cA cX11_judged 11 RX11) (hr : meth.sig.returnType = some .int) (hR : 4 ≤ R.frames ∧ 97 ≤ R.locals) {res : cr_S × Int32}  (σ : cr_S) (x1 : Int32) (x2 : Int32) (x6 : Int32) (h : f_X11_judged_B136 σ x1 x2 x6 = some res) : cr_W p l e R s m args below meth c sfM 17 base D cA 11 (MQ below (cr_Qi sfM 17 base D cA res) args s 0 0 (cr_A 17 base)) σ 136 [(0, .ref (base + 0)), (1, .int x1), (2, .int x2), (6, .int x6)] [] := by
  unfold f_X11_judged_B136 at h
  refine g_aload_n (pc' := 137) C dX11_judged_136 0 rfl rfl ?_
  refine g_iload_n (pc' := 138) C dX11_judged_137 1 rfl rfl ?_
  refine g_iload_n (pc' := 139) C dX11_judged_138 2 rfl rfl ?_
  obtain ⟨q15, h16, h⟩ := bind_some h
  refine g_callVv (pc' := 142) (res := q15) C [.int x1, .int x2] cY_X11_goes rfl (o := 0) (by decide) rfl mv_X11_goes mm_X11_142 ⟨Nat.le_trans (by decide) hR.1, Nat.le_trans (by decide) hR.2⟩ rfl (Nat.le_of_ble_eq_true rfl) rfl dX11_judged_139 (c_X11_goes l base D cA σ x1 x2 q15 h16) rfl ?_
  refine g_iload (pc' := 144) C dX11_judged_142 3 rfl rfl ?_
  refine g_if_ne (pc' := 147) (tgt := 154) C dX11_judged_144 (by decide) rfl (fun hc => ?_) (fun hc => ?_)
  · rw [if_neg hc] at h
    refine g_iload (pc' := 156) C dX11_judged_154 3 rfl rfl ?_
    refine g_iconst (pc' := 157) (v := 1) C dX11_judged_156 (by decide) rfl ?_
    refine g_icmp_ne (pc' := 160) (tgt := 167) C dX11_judged_157 (by decide) rfl (fun hc => ?_) (fun hc => ?_)
    · rw [if_neg hc] at h
      refine g_aload_n (pc' := 168) C dX11_judged_167 0 rfl rfl ?_
      refine gg_X11_130 (pc' := 171) C dX11_judged_168 rfl ?_
      exact g_iret C hr dX11_judged_171 h
    · rw [if_pos hc] at h
      refine g_aload_n (pc' := 161) C dX11_judged_160 0 rfl rfl ?_
      refine gg_X11_136 (pc' := 164) C dX11_judged_161 rfl ?_
      refine g_goto (tgt := 171) C dX11_judged_164 (by decide) ?_
      exact g_iret C hr dX11_judged_171 h
  · rw [if_pos hc] at h
    refine g_aload_n (pc' := 148) C dX11_judged_147 0 rfl rfl ?_
    refine gg_X11_133 (pc' := 151) C dX11_judged_148 rfl ?_
    refine g_goto (tgt := 171) C dX11_judged_151 (by decide) ?_
    exact g_iret C hr dX11_judged_171 h
noncomputable def f_X11_judged_L71  : Nat → cr_S → Int32 → Int32 → Int32 → Int32 → Int32 → Int32 → Option (cr_S × Int32)
  | 0, _, _, _, _, _, _, _ => none
  | n + 1, σ, x1, x2, x3, x5, x6, x8 =>
    (if (rF σ 0 0) ≤ x8 then f_X11_judged_B136 σ x1 x2 x6 else chk (inb (((16 * x3) + x5) + x8) 64) (cr_let (rL σ 15 (((16 * x3) + x5) + x8)) (fun v18 => Option.bind (f_X11_low σ x1) (fun q20 => Option.bind (f_X11_high q20.1 x1) (fun q22 => Option.bind (f_X11_in q22.1 v18 (Int32.toInt64 q20.2) (Int32.toInt64 q22.2)) (fun q24 => (if q24.2 = 0 then some (q24.1, (-2)) else chk (inb x8 6) (cr_let (sA q24.1 4 x8 (Int64.toInt32 v18)) (fun s27 => cr_let (x8 + 1) (fun v29 => f_X11_judged_L71 n s27 x1 x2 x3 x5 x6 v29))))))))))
set_option maxRecDepth 100000 in
set_option maxHeartbeats 4000000 in
theorem w_X11_judged_L71 (C : cr_C p l e R s m args below meth c sfM 17 base D cA cX11_judged 11 RX11) (hr : meth.sig.returnType = some .int) (hR : 4 ≤ R.frames ∧ 97 ≤ R.locals) {res : cr_S × Int32}  : ∀ (n : Nat) (σ : cr_S) (x1 : Int32) (x2 : Int32) (x3 : Int32) (x5 : Int32) (x6 : Int32) (x8 : Int32), f_X11_judged_L71 n σ x1 x2 x3 x5 x6 x8 = some res → cr_W p l e R s m args below meth c sfM 17 base D cA 11 (MQ below (cr_Qi sfM 17 base D cA res) args s 0 0 (cr_A 17 base)) σ 71 [(0, .ref (base + 0)), (1, .int x1), (2, .int x2), (3, .int x3), (5, .int x5), (6, .int x6), (8, .int x8)] [] := by
  intro n
  induction n with
  | zero =>
    intro σ x1 x2 x3 x5 x6 x8 h
    cases h
  | succ n ih =>
    intro σ x1 x2 x3 x5 x6 x8 h
    rw [f_X11_judged_L71] at h
    refine g_iload (pc' := 73) C dX11_judged_71 6 rfl rfl ?_
    refine g_aload_n (pc' := 74) C dX11_judged_73 0 rfl rfl ?_
    refine gg_X11_63 (pc' := 77) C dX11_judged_74 rfl ?_
    refine g_icmp_ge (pc' := 80) (tgt := 136) C dX11_judged_77 (by decide) rfl (fun hc => ?_) (fun hc => ?_)
    · rw [if_pos hc] at h
      exact g_sub C [0, 1, 2, 5] rfl (w_X11_judged_B136 C hr hR _ _ _ _ h)
    · rw [if_neg hc] at h
      refine g_aload_n (pc' := 81) C dX11_judged_80 0 rfl rfl ?_
      refine gg_X11_56 (pc' := 84) C dX11_judged_81 rfl ?_
      refine g_bipush (pc' := 86) (v := 16) C dX11_judged_84 (by decide) rfl ?_
      refine g_iload_n (pc' := 87) C dX11_judged_86 3 rfl rfl ?_
      refine g_imul (pc' := 88) C dX11_judged_87 rfl ?_
      refine g_iload (pc' := 90) C dX11_judged_88 4 rfl rfl ?_
      refine g_iadd (pc' := 91) C dX11_judged_90 rfl ?_
      refine g_iload (pc' := 93) C dX11_judged_91 6 rfl rfl ?_
      refine g_iadd (pc' := 94) C dX11_judged_93 rfl ?_
      obtain ⟨h17, h⟩ := chk_some h
      refine g_lald (pc' := 95) C (o := 15) (by decide) rfl (inb_d h17) dX11_judged_94 rfl ?_
      obtain ⟨v18, e19, h⟩ := let_some h
      refine g_nameL e19 ?_
      refine g_lstore (pc' := 97) (lv' := [(9, .long v18), (0, .ref (base + 0)), (1, .int x1), (2, .int x2), (3, .int x3), (5, .int x5), (6, .int x6), (8, .int x8)]) C dX11_judged_95 (by decide) rfl rfl ?_
      refine g_lload (pc' := 99) C dX11_judged_97 0 rfl rfl ?_
      refine g_aload_n (pc' := 100) C dX11_judged_99 1 rfl rfl ?_
      refine g_iload_n (pc' := 101) C dX11_judged_100 2 rfl rfl ?_
      obtain ⟨q20, h21, h⟩ := bind_some h
      refine g_callVi (pc' := 104) (res := q20) C [.int x1] cY_X11_low rfl (o := 0) (by decide) rfl mv_X11_low mm_X11_108 ⟨Nat.le_trans (by decide) hR.1, Nat.le_trans (by decide) hR.2⟩ rfl (Nat.le_of_ble_eq_true rfl) rfl dX11_judged_101 (c_X11_low l base D cA σ x1 q20 h21) rfl ?_
      refine g_i2l (pc' := 105) C dX11_judged_104 rfl ?_
      refine g_aload_n (pc' := 106) C dX11_judged_105 1 rfl rfl ?_
      refine g_iload_n (pc' := 107) C dX11_judged_106 2 rfl rfl ?_
      obtain ⟨q22, h23, h⟩ := bind_some h
      refine g_callVi (pc' := 110) (res := q22) C [.int x1] cY_X11_high rfl (o := 0) (by decide) rfl mv_X11_high mm_X11_101 ⟨Nat.le_trans (by decide) hR.1, Nat.le_trans (by decide) hR.2⟩ rfl (Nat.le_of_ble_eq_true rfl) rfl dX11_judged_107 (c_X11_high l base D cA q20.1 x1 q22 h23) rfl ?_
      refine g_i2l (pc' := 111) C dX11_judged_110 rfl ?_
      obtain ⟨q24, h25, h⟩ := bind_some h
      refine g_callSi (pc' := 114) (res := q24) C [.long v18, .long (Int32.toInt64 q20.2), .long (Int32.toInt64 q22.2)] cY_X11_in mv_X11_in mm_X11_66 ⟨Nat.le_trans (by decide) hR.1, Nat.le_trans (by decide) hR.2⟩ rfl (Nat.le_of_ble_eq_true rfl) rfl dX11_judged_111 (c_X11_in l base D cA q22.1 v18 (Int32.toInt64 q20.2) (Int32.toInt64 q22.2) q24 h25) rfl ?_
      refine g_if_ne (pc' := 117) (tgt := 120) C dX11_judged_114 (by decide) rfl (fun hc => ?_) (fun hc => ?_)
      · rw [if_neg hc] at h
        refine g_aload_n (pc' := 121) C dX11_judged_120 1 rfl rfl ?_
        refine gg_X11_23 (pc' := 124) C dX11_judged_121 rfl ?_
        refine g_iload (pc' := 126) C dX11_judged_124 7 rfl rfl ?_
        refine g_lload (pc' := 128) C dX11_judged_126 0 rfl rfl ?_
        refine g_l2i (pc' := 129) C dX11_judged_128 rfl ?_
        obtain ⟨h26, h⟩ := chk_some h
        obtain ⟨s27, e28, h⟩ := let_some h
        refine g_iast (pc' := 130) C (o := 4) (by decide) rfl (inb_d h26) dX11_judged_129 rfl e28 ?_
        obtain ⟨v29, e30, h⟩ := let_some h
        refine g_iinc (pc' := 133) (v := v29) (lv' := [(8, .int v29), (9, .long v18), (0, .ref (base + 0)), (1, .int x1), (2, .int x2), (3, .int x3), (5, .int x5), (6, .int x6)]) C dX11_judged_130 7 rfl (by rw [e30]; rfl) (by decide) rfl rfl ?_
        refine g_goto (tgt := 71) C dX11_judged_133 (by decide) ?_
        exact g_sub C [2, 3, 4, 5, 6, 7, 0] rfl (ih _ _ _ _ _ _ _ h)
      · rw [if_pos hc] at h
        refine g_bipush (pc' := 119) (v := (-2)) C dX11_judged_117 (by decide) rfl ?_
        exact g_iret C hr dX11_judged_119 h
noncomputable def f_X11_judged (σ : cr_S) (a1 : Int32) (a2 : Int32) (a3 : Int32) (a4 : Int32) (a5 : Int32) (a6 : Int32) : Option (cr_S × Int32) :=
  Option.bind (f_X11_isShip σ a1) (fun q1 => (if q1.2 = 0 then some (q1.1, (-1)) else Option.bind (f_X11_isSecond q1.1 a2) (fun q3 => (if q3.2 = 0 then some (q3.1, (-1)) else Option.bind (f_X11_isSheet q3.1 a3) (fun q5 => (if q5.2 = 0 then some (q5.1, (-1)) else Option.bind (f_X11_isLane q5.1 a4) (fun q7 => (if q7.2 = 0 then some (q7.1, (-1)) else Option.bind (f_X11_in q7.1 (Int32.toInt64 a6) 0 2) (fun q9 => (if q9.2 = 0 then some (q9.1, (-1)) else Option.bind (f_X11_why q9.1 a3 a4 a5 (rF q9.1 0 0)) (fun q11 => cr_let q11.2 (fun v13 => (if 0 ≤ v13 then f_X11_judged_L71 cr_fuel q11.1 a1 a2 a3 a5 a6 0 else some (q11.1, v13))))))))))))))
set_option maxRecDepth 100000 in
set_option maxHeartbeats 4000000 in
theorem w_X11_judged (C : cr_C p l e R s m args below meth c sfM 17 base D cA cX11_judged 11 RX11) (hr : meth.sig.returnType = some .int) (hR : 4 ≤ R.frames ∧ 97 ≤ R.locals) {res : cr_S × Int32} (σ : cr_S) (a1 : Int32) (a2 : Int32) (a3 : Int32) (a4 : Int32) (a5 : Int32) (a6 : Int32) (h : f_X11_judged σ a1 a2 a3 a4 a5 a6 = some res) : cr_W p l e R s m args below meth c sfM 17 base D cA 11 (MQ below (cr_Qi sfM 17 base D cA res) args s 0 0 (cr_A 17 base)) σ 0 [(0, .ref (base + 0)), (1, .int a1), (2, .int a2), (3, .int a3), (4, .int a4), (5, .int a5), (6, .int a6)] [] := by
  unfold f_X11_judged at h
  refine g_aload_n (pc' := 1) C dX11_judged_0 0 rfl rfl ?_
  refine g_iload_n (pc' := 2) C dX11_judged_1 1 rfl rfl ?_
  obtain ⟨q1, h2, h⟩ := bind_some h
  refine g_callVi (pc' := 5) (res := q1) C [.int a1] cY_X11_isShip rfl (o := 0) (by decide) rfl mv_X11_isShip mm_X11_105 ⟨Nat.le_trans (by decide) hR.1, Nat.le_trans (by decide) hR.2⟩ rfl (Nat.le_of_ble_eq_true rfl) rfl dX11_judged_2 (c_X11_isShip l base D cA σ a1 q1 h2) rfl ?_
  refine g_if_eq (pc' := 8) (tgt := 43) C dX11_judged_5 (by decide) rfl (fun hc => ?_) (fun hc => ?_)
  · rw [if_pos hc] at h
    refine g_iconst (pc' := 44) (v := (-1)) C dX11_judged_43 (by decide) rfl ?_
    exact g_iret C hr dX11_judged_44 h
  · rw [if_neg hc] at h
    refine g_iload_n (pc' := 9) C dX11_judged_8 2 rfl rfl ?_
    obtain ⟨q3, h4, h⟩ := bind_some h
    refine g_callSi (pc' := 12) (res := q3) C [.int a2] cY_X11_isSecond mv_X11_isSecond mm_X11_222 ⟨Nat.le_trans (by decide) hR.1, Nat.le_trans (by decide) hR.2⟩ rfl (Nat.le_of_ble_eq_true rfl) rfl dX11_judged_9 (c_X11_isSecond l base D cA q1.1 a2 q3 h4) rfl ?_
    refine g_if_eq (pc' := 15) (tgt := 43) C dX11_judged_12 (by decide) rfl (fun hc => ?_) (fun hc => ?_)
    · rw [if_pos hc] at h
      refine g_iconst (pc' := 44) (v := (-1)) C dX11_judged_43 (by decide) rfl ?_
      exact g_iret C hr dX11_judged_44 h
    · rw [if_neg hc] at h
      refine g_iload_n (pc' := 16) C dX11_judged_15 3 rfl rfl ?_
      obtain ⟨q5, h6, h⟩ := bind_some h
      refine g_callSi (pc' := 19) (res := q5) C [.int a3] cY_X11_isSheet mv_X11_isSheet mm_X11_273 ⟨Nat.le_trans (by decide) hR.1, Nat.le_trans (by decide) hR.2⟩ rfl (Nat.le_of_ble_eq_true rfl) rfl dX11_judged_16 (c_X11_isSheet l base D cA q3.1 a3 q5 h6) rfl ?_
      refine g_if_eq (pc' := 22) (tgt := 43) C dX11_judged_19 (by decide) rfl (fun hc => ?_) (fun hc => ?_)
      · rw [if_pos hc] at h
        refine g_iconst (pc' := 44) (v := (-1)) C dX11_judged_43 (by decide) rfl ?_
        exact g_iret C hr dX11_judged_44 h
      · rw [if_neg hc] at h
        refine g_iload (pc' := 24) C dX11_judged_22 4 rfl rfl ?_
        obtain ⟨q7, h8, h⟩ := bind_some h
        refine g_callSi (pc' := 27) (res := q7) C [.int a4] cY_X11_isLane mv_X11_isLane mm_X11_276 ⟨Nat.le_trans (by decide) hR.1, Nat.le_trans (by decide) hR.2⟩ rfl (Nat.le_of_ble_eq_true rfl) rfl dX11_judged_24 (c_X11_isLane l base D cA q5.1 a4 q7 h8) rfl ?_
        refine g_if_eq (pc' := 30) (tgt := 43) C dX11_judged_27 (by decide) rfl (fun hc => ?_) (fun hc => ?_)
        · rw [if_pos hc] at h
          refine g_iconst (pc' := 44) (v := (-1)) C dX11_judged_43 (by decide) rfl ?_
          exact g_iret C hr dX11_judged_44 h
        · rw [if_neg hc] at h
          refine g_iload (pc' := 32) C dX11_judged_30 6 rfl rfl ?_
          refine g_i2l (pc' := 33) C dX11_judged_32 rfl ?_
          refine g_lconst (pc' := 34) (v := 0) C dX11_judged_33 (by decide) rfl ?_
          refine g_ldc2 (pc' := 37) (v := 2) C dX11_judged_34 ml_X11_79 rfl ?_
          obtain ⟨q9, h10, h⟩ := bind_some h
          refine g_callSi (pc' := 40) (res := q9) C [.long (Int32.toInt64 a6), .long 0, .long 2] cY_X11_in mv_X11_in mm_X11_66 ⟨Nat.le_trans (by decide) hR.1, Nat.le_trans (by decide) hR.2⟩ rfl (Nat.le_of_ble_eq_true rfl) rfl dX11_judged_37 (c_X11_in l base D cA q7.1 (Int32.toInt64 a6) 0 2 q9 h10) rfl ?_
          refine g_if_ne (pc' := 43) (tgt := 45) C dX11_judged_40 (by decide) rfl (fun hc => ?_) (fun hc => ?_)
          · rw [if_neg hc] at h
            refine g_aload_n (pc' := 46) C dX11_judged_45 0 rfl rfl ?_
            refine g_iload_n (pc' := 47) C dX11_judged_46 3 rfl rfl ?_
            refine g_iload (pc' := 49) C dX11_judged_47 4 rfl rfl ?_
            refine g_iload (pc' := 51) C dX11_judged_49 5 rfl rfl ?_
            refine g_aload_n (pc' := 52) C dX11_judged_51 0 rfl rfl ?_
            refine gg_X11_63 (pc' := 55) C dX11_judged_52 rfl ?_
            obtain ⟨q11, h12, h⟩ := bind_some h
            refine g_callVi (pc' := 58) (res := q11) C [.int a3, .int a4, .int a5, .int (rF q9.1 0 0)] cY_X11_why rfl (o := 0) (by decide) rfl mv_X11_why mm_X11_279 ⟨Nat.le_trans (by decide) hR.1, Nat.le_trans (by decide) hR.2⟩ rfl (Nat.le_of_ble_eq_true rfl) rfl dX11_judged_55 (c_X11_why l base D cA q9.1 a3 a4 a5 (rF q9.1 0 0) q11 h12) rfl ?_
            obtain ⟨v13, e14, h⟩ := let_some h
            refine g_nameI e14 ?_
            refine g_istore (pc' := 60) (lv' := [(7, .int v13), (0, .ref (base + 0)), (1, .int a1), (2, .int a2), (3, .int a3), (4, .int a4), (5, .int a5), (6, .int a6)]) C dX11_judged_58 (by decide) rfl rfl ?_
            refine g_iload (pc' := 62) C dX11_judged_60 0 rfl rfl ?_
            refine g_if_ge (pc' := 65) (tgt := 68) C dX11_judged_62 (by decide) rfl (fun hc => ?_) (fun hc => ?_)
            · rw [if_pos hc] at h
              refine g_iconst (pc' := 69) (v := 0) C dX11_judged_68 (by decide) rfl ?_
              refine g_istore (pc' := 71) (lv' := [(8, .int 0), (7, .int v13), (0, .ref (base + 0)), (1, .int a1), (2, .int a2), (3, .int a3), (4, .int a4), (5, .int a5), (6, .int a6)]) C dX11_judged_69 (by decide) rfl rfl ?_
              exact g_sub C [2, 3, 4, 5, 7, 8, 0] rfl (w_X11_judged_L71 C hr hR _ _ _ _ _ _ _ _ h)
            · rw [if_neg hc] at h
              refine g_iload (pc' := 67) C dX11_judged_65 0 rfl rfl ?_
              exact g_iret C hr dX11_judged_67 h
          · rw [if_pos hc] at h
            refine g_iconst (pc' := 44) (v := (-1)) C dX11_judged_43 (by decide) rfl ?_
            exact g_iret C hr dX11_judged_44 h
theorem c_X11_judged (l : Launch) (base : Nat) (D : va_G) (cA : Nat → ClassId) (σ : cr_S) (a1 : Int32) (a2 : Int32) (a3 : Int32) (a4 : Int32) (a5 : Int32) (a6 : Int32) (res : cr_S × Int32) (h : f_X11_judged σ a1 a2 a3 a4 a5 a6 = some res) : cr_M l yX11_judged cX11_judged 11 (some .int) 4 97 sfM 17 base D cA [.ref (base + 0), .int a1, .int a2, .int a3, .int a4, .int a5, .int a6] σ (cr_Qi sfM 17 base D cA res) := by
  refine cr_enter [.ref (base + 0), .int a1, .int a2, .int a3, .int a4, .int a5, .int a6] [(0, .ref (base + 0)), (1, .int a1), (2, .int a2), (3, .int a3), (4, .int a4), (5, .int a5), (6, .int a6)] (by decide) (Nat.le_of_ble_eq_true rfl) rfl ?_
  intro p e R s m below meth c C hr hR
  exact w_X11_judged C hr hR σ a1 a2 a3 a4 a5 a6 h
noncomputable def f_X11_puts_B56  (σ : cr_S) (t0 : Int64) (t1 : Int32) : Option (cr_S) :=
  chk (inb t1 64) (cr_let (sL σ 15 t1 t0) (fun s5 => some s5))
set_option maxRecDepth 100000 in
set_option maxHeartbeats 4000000 in
theorem w_X11_puts_B56 (C : cr_C p l e R s m args below meth c sfM 17 base D cA cX11_puts 6 RX11) (hr : meth.sig.returnType = none) (hR : 0 ≤ R.frames ∧ 0 ≤ R.locals) {res : cr_S}  (σ : cr_S) (t0 : Int64) (t1 : Int32) (h : f_X11_puts_B56 σ t0 t1 = some res) : cr_W p l e R s m args below meth c sfM 17 base D cA 6 (MQ below (cr_Qv sfM 17 base D cA res) args s 0 0 (cr_A 17 base)) σ 56 [] [.long t0, .int t1, .ref (base + 15)] := by
  unfold f_X11_puts_B56 at h
  obtain ⟨h4, h⟩ := chk_some h
  obtain ⟨s5, e6, h⟩ := let_some h
  refine g_last (pc' := 57) C (o := 15) (by decide) rfl (inb_d h4) dX11_puts_56 rfl e6 ?_
  exact g_vret C hr dX11_puts_57 h
noncomputable def f_X11_puts (σ : cr_S) (a1 : Int32) (a2 : Int32) (a3 : Int64) : Option (cr_S) :=
  chk (inb a1 4) (cr_let (rA σ 13 a1) (fun v2 => (if v2 = 0 then f_X11_puts_B56 σ (Int32.toInt64 ((Int32.toInt8 (Int64.toInt32 a3)).toInt32)) ((16 * a1) + a2) else (if v2 = 1 then f_X11_puts_B56 σ (Int32.toInt64 ((Int32.toInt16 (Int64.toInt32 a3)).toInt32)) ((16 * a1) + a2) else (if v2 = 2 then f_X11_puts_B56 σ (Int32.toInt64 (Int64.toInt32 a3)) ((16 * a1) + a2) else f_X11_puts_B56 σ a3 ((16 * a1) + a2))))))
set_option maxRecDepth 100000 in
set_option maxHeartbeats 4000000 in
theorem w_X11_puts (C : cr_C p l e R s m args below meth c sfM 17 base D cA cX11_puts 6 RX11) (hr : meth.sig.returnType = none) (hR : 0 ≤ R.frames ∧ 0 ≤ R.locals) {res : cr_S} (σ : cr_S) (a1 : Int32) (a2 : Int32) (a3 : Int64) (h : f_X11_puts σ a1 a2 a3 = some res) : cr_W p l e R s m args below meth c sfM 17 base D cA 6 (MQ below (cr_Qv sfM 17 base D cA res) args s 0 0 (cr_A 17 base)) σ 0 [(0, .ref (base + 0)), (1, .int a1), (2, .int a2), (3, .long a3)] [] := by
  unfold f_X11_puts at h
  refine g_aload_n (pc' := 1) C dX11_puts_0 0 rfl rfl ?_
  refine gg_X11_50 (pc' := 4) C dX11_puts_1 rfl ?_
  refine g_iload_n (pc' := 5) C dX11_puts_4 1 rfl rfl ?_
  obtain ⟨h1, h⟩ := chk_some h
  refine g_iald (pc' := 6) C (o := 13) (by decide) rfl (inb_d h1) dX11_puts_5 rfl ?_
  obtain ⟨v2, e3, h⟩ := let_some h
  refine g_nameI e3 ?_
  refine g_istore (pc' := 8) (lv' := [(5, .int v2), (0, .ref (base + 0)), (1, .int a1), (2, .int a2), (3, .long a3)]) C dX11_puts_6 (by decide) rfl rfl ?_
  refine g_aload_n (pc' := 9) C dX11_puts_8 1 rfl rfl ?_
  refine gg_X11_56 (pc' := 12) C dX11_puts_9 rfl ?_
  refine g_bipush (pc' := 14) (v := 16) C dX11_puts_12 (by decide) rfl ?_
  refine g_iload_n (pc' := 15) C dX11_puts_14 2 rfl rfl ?_
  refine g_imul (pc' := 16) C dX11_puts_15 rfl ?_
  refine g_iload_n (pc' := 17) C dX11_puts_16 3 rfl rfl ?_
  refine g_iadd (pc' := 18) C dX11_puts_17 rfl ?_
  refine g_iload (pc' := 20) C dX11_puts_18 0 rfl rfl ?_
  refine g_if_ne (pc' := 23) (tgt := 30) C dX11_puts_20 (by decide) rfl (fun hc => ?_) (fun hc => ?_)
  · rw [if_neg hc] at h
    refine g_iload (pc' := 32) C dX11_puts_30 0 rfl rfl ?_
    refine g_iconst (pc' := 33) (v := 1) C dX11_puts_32 (by decide) rfl ?_
    refine g_icmp_ne (pc' := 36) (tgt := 43) C dX11_puts_33 (by decide) rfl (fun hc => ?_) (fun hc => ?_)
    · rw [if_neg hc] at h
      refine g_iload (pc' := 45) C dX11_puts_43 0 rfl rfl ?_
      refine g_iconst (pc' := 46) (v := 2) C dX11_puts_45 (by decide) rfl ?_
      refine g_icmp_ne (pc' := 49) (tgt := 55) C dX11_puts_46 (by decide) rfl (fun hc => ?_) (fun hc => ?_)
      · rw [if_neg hc] at h
        refine g_lload_n (pc' := 56) C dX11_puts_55 4 rfl rfl ?_
        exact g_sub C [] rfl (w_X11_puts_B56 C hr hR _ _ _ h)
      · rw [if_pos hc] at h
        refine g_lload_n (pc' := 50) C dX11_puts_49 4 rfl rfl ?_
        refine g_l2i (pc' := 51) C dX11_puts_50 rfl ?_
        refine g_i2l (pc' := 52) C dX11_puts_51 rfl ?_
        refine g_goto (tgt := 56) C dX11_puts_52 (by decide) ?_
        exact g_sub C [] rfl (w_X11_puts_B56 C hr hR _ _ _ h)
    · rw [if_pos hc] at h
      refine g_lload_n (pc' := 37) C dX11_puts_36 4 rfl rfl ?_
      refine g_l2i (pc' := 38) C dX11_puts_37 rfl ?_
      refine g_i2s (pc' := 39) C dX11_puts_38 rfl ?_
      refine g_i2l (pc' := 40) C dX11_puts_39 rfl ?_
      refine g_goto (tgt := 56) C dX11_puts_40 (by decide) ?_
      exact g_sub C [] rfl (w_X11_puts_B56 C hr hR _ _ _ h)
  · rw [if_pos hc] at h
    refine g_lload_n (pc' := 24) C dX11_puts_23 4 rfl rfl ?_
    refine g_l2i (pc' := 25) C dX11_puts_24 rfl ?_
    refine g_i2b (pc' := 26) C dX11_puts_25 rfl ?_
    refine g_i2l (pc' := 27) C dX11_puts_26 rfl ?_
    refine g_goto (tgt := 56) C dX11_puts_27 (by decide) ?_
    exact g_sub C [] rfl (w_X11_puts_B56 C hr hR _ _ _ h)
theorem c_X11_puts (l : Launch) (base : Nat) (D : va_G) (cA : Nat → ClassId) (σ : cr_S) (a1 : Int32) (a2 : Int32) (a3 : Int64) (res : cr_S) (h : f_X11_puts σ a1 a2 a3 = some res) : cr_M l yX11_puts cX11_puts 6 none 0 0 sfM 17 base D cA [.ref (base + 0), .int a1, .int a2, .long a3] σ (cr_Qv sfM 17 base D cA res) := by
  refine cr_enter [.ref (base + 0), .int a1, .int a2, .long a3] [(0, .ref (base + 0)), (1, .int a1), (2, .int a2), (3, .long a3)] (by decide) (Nat.le_of_ble_eq_true rfl) rfl ?_
  intro p e R s m below meth c C hr hR
  exact w_X11_puts C hr hR σ a1 a2 a3 h
end

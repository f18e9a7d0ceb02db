section
variable {p : Program} {l : Launch} {e : Env} {R : Room} {s : State} {m : MethodId} {args : Array Value} {below : List Frame} {meth : Method} {c : Code} {base : Nat} {D : va_G} {cA : Nat → ClassId}
noncomputable def f_X11_look (σ : cr_S) (a1 : Int32) (a2 : Int32) : Option (cr_S × Int32) :=
  Option.bind (f_X11_isSecond σ a1) (fun q1 => (if q1.2 = 0 then some (q1.1, (-1)) else Option.bind (f_X11_in q1.1 (Int32.toInt64 a2) 0 1) (fun q3 => (if q3.2 = 0 then some (q3.1, (-1)) else (if (rF q3.1 0 22) = 12 then some (q3.1, (-3)) else chk (inb (rF q3.1 0 22) 12) (cr_let (sA q3.1 10 (rF q3.1 0 22) a1) (fun s6 => chk (inb (rF s6 0 22) 12) (cr_let (sA s6 11 (rF s6 0 22) a2) (fun s9 => cr_let (sF s9 0 22 ((rF s9 0 22) + 1)) (fun s11 => some (s11, rF s11 0 22)))))))))))
set_option maxRecDepth 100000 in
set_option maxHeartbeats 4000000 in
theorem w_X11_look (C : cr_C p l e R s m args below meth c sfM 17 base D cA cX11_look 3 RX11) (hr : meth.sig.returnType = some .int) (hR : 2 ≤ R.frames ∧ 45 ≤ R.locals) {res : cr_S × Int32} (σ : cr_S) (a1 : Int32) (a2 : Int32) (h : f_X11_look σ a1 a2 = some res) : cr_W p l e R s m args below meth c sfM 17 base D cA 3 (MQ below (cr_Qi sfM 17 base D cA res) args s 0 0 (cr_A 17 base)) σ 0 [(0, .ref (base + 0)), (1, .int a1), (2, .int a2)] [] := by
  unfold f_X11_look at h
  refine g_iload_n (pc' := 1) C dX11_look_0 1 rfl rfl ?_
  obtain ⟨q1, h2, h⟩ := bind_some h
  refine g_callSi (pc' := 4) (res := q1) C [.int a1] cY_X11_isSecond mv_X11_isSecond mm_X11_222 ⟨Nat.le_trans (by decide) hR.1, Nat.le_trans (by decide) hR.2⟩ rfl (Nat.le_of_ble_eq_true rfl) rfl dX11_look_1 (c_X11_isSecond l base D cA σ a1 q1 h2) rfl ?_
  refine g_if_eq (pc' := 7) (tgt := 17) C dX11_look_4 (by decide) rfl (fun hc => ?_) (fun hc => ?_)
  · rw [if_pos hc] at h
    refine g_iconst (pc' := 18) (v := (-1)) C dX11_look_17 (by decide) rfl ?_
    exact g_iret C hr dX11_look_18 h
  · rw [if_neg hc] at h
    refine g_iload_n (pc' := 8) C dX11_look_7 2 rfl rfl ?_
    refine g_i2l (pc' := 9) C dX11_look_8 rfl ?_
    refine g_lconst (pc' := 10) (v := 0) C dX11_look_9 (by decide) rfl ?_
    refine g_lconst (pc' := 11) (v := 1) C dX11_look_10 (by decide) rfl ?_
    obtain ⟨q3, h4, h⟩ := bind_some h
    refine g_callSi (pc' := 14) (res := q3) C [.long (Int32.toInt64 a2), .long 0, .long 1] cY_X11_in mv_X11_in mm_X11_66 ⟨Nat.le_trans (by decide) hR.1, Nat.le_trans (by decide) hR.2⟩ rfl (Nat.le_of_ble_eq_true rfl) rfl dX11_look_11 (c_X11_in l base D cA q1.1 (Int32.toInt64 a2) 0 1 q3 h4) rfl ?_
    refine g_if_ne (pc' := 17) (tgt := 19) C dX11_look_14 (by decide) rfl (fun hc => ?_) (fun hc => ?_)
    · rw [if_neg hc] at h
      refine g_aload_n (pc' := 20) C dX11_look_19 0 rfl rfl ?_
      refine gg_X11_200 (pc' := 23) C dX11_look_20 rfl ?_
      refine g_bipush (pc' := 25) (v := 12) C dX11_look_23 (by decide) rfl ?_
      refine g_icmp_ne (pc' := 28) (tgt := 31) C dX11_look_25 (by decide) rfl (fun hc => ?_) (fun hc => ?_)
      · rw [if_neg hc] at h
        refine g_aload_n (pc' := 32) C dX11_look_31 0 rfl rfl ?_
        refine gg_X11_41 (pc' := 35) C dX11_look_32 rfl ?_
        refine g_aload_n (pc' := 36) C dX11_look_35 0 rfl rfl ?_
        refine gg_X11_200 (pc' := 39) C dX11_look_36 rfl ?_
        refine g_iload_n (pc' := 40) C dX11_look_39 1 rfl rfl ?_
        obtain ⟨h5, h⟩ := chk_some h
        obtain ⟨s6, e7, h⟩ := let_some h
        refine g_iast (pc' := 41) C (o := 10) (by decide) rfl (inb_d h5) dX11_look_40 rfl e7 ?_
        refine g_aload_n (pc' := 42) C dX11_look_41 0 rfl rfl ?_
        refine gg_X11_44 (pc' := 45) C dX11_look_42 rfl ?_
        refine g_aload_n (pc' := 46) C dX11_look_45 0 rfl rfl ?_
        refine gg_X11_200 (pc' := 49) C dX11_look_46 rfl ?_
        refine g_iload_n (pc' := 50) C dX11_look_49 2 rfl rfl ?_
        obtain ⟨h8, h⟩ := chk_some h
        obtain ⟨s9, e10, h⟩ := let_some h
        refine g_iast (pc' := 51) C (o := 11) (by decide) rfl (inb_d h8) dX11_look_50 rfl e10 ?_
        refine g_aload_n (pc' := 52) C dX11_look_51 0 rfl rfl ?_
        refine g_dup (pc' := 53) C dX11_look_52 rfl rfl ?_
        refine gg_X11_200 (pc' := 56) C dX11_look_53 rfl ?_
        refine g_iconst (pc' := 57) (v := 1) C dX11_look_56 (by decide) rfl ?_
        refine g_iadd (pc' := 58) C dX11_look_57 rfl ?_
        obtain ⟨s11, e12, h⟩ := let_some h
        refine gp_X11_200 (pc' := 61) C dX11_look_58 rfl e12 ?_
        refine g_aload_n (pc' := 62) C dX11_look_61 0 rfl rfl ?_
        refine gg_X11_200 (pc' := 65) C dX11_look_62 rfl ?_
        exact g_iret C hr dX11_look_65 h
      · rw [if_pos hc] at h
        refine g_bipush (pc' := 30) (v := (-3)) C dX11_look_28 (by decide) rfl ?_
        exact g_iret C hr dX11_look_30 h
    · rw [if_pos hc] at h
      refine g_iconst (pc' := 18) (v := (-1)) C dX11_look_17 (by decide) rfl ?_
      exact g_iret C hr dX11_look_18 h
theorem c_X11_look (l : Launch) (base : Nat) (D : va_G) (cA : Nat → ClassId) (σ : cr_S) (a1 : Int32) (a2 : Int32) (res : cr_S × Int32) (h : f_X11_look σ a1 a2 = some res) : cr_M l yX11_look cX11_look 3 (some .int) 2 45 sfM 17 base D cA [.ref (base + 0), .int a1, .int a2] σ (cr_Qi sfM 17 base D cA res) := by
  refine cr_enter [.ref (base + 0), .int a1, .int a2] [(0, .ref (base + 0)), (1, .int a1), (2, .int a2)] (by decide) (Nat.le_of_ble_eq_true rfl) rfl ?_
  intro p e R s m below meth c C hr hR
  exact w_X11_look C hr hR σ a1 a2 h
noncomputable def f_X11_forget (σ : cr_S) : Option (cr_S × Int32) :=
  cr_let (rF σ 0 22) (fun v1 => cr_let (sF σ 0 22 0) (fun s3 => some (s3, v1)))
set_option maxRecDepth 100000 in
set_option maxHeartbeats 4000000 in
theorem w_X11_forget (C : cr_C p l e R s m args below meth c sfM 17 base D cA cX11_forget 2 RX11) (hr : meth.sig.returnType = some .int) (hR : 0 ≤ R.frames ∧ 0 ≤ R.locals) {res : cr_S × Int32} (σ : cr_S) (h : f_X11_forget σ = some res) : cr_W p l e R s m args below meth c sfM 17 base D cA 2 (MQ below (cr_Qi sfM 17 base D cA res) args s 0 0 (cr_A 17 base)) σ 0 [(0, .ref (base + 0))] [] := by
  unfold f_X11_forget at h
  refine g_aload_n (pc' := 1) C dX11_forget_0 0 rfl rfl ?_
  refine gg_X11_200 (pc' := 4) C dX11_forget_1 rfl ?_
  obtain ⟨v1, e2, h⟩ := let_some h
  refine g_nameI e2 ?_
  refine g_istore_n (pc' := 5) (lv' := [(1, .int v1), (0, .ref (base + 0))]) C dX11_forget_4 rfl (by decide) rfl rfl ?_
  refine g_aload_n (pc' := 6) C dX11_forget_5 1 rfl rfl ?_
  refine g_iconst (pc' := 7) (v := 0) C dX11_forget_6 (by decide) rfl ?_
  obtain ⟨s3, e4, h⟩ := let_some h
  refine gp_X11_200 (pc' := 10) C dX11_forget_7 rfl e4 ?_
  refine g_iload_n (pc' := 11) C dX11_forget_10 0 rfl rfl ?_
  exact g_iret C hr dX11_forget_11 h
theorem c_X11_forget (l : Launch) (base : Nat) (D : va_G) (cA : Nat → ClassId) (σ : cr_S) (res : cr_S × Int32) (h : f_X11_forget σ = some res) : cr_M l yX11_forget cX11_forget 2 (some .int) 0 0 sfM 17 base D cA [.ref (base + 0)] σ (cr_Qi sfM 17 base D cA res) := by
  refine cr_enter [.ref (base + 0)] [(0, .ref (base + 0))] (by decide) (Nat.le_of_ble_eq_true rfl) rfl ?_
  intro p e R s m below meth c C hr hR
  exact w_X11_forget C hr hR σ h
noncomputable def f_X11_isSo (σ : cr_S) (a0 : Int32) (a1 : Int32) (a2 : Int32) (a3 : Int32) : Option (cr_S × Int32) :=
  chk (¬ a1 = 0) (some (σ, if a2 ≤ ((a0 + a3) - (a0 + a3) / a1 * a1) then 0 else 1))
set_option maxRecDepth 100000 in
set_option maxHeartbeats 4000000 in
theorem w_X11_isSo (C : cr_C p l e R s m args below meth c sfM 17 base D cA cX11_isSo 4 RX11) (hr : meth.sig.returnType = some .int) (hR : 0 ≤ R.frames ∧ 0 ≤ R.locals) {res : cr_S × Int32} (σ : cr_S) (a0 : Int32) (a1 : Int32) (a2 : Int32) (a3 : Int32) (h : f_X11_isSo σ a0 a1 a2 a3 = some res) : cr_W p l e R s m args below meth c sfM 17 base D cA 4 (MQ below (cr_Qi sfM 17 base D cA res) args s 0 0 (cr_A 17 base)) σ 0 [(0, .int a0), (1, .int a1), (2, .int a2), (3, .int a3)] [] := by
  unfold f_X11_isSo at h
  refine g_iload_n (pc' := 1) C dX11_isSo_0 0 rfl rfl ?_
  refine g_iload_n (pc' := 2) C dX11_isSo_1 3 rfl rfl ?_
  refine g_iadd (pc' := 3) C dX11_isSo_2 rfl ?_
  refine g_iload_n (pc' := 4) C dX11_isSo_3 1 rfl rfl ?_
  obtain ⟨h1, h⟩ := chk_some h
  refine g_irem (pc' := 5) C dX11_isSo_4 h1 rfl ?_
  refine g_iload_n (pc' := 6) C dX11_isSo_5 2 rfl rfl ?_
  refine g_iteI (σ := σ) (pj := 14) (lv := [(0, .int a0), (1, .int a1), (2, .int a2), (3, .int a3)]) (st := []) (cd := a2 ≤ ((a0 + a3) - (a0 + a3) / a1 * a1)) (a := 0) (b := 1) C ?_ (fun kt kf => ?_)
  · exact g_iret C hr dX11_isSo_14 h
  · refine g_icmp_ge (pc' := 9) (tgt := 13) C dX11_isSo_6 (by decide) rfl (fun hc => ?_) (fun hc => ?_)
    · refine g_iconst (pc' := 14) (v := 0) C dX11_isSo_13 (by decide) rfl ?_
      exact kt hc
    · refine g_iconst (pc' := 10) (v := 1) C dX11_isSo_9 (by decide) rfl ?_
      refine g_goto (tgt := 14) C dX11_isSo_10 (by decide) ?_
      exact kf hc
theorem c_X11_isSo (l : Launch) (base : Nat) (D : va_G) (cA : Nat → ClassId) (σ : cr_S) (a0 : Int32) (a1 : Int32) (a2 : Int32) (a3 : Int32) (res : cr_S × Int32) (h : f_X11_isSo σ a0 a1 a2 a3 = some res) : cr_M l yX11_isSo cX11_isSo 4 (some .int) 0 0 sfM 17 base D cA [.int a0, .int a1, .int a2, .int a3] σ (cr_Qi sfM 17 base D cA res) := by
  refine cr_enter [.int a0, .int a1, .int a2, .int a3] [(0, .int a0), (1, .int a1), (2, .int a2), (3, .int a3)] (by decide) (Nat.le_of_ble_eq_true rfl) rfl ?_
  intro p e R s m below meth c C hr hR
  exact w_X11_isSo C hr hR σ a0 a1 a2 a3 h
noncomputable def f_X11_fit_B190 (r18 : cr_S → Int32 → Int32 → Option (cr_S)) (σ : cr_S) (x1 : Int32) (x2 : Int32) : Option (cr_S) :=
  cr_let (x2 + 1) (fun v7 => r18 σ x1 v7)
set_option maxRecDepth 100000 in
set_option maxHeartbeats 4000000 in
theorem w_X11_fit_B190 (C : cr_C p l e R s m args below meth c sfM 17 base D cA cX11_fit 7 RX11) (hr : meth.sig.returnType = none) (hR : 1 ≤ R.frames ∧ 23 ≤ R.locals) {res : cr_S} (r18 : cr_S → Int32 → Int32 → Option (cr_S)) (hr18 : ∀ (σ : cr_S) (x1 : Int32) (x2 : Int32), r18 σ x1 x2 = some res → cr_W p l e R s m args below meth c sfM 17 base D cA 7 (MQ below (cr_Qv sfM 17 base D cA res) args s 0 0 (cr_A 17 base)) σ 18 [(0, .ref (base + 0)), (1, .int x1), (2, .int x2)] []) (σ : cr_S) (x1 : Int32) (x2 : Int32) (h : f_X11_fit_B190 r18 σ x1 x2 = some res) : cr_W p l e R s m args below meth c sfM 17 base D cA 7 (MQ below (cr_Qv sfM 17 base D cA res) args s 0 0 (cr_A 17 base)) σ 190 [(0, .ref (base + 0)), (1, .int x1), (2, .int x2)] [] := by
  unfold f_X11_fit_B190 at h
  obtain ⟨v7, e8, h⟩ := let_some h
  refine g_iinc (pc' := 193) (v := v7) (lv' := [(2, .int v7), (0, .ref (base + 0)), (1, .int x1)]) C dX11_fit_190 2 rfl (by rw [e8]; rfl) (by decide) rfl rfl ?_
  refine g_goto (tgt := 18) C dX11_fit_193 (by decide) ?_
  exact g_sub C [1, 2, 0] rfl (hr18 _ _ _ h)
noncomputable def f_X11_fit_B184 (r18 : cr_S → Int32 → Int32 → Option (cr_S)) (r26 : cr_S → Int32 → Int32 → Int32 → Option (cr_S)) (σ : cr_S) (x1 : Int32) (x2 : Int32) (x3 : Int32) : Option (cr_S) :=
  cr_let (x3 + 1) (fun v9 => r26 σ x1 x2 v9)
set_option maxRecDepth 100000 in
set_option maxHeartbeats 4000000 in
theorem w_X11_fit_B184 (C : cr_C p l e R s m args below meth c sfM 17 base D cA cX11_fit 7 RX11) (hr : meth.sig.returnType = none) (hR : 1 ≤ R.frames ∧ 23 ≤ R.locals) {res : cr_S} (r18 : cr_S → Int32 → Int32 → Option (cr_S)) (r26 : cr_S → Int32 → Int32 → Int32 → Option (cr_S)) (hr18 : ∀ (σ : cr_S) (x1 : Int32) (x2 : Int32), r18 σ x1 x2 = some res → cr_W p l e R s m args below meth c sfM 17 base D cA 7 (MQ below (cr_Qv sfM 17 base D cA res) args s 0 0 (cr_A 17 base)) σ 18 [(0, .ref (base + 0)), (1, .int x1), (2, .int x2)] []) (hr26 : ∀ (σ : cr_S) (x1 : Int32) (x2 : Int32) (x3 : Int32), r26 σ x1 x2 x3 = some res → cr_W p l e R s m args below meth c sfM 17 base D cA 7 (MQ below (cr_Qv sfM 17 base D cA res) args s 0 0 (cr_A 17 base)) σ 26 [(0, .ref (base + 0)), (1, .int x1), (2, .int x2), (3, .int x3)] []) (σ : cr_S) (x1 : Int32) (x2 : Int32) (x3 : Int32) (h : f_X11_fit_B184 r18 r26 σ x1 x2 x3 = some res) : cr_W p l e R s m args below meth c sfM 17 base D cA 7 (MQ below (cr_Qv sfM 17 base D cA res) args s 0 0 (cr_A 17 base)) σ 184 [(0, .ref (base + 0)), (1, .int x1), (2, .int x2), (3, .int x3)] [] := by
  unfold f_X11_fit_B184 at h
  obtain ⟨v9, e10, h⟩ := let_some h
  refine g_iinc (pc' := 187) (v := v9) (lv' := [(3, .int v9), (0, .ref (base + 0)), (1, .int x1), (2, .int x2)]) C dX11_fit_184 3 rfl (by rw [e10]; rfl) (by decide) rfl rfl ?_
  refine g_goto (tgt := 26) C dX11_fit_187 (by decide) ?_
  exact g_sub C [1, 2, 3, 0] rfl (hr26 _ _ _ _ h)
noncomputable def f_X11_fit_B174 (r18 : cr_S → Int32 → Int32 → Option (cr_S)) (r26 : cr_S → Int32 → Int32 → Int32 → Option (cr_S)) (r34 : cr_S → Int32 → Int32 → Int32 → Int32 → Option (cr_S)) (σ : cr_S) (x1 : Int32) (x2 : Int32) (x3 : Int32) (x4 : Int32) (t0 : Int32) (t1 : Int32) : Option (cr_S) :=
  cr_let (sF σ 0 27 (t1 + t0)) (fun s15 => cr_let (x4 + 1) (fun v17 => r34 s15 x1 x2 x3 v17))
set_option maxRecDepth 100000 in
set_option maxHeartbeats 4000000 in
theorem w_X11_fit_B174 (C : cr_C p l e R s m args below meth c sfM 17 base D cA cX11_fit 7 RX11) (hr : meth.sig.returnType = none) (hR : 1 ≤ R.frames ∧ 23 ≤ R.locals) {res : cr_S} (r18 : cr_S → Int32 → Int32 → Option (cr_S)) (r26 : cr_S → Int32 → Int32 → Int32 → Option (cr_S)) (r34 : cr_S → Int32 → Int32 → Int32 → Int32 → Option (cr_S)) (hr18 : ∀ (σ : cr_S) (x1 : Int32) (x2 : Int32), r18 σ x1 x2 = some res → cr_W p l e R s m args below meth c sfM 17 base D cA 7 (MQ below (cr_Qv sfM 17 base D cA res) args s 0 0 (cr_A 17 base)) σ 18 [(0, .ref (base + 0)), (1, .int x1), (2, .int x2)] []) (hr26 : ∀ (σ : cr_S) (x1 : Int32) (x2 : Int32) (x3 : Int32), r26 σ x1 x2 x3 = some res → cr_W p l e R s m args below meth c sfM 17 base D cA 7 (MQ below (cr_Qv sfM 17 base D cA res) args s 0 0 (cr_A 17 base)) σ 26 [(0, .ref (base + 0)), (1, .int x1), (2, .int x2), (3, .int x3)] []) (hr34 : ∀ (σ : cr_S) (x1 : Int32) (x2 : Int32) (x3 : Int32) (x4 : Int32), r34 σ x1 x2 x3 x4 = some res → cr_W p l e R s m args below meth c sfM 17 base D cA 7 (MQ below (cr_Qv sfM 17 base D cA res) args s 0 0 (cr_A 17 base)) σ 34 [(0, .ref (base + 0)), (1, .int x1), (2, .int x2), (3, .int x3), (4, .int x4)] []) (σ : cr_S) (x1 : Int32) (x2 : Int32) (x3 : Int32) (x4 : Int32) (t0 : Int32) (t1 : Int32) (h : f_X11_fit_B174 r18 r26 r34 σ x1 x2 x3 x4 t0 t1 = some res) : cr_W p l e R s m args below meth c sfM 17 base D cA 7 (MQ below (cr_Qv sfM 17 base D cA res) args s 0 0 (cr_A 17 base)) σ 174 [(0, .ref (base + 0)), (1, .int x1), (2, .int x2), (3, .int x3), (4, .int x4)] [.int t0, .int t1, .ref (base + 0)] := by
  unfold f_X11_fit_B174 at h
  refine g_iadd (pc' := 175) C dX11_fit_174 rfl ?_
  obtain ⟨s15, e16, h⟩ := let_some h
  refine gp_X11_253 (pc' := 178) C dX11_fit_175 rfl e16 ?_
  obtain ⟨v17, e18, h⟩ := let_some h
  refine g_iinc (pc' := 181) (v := v17) (lv' := [(4, .int v17), (0, .ref (base + 0)), (1, .int x1), (2, .int x2), (3, .int x3)]) C dX11_fit_178 4 rfl (by rw [e18]; rfl) (by decide) rfl rfl ?_
  refine g_goto (tgt := 34) C dX11_fit_181 (by decide) ?_
  exact g_sub C [1, 2, 3, 4, 0] rfl (hr34 _ _ _ _ _ h)
noncomputable def f_X11_fit_B148 (r18 : cr_S → Int32 → Int32 → Option (cr_S)) (r26 : cr_S → Int32 → Int32 → Int32 → Option (cr_S)) (r34 : cr_S → Int32 → Int32 → Int32 → Int32 → Option (cr_S)) (σ : cr_S) (x1 : Int32) (x2 : Int32) (x3 : Int32) (x4 : Int32) (x5 : Int32) (t0 : Int32) (t1 : Int32) : Option (cr_S) :=
  cr_let (sF σ 0 25 (t1 + t0)) (fun s13 => (if x5 = 0 then f_X11_fit_B174 r18 r26 r34 s13 x1 x2 x3 x4 0 (rF s13 0 27) else Option.bind (f_X11_isSo s13 x1 x2 x3 x4) (fun q19 => f_X11_fit_B174 r18 r26 r34 q19.1 x1 x2 x3 x4 q19.2 (rF s13 0 27))))
set_option maxRecDepth 100000 in
set_option maxHeartbeats 4000000 in
theorem w_X11_fit_B148 (C : cr_C p l e R s m args below meth c sfM 17 base D cA cX11_fit 7 RX11) (hr : meth.sig.returnType = none) (hR : 1 ≤ R.frames ∧ 23 ≤ R.locals) {res : cr_S} (r18 : cr_S → Int32 → Int32 → Option (cr_S)) (r26 : cr_S → Int32 → Int32 → Int32 → Option (cr_S)) (r34 : cr_S → Int32 → Int32 → Int32 → Int32 → Option (cr_S)) (hr18 : ∀ (σ : cr_S) (x1 : Int32) (x2 : Int32), r18 σ x1 x2 = some res → cr_W p l e R s m args below meth c sfM 17 base D cA 7 (MQ below (cr_Qv sfM 17 base D cA res) args s 0 0 (cr_A 17 base)) σ 18 [(0, .ref (base + 0)), (1, .int x1), (2, .int x2)] []) (hr26 : ∀ (σ : cr_S) (x1 : Int32) (x2 : Int32) (x3 : Int32), r26 σ x1 x2 x3 = some res → cr_W p l e R s m args below meth c sfM 17 base D cA 7 (MQ below (cr_Qv sfM 17 base D cA res) args s 0 0 (cr_A 17 base)) σ 26 [(0, .ref (base + 0)), (1, .int x1), (2, .int x2), (3, .int x3)] []) (hr34 : ∀ (σ : cr_S) (x1 : Int32) (x2 : Int32) (x3 : Int32) (x4 : Int32), r34 σ x1 x2 x3 x4 = some res → cr_W p l e R s m args below meth c sfM 17 base D cA 7 (MQ below (cr_Qv sfM 17 base D cA res) args s 0 0 (cr_A 17 base)) σ 34 [(0, .ref (base + 0)), (1, .int x1), (2, .int x2), (3, .int x3), (4, .int x4)] []) (σ : cr_S) (x1 : Int32) (x2 : Int32) (x3 : Int32) (x4 : Int32) (x5 : Int32) (t0 : Int32) (t1 : Int32) (h : f_X11_fit_B148 r18 r26 r34 σ x1 x2 x3 x4 x5 t0 t1 = some res) : cr_W p l e R s m args below meth c sfM 17 base D cA 7 (MQ below (cr_Qv sfM 17 base D cA res) args s 0 0 (cr_A 17 base)) σ 148 [(0, .ref (base + 0)), (1, .int x1), (2, .int x2), (3, .int x3), (4, .int x4), (5, .int x5)] [.int t0, .int t1, .ref (base + 0)] := by
  unfold f_X11_fit_B148 at h
  refine g_iadd (pc' := 149) C dX11_fit_148 rfl ?_
  obtain ⟨s13, e14, h⟩ := let_some h
  refine gp_X11_247 (pc' := 152) C dX11_fit_149 rfl e14 ?_
  refine g_aload_n (pc' := 153) C dX11_fit_152 0 rfl rfl ?_
  refine g_dup (pc' := 154) C dX11_fit_153 rfl rfl ?_
  refine gg_X11_253 (pc' := 157) C dX11_fit_154 rfl ?_
  refine g_iload (pc' := 159) C dX11_fit_157 5 rfl rfl ?_
  refine g_if_eq (pc' := 162) (tgt := 173) C dX11_fit_159 (by decide) rfl (fun hc => ?_) (fun hc => ?_)
  · rw [if_pos hc] at h
    refine g_iconst (pc' := 174) (v := 0) C dX11_fit_173 (by decide) rfl ?_
    exact g_sub C [0, 1, 2, 3, 4] rfl (w_X11_fit_B174 C hr hR r18 r26 r34 hr18 hr26 hr34 _ _ _ _ _ _ _ h)
  · rw [if_neg hc] at h
    refine g_iload_n (pc' := 163) C dX11_fit_162 1 rfl rfl ?_
    refine g_iload_n (pc' := 164) C dX11_fit_163 2 rfl rfl ?_
    refine g_iload_n (pc' := 165) C dX11_fit_164 3 rfl rfl ?_
    refine g_iload (pc' := 167) C dX11_fit_165 4 rfl rfl ?_
    obtain ⟨q19, h20, h⟩ := bind_some h
    refine g_callSi (pc' := 170) (res := q19) C [.int x1, .int x2, .int x3, .int x4] cY_X11_isSo mv_X11_isSo mm_X11_256 ⟨Nat.le_trans (by decide) hR.1, Nat.le_trans (by decide) hR.2⟩ rfl (Nat.le_of_ble_eq_true rfl) rfl dX11_fit_167 (c_X11_isSo l base D cA s13 x1 x2 x3 x4 q19 h20) rfl ?_
    refine g_goto (tgt := 174) C dX11_fit_170 (by decide) ?_
    exact g_sub C [0, 1, 2, 3, 4] rfl (w_X11_fit_B174 C hr hR r18 r26 r34 hr18 hr26 hr34 _ _ _ _ _ _ _ h)
noncomputable def f_X11_fit_B130 (r18 : cr_S → Int32 → Int32 → Option (cr_S)) (r26 : cr_S → Int32 → Int32 → Int32 → Option (cr_S)) (r34 : cr_S → Int32 → Int32 → Int32 → Int32 → Option (cr_S)) (σ : cr_S) (x1 : Int32) (x2 : Int32) (x3 : Int32) (x4 : Int32) (x5 : Int32) (t0 : Int32) : Option (cr_S) :=
  cr_let (sF σ 0 26 t0) (fun s11 => f_X11_fit_B148 r18 r26 r34 s11 x1 x2 x3 x4 x5 (if x5 = 0 then 0 else 1) (rF s11 0 25))
set_option maxRecDepth 100000 in
set_option maxHeartbeats 4000000 in
theorem w_X11_fit_B130 (C : cr_C p l e R s m args below meth c sfM 17 base D cA cX11_fit 7 RX11) (hr : meth.sig.returnType = none) (hR : 1 ≤ R.frames ∧ 23 ≤ R.locals) {res : cr_S} (r18 : cr_S → Int32 → Int32 → Option (cr_S)) (r26 : cr_S → Int32 → Int32 → Int32 → Option (cr_S)) (r34 : cr_S → Int32 → Int32 → Int32 → Int32 → Option (cr_S)) (hr18 : ∀ (σ : cr_S) (x1 : Int32) (x2 : Int32), r18 σ x1 x2 = some res → cr_W p l e R s m args below meth c sfM 17 base D cA 7 (MQ below (cr_Qv sfM 17 base D cA res) args s 0 0 (cr_A 17 base)) σ 18 [(0, .ref (base + 0)), (1, .int x1), (2, .int x2)] []) (hr26 : ∀ (σ : cr_S) (x1 : Int32) (x2 : Int32) (x3 : Int32), r26 σ x1 x2 x3 = some res → cr_W p l e R s m args below meth c sfM 17 base D cA 7 (MQ below (cr_Qv sfM 17 base D cA res) args s 0 0 (cr_A 17 base)) σ 26 [(0, .ref (base + 0)), (1, .int x1), (2, .int x2), (3, .int x3)] []) (hr34 : ∀ (σ : cr_S) (x1 : Int32) (x2 : Int32) (x3 : Int32) (x4 : Int32), r34 σ x1 x2 x3 x4 = some res → cr_W p l e R s m args below meth c sfM 17 base D cA 7 (MQ below (cr_Qv sfM 17 base D cA res) args s 0 0 (cr_A 17 base)) σ 34 [(0, .ref (base + 0)), (1, .int x1), (2, .int x2), (3, .int x3), (4, .int x4)] []) (σ : cr_S) (x1 : Int32) (x2 : Int32) (x3 : Int32) (x4 : Int32) (x5 : Int32) (t0 : Int32) (h : f_X11_fit_B130 r18 r26 r34 σ x1 x2 x3 x4 x5 t0 = some res) : cr_W p l e R s m args below meth c sfM 17 base D cA 7 (MQ below (cr_Qv sfM 17 base D cA res) args s 0 0 (cr_A 17 base)) σ 130 [(0, .ref (base + 0)), (1, .int x1), (2, .int x2), (3, .int x3), (4, .int x4), (5, .int x5)] [.int t0, .ref (base + 0)] := by
  unfold f_X11_fit_B130 at h
  obtain ⟨s11, e12, h⟩ := let_some h
  refine gp_X11_250 (pc' := 133) C dX11_fit_130 rfl e12 ?_
  refine g_aload_n (pc' := 134) C dX11_fit_133 0 rfl rfl ?_
  refine g_dup (pc' := 135) C dX11_fit_134 rfl rfl ?_
  refine gg_X11_247 (pc' := 138) C dX11_fit_135 rfl ?_
  refine g_iload (pc' := 140) C dX11_fit_138 5 rfl rfl ?_
  refine g_iteI (σ := s11) (pj := 148) (lv := [(0, .ref (base + 0)), (1, .int x1), (2, .int x2), (3, .int x3), (4, .int x4), (5, .int x5)]) (st := [.int (rF s11 0 25), .ref (base + 0)]) (cd := x5 = 0) (a := 0) (b := 1) C ?_ (fun kt kf => ?_)
  · exact g_sub C [0, 1, 2, 3, 4, 5] rfl (w_X11_fit_B148 C hr hR r18 r26 r34 hr18 hr26 hr34 _ _ _ _ _ _ _ _ h)
  · refine g_if_eq (pc' := 143) (tgt := 147) C dX11_fit_140 (by decide) rfl (fun hc => ?_) (fun hc => ?_)
    · refine g_iconst (pc' := 148) (v := 0) C dX11_fit_147 (by decide) rfl ?_
      exact kt hc
    · refine g_iconst (pc' := 144) (v := 1) C dX11_fit_143 (by decide) rfl ?_
      refine g_goto (tgt := 148) C dX11_fit_144 (by decide) ?_
      exact kf hc
noncomputable def f_X11_fit_B126 (r18 : cr_S → Int32 → Int32 → Option (cr_S)) (r26 : cr_S → Int32 → Int32 → Int32 → Option (cr_S)) (r34 : cr_S → Int32 → Int32 → Int32 → Int32 → Option (cr_S)) (σ : cr_S) (x1 : Int32) (x2 : Int32) (x3 : Int32) (x4 : Int32) (x5 : Int32) : Option (cr_S) :=
  f_X11_fit_B130 r18 r26 r34 σ x1 x2 x3 x4 x5 (rF σ 0 26)
set_option maxRecDepth 100000 in
set_option maxHeartbeats 4000000 in
theorem w_X11_fit_B126 (C : cr_C p l e R s m args below meth c sfM 17 base D cA cX11_fit 7 RX11) (hr : meth.sig.returnType = none) (hR : 1 ≤ R.frames ∧ 23 ≤ R.locals) {res : cr_S} (r18 : cr_S → Int32 → Int32 → Option (cr_S)) (r26 : cr_S → Int32 → Int32 → Int32 → Option (cr_S)) (r34 : cr_S → Int32 → Int32 → Int32 → Int32 → Option (cr_S)) (hr18 : ∀ (σ : cr_S) (x1 : Int32) (x2 : Int32), r18 σ x1 x2 = some res → cr_W p l e R s m args below meth c sfM 17 base D cA 7 (MQ below (cr_Qv sfM 17 base D cA res) args s 0 0 (cr_A 17 base)) σ 18 [(0, .ref (base + 0)), (1, .int x1), (2, .int x2)] []) (hr26 : ∀ (σ : cr_S) (x1 : Int32) (x2 : Int32) (x3 : Int32), r26 σ x1 x2 x3 = some res → cr_W p l e R s m args below meth c sfM 17 base D cA 7 (MQ below (cr_Qv sfM 17 base D cA res) args s 0 0 (cr_A 17 base)) σ 26 [(0, .ref (base + 0)), (1, .int x1), (2, .int x2), (3, .int x3)] []) (hr34 : ∀ (σ : cr_S) (x1 : Int32) (x2 : Int32) (x3 : Int32) (x4 : Int32), r34 σ x1 x2 x3 x4 = some res → cr_W p l e R s m args below meth c sfM 17 base D cA 7 (MQ below (cr_Qv sfM 17 base D cA res) args s 0 0 (cr_A 17 base)) σ 34 [(0, .ref (base + 0)), (1, .int x1), (2, .int x2), (3, .int x3), (4, .int x4)] []) (σ : cr_S) (x1 : Int32) (x2 : Int32) (x3 : Int32) (x4 : Int32) (x5 : Int32) (h : f_X11_fit_B126 r18 r26 r34 σ x1 x2 x3 x4 x5 = some res) : cr_W p l e R s m args below meth c sfM 17 base D cA 7 (MQ below (cr_Qv sfM 17 base D cA res) args s 0 0 (cr_A 17 base)) σ 126 [(0, .ref (base + 0)), (1, .int x1), (2, .int x2), (3, .int x3), (4, .int x4), (5, .int x5)] [.ref (base + 0)] := by
  unfold f_X11_fit_B126 at h
  refine g_aload_n (pc' := 127) C dX11_fit_126 0 rfl rfl ?_
  refine gg_X11_250 (pc' := 130) C dX11_fit_127 rfl ?_
  exact g_sub C [0, 1, 2, 3, 4, 5] rfl (w_X11_fit_B130 C hr hR r18 r26 r34 hr18 hr26 hr34 _ _ _ _ _ _ _ h)
noncomputable def f_X11_fit_B97 (r18 : cr_S → Int32 → Int32 → Option (cr_S)) (r26 : cr_S → Int32 → Int32 → Int32 → Option (cr_S)) (r34 : cr_S → Int32 → Int32 → Int32 → Int32 → Option (cr_S)) (σ : cr_S) (x1 : Int32) (x2 : Int32) (x3 : Int32) (x4 : Int32) (x5 : Int32) : Option (cr_S) :=
  (if x5 = 0 then f_X11_fit_B126 r18 r26 r34 σ x1 x2 x3 x4 x5 else (if (rF σ 0 25) = 0 then f_X11_fit_B130 r18 r26 r34 σ x1 x2 x3 x4 x5 (((10000 * x2) + (100 * x3)) + x4) else f_X11_fit_B126 r18 r26 r34 σ x1 x2 x3 x4 x5))
set_option maxRecDepth 100000 in
set_option maxHeartbeats 4000000 in
theorem w_X11_fit_B97 (C : cr_C p l e R s m args below meth c sfM 17 base D cA cX11_fit 7 RX11) (hr : meth.sig.returnType = none) (hR : 1 ≤ R.frames ∧ 23 ≤ R.locals) {res : cr_S} (r18 : cr_S → Int32 → Int32 → Option (cr_S)) (r26 : cr_S → Int32 → Int32 → Int32 → Option (cr_S)) (r34 : cr_S → Int32 → Int32 → Int32 → Int32 → Option (cr_S)) (hr18 : ∀ (σ : cr_S) (x1 : Int32) (x2 : Int32), r18 σ x1 x2 = some res → cr_W p l e R s m args below meth c sfM 17 base D cA 7 (MQ below (cr_Qv sfM 17 base D cA res) args s 0 0 (cr_A 17 base)) σ 18 [(0, .ref (base + 0)), (1, .int x1), (2, .int x2)] []) (hr26 : ∀ (σ : cr_S) (x1 : Int32) (x2 : Int32) (x3 : Int32), r26 σ x1 x2 x3 = some res → cr_W p l e R s m args below meth c sfM 17 base D cA 7 (MQ below (cr_Qv sfM 17 base D cA res) args s 0 0 (cr_A 17 base)) σ 26 [(0, .ref (base + 0)), (1, .int x1), (2, .int x2), (3, .int x3)] []) (hr34 : ∀ (σ : cr_S) (x1 : Int32) (x2 : Int32) (x3 : Int32) (x4 : Int32), r34 σ x1 x2 x3 x4 = some res → cr_W p l e R s m args below meth c sfM 17 base D cA 7 (MQ below (cr_Qv sfM 17 base D cA res) args s 0 0 (cr_A 17 base)) σ 34 [(0, .ref (base + 0)), (1, .int x1), (2, .int x2), (3, .int x3), (4, .int x4)] []) (σ : cr_S) (x1 : Int32) (x2 : Int32) (x3 : Int32) (x4 : Int32) (x5 : Int32) (h : f_X11_fit_B97 r18 r26 r34 σ x1 x2 x3 x4 x5 = some res) : cr_W p l e R s m args below meth c sfM 17 base D cA 7 (MQ below (cr_Qv sfM 17 base D cA res) args s 0 0 (cr_A 17 base)) σ 97 [(0, .ref (base + 0)), (1, .int x1), (2, .int x2), (3, .int x3), (4, .int x4), (5, .int x5)] [] := by
  unfold f_X11_fit_B97 at h
  refine g_aload_n (pc' := 98) C dX11_fit_97 0 rfl rfl ?_
  refine g_iload (pc' := 100) C dX11_fit_98 5 rfl rfl ?_
  refine g_if_eq (pc' := 103) (tgt := 126) C dX11_fit_100 (by decide) rfl (fun hc => ?_) (fun hc => ?_)
  · rw [if_pos hc] at h
    exact g_sub C [0, 1, 2, 3, 4, 5] rfl (w_X11_fit_B126 C hr hR r18 r26 r34 hr18 hr26 hr34 _ _ _ _ _ _ h)
  · rw [if_neg hc] at h
    refine g_aload_n (pc' := 104) C dX11_fit_103 0 rfl rfl ?_
    refine gg_X11_247 (pc' := 107) C dX11_fit_104 rfl ?_
    refine g_if_ne (pc' := 110) (tgt := 126) C dX11_fit_107 (by decide) rfl (fun hc => ?_) (fun hc => ?_)
    · rw [if_neg hc] at h
      exact g_sub C [0, 1, 2, 3, 4, 5] rfl (w_X11_fit_B126 C hr hR r18 r26 r34 hr18 hr26 hr34 _ _ _ _ _ _ h)
    · rw [if_pos hc] at h
      refine g_sipush (pc' := 113) (v := 10000) C dX11_fit_110 (by decide) rfl ?_
      refine g_iload_n (pc' := 114) C dX11_fit_113 2 rfl rfl ?_
      refine g_imul (pc' := 115) C dX11_fit_114 rfl ?_
      refine g_bipush (pc' := 117) (v := 100) C dX11_fit_115 (by decide) rfl ?_
      refine g_iload_n (pc' := 118) C dX11_fit_117 3 rfl rfl ?_
      refine g_imul (pc' := 119) C dX11_fit_118 rfl ?_
      refine g_iadd (pc' := 120) C dX11_fit_119 rfl ?_
      refine g_iload (pc' := 122) C dX11_fit_120 4 rfl rfl ?_
      refine g_iadd (pc' := 123) C dX11_fit_122 rfl ?_
      refine g_goto (tgt := 130) C dX11_fit_123 (by decide) ?_
      exact g_sub C [0, 1, 2, 3, 4, 5] rfl (w_X11_fit_B130 C hr hR r18 r26 r34 hr18 hr26 hr34 _ _ _ _ _ _ _ h)
noncomputable def f_X11_fit_B89 (r18 : cr_S → Int32 → Int32 → Option (cr_S)) (r26 : cr_S → Int32 → Int32 → Int32 → Option (cr_S)) (r34 : cr_S → Int32 → Int32 → Int32 → Int32 → Option (cr_S)) (r46 : cr_S → Int32 → Int32 → Int32 → Int32 → Int32 → Int32 → Option (cr_S)) (σ : cr_S) (x1 : Int32) (x2 : Int32) (x3 : Int32) (x4 : Int32) (x6 : Int32) (t0 : Int32) : Option (cr_S) :=
  cr_let (x6 + 1) (fun v25 => r46 σ x1 x2 x3 x4 t0 v25)
set_option maxRecDepth 100000 in
set_option maxHeartbeats 4000000 in
theorem w_X11_fit_B89 (C : cr_C p l e R s m args below meth c sfM 17 base D cA cX11_fit 7 RX11) (hr : meth.sig.returnType = none) (hR : 1 ≤ R.frames ∧ 23 ≤ R.locals) {res : cr_S} (r18 : cr_S → Int32 → Int32 → Option (cr_S)) (r26 : cr_S → Int32 → Int32 → Int32 → Option (cr_S)) (r34 : cr_S → Int32 → Int32 → Int32 → Int32 → Option (cr_S)) (r46 : cr_S → Int32 → Int32 → Int32 → Int32 → Int32 → Int32 → Option (cr_S)) (hr18 : ∀ (σ : cr_S) (x1 : Int32) (x2 : Int32), r18 σ x1 x2 = some res → cr_W p l e R s m args below meth c sfM 17 base D cA 7 (MQ below (cr_Qv sfM 17 base D cA res) args s 0 0 (cr_A 17 base)) σ 18 [(0, .ref (base + 0)), (1, .int x1), (2, .int x2)] []) (hr26 : ∀ (σ : cr_S) (x1 : Int32) (x2 : Int32) (x3 : Int32), r26 σ x1 x2 x3 = some res → cr_W p l e R s m args below meth c sfM 17 base D cA 7 (MQ below (cr_Qv sfM 17 base D cA res) args s 0 0 (cr_A 17 base)) σ 26 [(0, .ref (base + 0)), (1, .int x1), (2, .int x2), (3, .int x3)] []) (hr34 : ∀ (σ : cr_S) (x1 : Int32) (x2 : Int32) (x3 : Int32) (x4 : Int32), r34 σ x1 x2 x3 x4 = some res → cr_W p l e R s m args below meth c sfM 17 base D cA 7 (MQ below (cr_Qv sfM 17 base D cA res) args s 0 0 (cr_A 17 base)) σ 34 [(0, .ref (base + 0)), (1, .int x1), (2, .int x2), (3, .int x3), (4, .int x4)] []) (hr46 : ∀ (σ : cr_S) (x1 : Int32) (x2 : Int32) (x3 : Int32) (x4 : Int32) (x5 : Int32) (x6 : Int32), r46 σ x1 x2 x3 x4 x5 x6 = some res → cr_W p l e R s m args below meth c sfM 17 base D cA 7 (MQ below (cr_Qv sfM 17 base D cA res) args s 0 0 (cr_A 17 base)) σ 46 [(0, .ref (base + 0)), (1, .int x1), (2, .int x2), (3, .int x3), (4, .int x4), (5, .int x5), (6, .int x6)] []) (σ : cr_S) (x1 : Int32) (x2 : Int32) (x3 : Int32) (x4 : Int32) (x6 : Int32) (t0 : Int32) (h : f_X11_fit_B89 r18 r26 r34 r46 σ x1 x2 x3 x4 x6 t0 = some res) : cr_W p l e R s m args below meth c sfM 17 base D cA 7 (MQ below (cr_Qv sfM 17 base D cA res) args s 0 0 (cr_A 17 base)) σ 89 [(0, .ref (base + 0)), (1, .int x1), (2, .int x2), (3, .int x3), (4, .int x4), (6, .int x6)] [.int t0] := by
  unfold f_X11_fit_B89 at h
  refine g_istore (pc' := 91) (lv' := [(5, .int t0), (0, .ref (base + 0)), (1, .int x1), (2, .int x2), (3, .int x3), (4, .int x4), (6, .int x6)]) C dX11_fit_89 (by decide) rfl rfl ?_
  obtain ⟨v25, e26, h⟩ := let_some h
  refine g_iinc (pc' := 94) (v := v25) (lv' := [(6, .int v25), (5, .int t0), (0, .ref (base + 0)), (1, .int x1), (2, .int x2), (3, .int x3), (4, .int x4)]) C dX11_fit_91 6 rfl (by rw [e26]; rfl) (by decide) rfl rfl ?_
  refine g_goto (tgt := 46) C dX11_fit_94 (by decide) ?_
  exact g_sub C [2, 3, 4, 5, 6, 1, 0] rfl (hr46 _ _ _ _ _ _ _ h)
noncomputable def f_X11_fit_L46 (r18 : cr_S → Int32 → Int32 → Option (cr_S)) (r26 : cr_S → Int32 → Int32 → Int32 → Option (cr_S)) (r34 : cr_S → Int32 → Int32 → Int32 → Int32 → Option (cr_S)) : Nat → cr_S → Int32 → Int32 → Int32 → Int32 → Int32 → Int32 → Option (cr_S)
  | 0, _, _, _, _, _, _, _ => none
  | n + 1, σ, x1, x2, x3, x4, x5, x6 =>
    (if (rF σ 0 22) ≤ x6 then f_X11_fit_B97 r18 r26 r34 σ x1 x2 x3 x4 x5 else (if x5 = 0 then f_X11_fit_B97 r18 r26 r34 σ x1 x2 x3 x4 x5 else chk (inb x6 12) (Option.bind (f_X11_isSo σ (rA σ 10 x6) x2 x3 x4) (fun q22 => chk (inb x6 12) (f_X11_fit_B89 r18 r26 r34 (f_X11_fit_L46 r18 r26 r34 n) q22.1 x1 x2 x3 x4 x6 (if q22.2 = (rA q22.1 11 x6) then 1 else 0))))))
set_option maxRecDepth 100000 in
set_option maxHeartbeats 4000000 in
theorem w_X11_fit_L46 (C : cr_C p l e R s m args below meth c sfM 17 base D cA cX11_fit 7 RX11) (hr : meth.sig.returnType = none) (hR : 1 ≤ R.frames ∧ 23 ≤ R.locals) {res : cr_S} (r18 : cr_S → Int32 → Int32 → Option (cr_S)) (r26 : cr_S → Int32 → Int32 → Int32 → Option (cr_S)) (r34 : cr_S → Int32 → Int32 → Int32 → Int32 → Option (cr_S)) (hr18 : ∀ (σ : cr_S) (x1 : Int32) (x2 : Int32), r18 σ x1 x2 = some res → cr_W p l e R s m args below meth c sfM 17 base D cA 7 (MQ below (cr_Qv sfM 17 base D cA res) args s 0 0 (cr_A 17 base)) σ 18 [(0, .ref (base + 0)), (1, .int x1), (2, .int x2)] []) (hr26 : ∀ (σ : cr_S) (x1 : Int32) (x2 : Int32) (x3 : Int32), r26 σ x1 x2 x3 = some res → cr_W p l e R s m args below meth c sfM 17 base D cA 7 (MQ below (cr_Qv sfM 17 base D cA res) args s 0 0 (cr_A 17 base)) σ 26 [(0, .ref (base + 0)), (1, .int x1), (2, .int x2), (3, .int x3)] []) (hr34 : ∀ (σ : cr_S) (x1 : Int32) (x2 : Int32) (x3 : Int32) (x4 : Int32), r34 σ x1 x2 x3 x4 = some res → cr_W p l e R s m args below meth c sfM 17 base D cA 7 (MQ below (cr_Qv sfM 17 base D cA res) args s 0 0 (cr_A 17 base)) σ 34 [(0, .ref (base + 0)), (1, .int x1), (2, .int x2), (3, .int x3), (4, .int x4)] []) : ∀ (n : Nat) (σ : cr_S) (x1 : Int32) (x2 : Int32) (x3 : Int32) (x4 : Int32) (x5 : Int32) (x6 : Int32), f_X11_fit_L46 r18 r26 r34 n σ x1 x2 x3 x4 x5 x6 = some res → cr_W p l e R s m args below meth c sfM 17 base D cA 7 (MQ below (cr_Qv sfM 17 base D cA res) args s 0 0 (cr_A 17 base)) σ 46 [(0, .ref (base + 0)), (1, .int x1), (2, .int x2), (3, .int x3), (4, .int x4), (5, .int x5), (6, .int x6)] [] := by
  intro n
  induction n with
  | zero =>
    intro σ x1 x2 x3 x4 x5 x6 h
    cases h
  | succ n ih =>
    intro σ x1 x2 x3 x4 x5 x6 h
    rw [f_X11_fit_L46] at h
    refine g_iload (pc' := 48) C dX11_fit_46 6 rfl rfl ?_
    refine g_aload_n (pc' := 49) C dX11_fit_48 0 rfl rfl ?_
    refine gg_X11_200 (pc' := 52) C dX11_fit_49 rfl ?_
    refine g_icmp_ge (pc' := 55) (tgt := 97) C dX11_fit_52 (by decide) rfl (fun hc => ?_) (fun hc => ?_)
    · rw [if_pos hc] at h
      exact g_sub C [0, 1, 2, 3, 4, 5] rfl (w_X11_fit_B97 C hr hR r18 r26 r34 hr18 hr26 hr34 _ _ _ _ _ _ h)
    · rw [if_neg hc] at h
      refine g_iload (pc' := 57) C dX11_fit_55 5 rfl rfl ?_
      refine g_if_eq (pc' := 60) (tgt := 97) C dX11_fit_57 (by decide) rfl (fun hc => ?_) (fun hc => ?_)
      · rw [if_pos hc] at h
        exact g_sub C [0, 1, 2, 3, 4, 5] rfl (w_X11_fit_B97 C hr hR r18 r26 r34 hr18 hr26 hr34 _ _ _ _ _ _ h)
      · rw [if_neg hc] at h
        refine g_aload_n (pc' := 61) C dX11_fit_60 0 rfl rfl ?_
        refine gg_X11_41 (pc' := 64) C dX11_fit_61 rfl ?_
        refine g_iload (pc' := 66) C dX11_fit_64 6 rfl rfl ?_
        obtain ⟨h21, h⟩ := chk_some h
        refine g_iald (pc' := 67) C (o := 10) (by decide) rfl (inb_d h21) dX11_fit_66 rfl ?_
        refine g_iload_n (pc' := 68) C dX11_fit_67 2 rfl rfl ?_
        refine g_iload_n (pc' := 69) C dX11_fit_68 3 rfl rfl ?_
        refine g_iload (pc' := 71) C dX11_fit_69 4 rfl rfl ?_
        obtain ⟨q22, h23, h⟩ := bind_some h
        refine g_callSi (pc' := 74) (res := q22) C [.int (rA σ 10 x6), .int x2, .int x3, .int x4] cY_X11_isSo mv_X11_isSo mm_X11_256 ⟨Nat.le_trans (by decide) hR.1, Nat.le_trans (by decide) hR.2⟩ rfl (Nat.le_of_ble_eq_true rfl) rfl dX11_fit_71 (c_X11_isSo l base D cA σ (rA σ 10 x6) x2 x3 x4 q22 h23) rfl ?_
        refine g_aload_n (pc' := 75) C dX11_fit_74 0 rfl rfl ?_
        refine gg_X11_44 (pc' := 78) C dX11_fit_75 rfl ?_
        refine g_iload (pc' := 80) C dX11_fit_78 6 rfl rfl ?_
        obtain ⟨h24, h⟩ := chk_some h
        refine g_iald (pc' := 81) C (o := 11) (by decide) rfl (inb_d h24) dX11_fit_80 rfl ?_
        refine g_iteI (σ := q22.1) (pj := 89) (lv := [(0, .ref (base + 0)), (1, .int x1), (2, .int x2), (3, .int x3), (4, .int x4), (5, .int x5), (6, .int x6)]) (st := []) (cd := q22.2 = (rA q22.1 11 x6)) (a := 1) (b := 0) C ?_ (fun kt kf => ?_)
        · exact g_sub C [0, 1, 2, 3, 4, 6] rfl (w_X11_fit_B89 C hr hR r18 r26 r34 (f_X11_fit_L46 r18 r26 r34 n) hr18 hr26 hr34 ih _ _ _ _ _ _ _ h)
        · refine g_icmp_ne (pc' := 84) (tgt := 88) C dX11_fit_81 (by decide) rfl (fun hc => ?_) (fun hc => ?_)
          · refine g_iconst (pc' := 89) (v := 0) C dX11_fit_88 (by decide) rfl ?_
            exact kf hc
          · refine g_iconst (pc' := 85) (v := 1) C dX11_fit_84 (by decide) rfl ?_
            refine g_goto (tgt := 89) C dX11_fit_85 (by decide) ?_
            exact kt hc
noncomputable def f_X11_fit_L34 (r18 : cr_S → Int32 → Int32 → Option (cr_S)) (r26 : cr_S → Int32 → Int32 → Int32 → Option (cr_S)) : Nat → cr_S → Int32 → Int32 → Int32 → Int32 → Option (cr_S)
  | 0, _, _, _, _, _ => none
  | n + 1, σ, x1, x2, x3, x4 =>
    (if x2 ≤ x4 then f_X11_fit_B184 r18 r26 σ x1 x2 x3 else f_X11_fit_L46 r18 r26 (f_X11_fit_L34 r18 r26 n) cr_fuel σ x1 x2 x3 x4 1 0)
set_option maxRecDepth 100000 in
set_option maxHeartbeats 4000000 in
theorem w_X11_fit_L34 (C : cr_C p l e R s m args below meth c sfM 17 base D cA cX11_fit 7 RX11) (hr : meth.sig.returnType = none) (hR : 1 ≤ R.frames ∧ 23 ≤ R.locals) {res : cr_S} (r18 : cr_S → Int32 → Int32 → Option (cr_S)) (r26 : cr_S → Int32 → Int32 → Int32 → Option (cr_S)) (hr18 : ∀ (σ : cr_S) (x1 : Int32) (x2 : Int32), r18 σ x1 x2 = some res → cr_W p l e R s m args below meth c sfM 17 base D cA 7 (MQ below (cr_Qv sfM 17 base D cA res) args s 0 0 (cr_A 17 base)) σ 18 [(0, .ref (base + 0)), (1, .int x1), (2, .int x2)] []) (hr26 : ∀ (σ : cr_S) (x1 : Int32) (x2 : Int32) (x3 : Int32), r26 σ x1 x2 x3 = some res → cr_W p l e R s m args below meth c sfM 17 base D cA 7 (MQ below (cr_Qv sfM 17 base D cA res) args s 0 0 (cr_A 17 base)) σ 26 [(0, .ref (base + 0)), (1, .int x1), (2, .int x2), (3, .int x3)] []) : ∀ (n : Nat) (σ : cr_S) (x1 : Int32) (x2 : Int32) (x3 : Int32) (x4 : Int32), f_X11_fit_L34 r18 r26 n σ x1 x2 x3 x4 = some res → cr_W p l e R s m args below meth c sfM 17 base D cA 7 (MQ below (cr_Qv sfM 17 base D cA res) args s 0 0 (cr_A 17 base)) σ 34 [(0, .ref (base + 0)), (1, .int x1), (2, .int x2), (3, .int x3), (4, .int x4)] [] := by
  intro n
  induction n with
  | zero =>
    intro σ x1 x2 x3 x4 h
    cases h
  | succ n ih =>
    intro σ x1 x2 x3 x4 h
    rw [f_X11_fit_L34] at h
    refine g_iload (pc' := 36) C dX11_fit_34 4 rfl rfl ?_
    refine g_iload_n (pc' := 37) C dX11_fit_36 2 rfl rfl ?_
    refine g_icmp_ge (pc' := 40) (tgt := 184) C dX11_fit_37 (by decide) rfl (fun hc => ?_) (fun hc => ?_)
    · rw [if_pos hc] at h
      exact g_sub C [0, 1, 2, 3] rfl (w_X11_fit_B184 C hr hR r18 r26 hr18 hr26 _ _ _ _ h)
    · rw [if_neg hc] at h
      refine g_iconst (pc' := 41) (v := 1) C dX11_fit_40 (by decide) rfl ?_
      refine g_istore (pc' := 43) (lv' := [(5, .int 1), (0, .ref (base + 0)), (1, .int x1), (2, .int x2), (3, .int x3), (4, .int x4)]) C dX11_fit_41 (by decide) rfl rfl ?_
      refine g_iconst (pc' := 44) (v := 0) C dX11_fit_43 (by decide) rfl ?_
      refine g_istore (pc' := 46) (lv' := [(6, .int 0), (5, .int 1), (0, .ref (base + 0)), (1, .int x1), (2, .int x2), (3, .int x3), (4, .int x4)]) C dX11_fit_44 (by decide) rfl rfl ?_
      exact g_sub C [2, 3, 4, 5, 6, 1, 0] rfl (w_X11_fit_L46 C hr hR r18 r26 (f_X11_fit_L34 r18 r26 n) hr18 hr26 ih _ _ _ _ _ _ _ _ h)
noncomputable def f_X11_fit_L26 (r18 : cr_S → Int32 → Int32 → Option (cr_S)) : Nat → cr_S → Int32 → Int32 → Int32 → Option (cr_S)
  | 0, _, _, _, _ => none
  | n + 1, σ, x1, x2, x3 =>
    (if x2 ≤ x3 then f_X11_fit_B190 r18 σ x1 x2 else f_X11_fit_L34 r18 (f_X11_fit_L26 r18 n) cr_fuel σ x1 x2 x3 0)
set_option maxRecDepth 100000 in
set_option maxHeartbeats 4000000 in
theorem w_X11_fit_L26 (C : cr_C p l e R s m args below meth c sfM 17 base D cA cX11_fit 7 RX11) (hr : meth.sig.returnType = none) (hR : 1 ≤ R.frames ∧ 23 ≤ R.locals) {res : cr_S} (r18 : cr_S → Int32 → Int32 → Option (cr_S)) (hr18 : ∀ (σ : cr_S) (x1 : Int32) (x2 : Int32), r18 σ x1 x2 = some res → cr_W p l e R s m args below meth c sfM 17 base D cA 7 (MQ below (cr_Qv sfM 17 base D cA res) args s 0 0 (cr_A 17 base)) σ 18 [(0, .ref (base + 0)), (1, .int x1), (2, .int x2)] []) : ∀ (n : Nat) (σ : cr_S) (x1 : Int32) (x2 : Int32) (x3 : Int32), f_X11_fit_L26 r18 n σ x1 x2 x3 = some res → cr_W p l e R s m args below meth c sfM 17 base D cA 7 (MQ below (cr_Qv sfM 17 base D cA res) args s 0 0 (cr_A 17 base)) σ 26 [(0, .ref (base + 0)), (1, .int x1), (2, .int x2), (3, .int x3)] [] := by
  intro n
  induction n with
  | zero =>
    intro σ x1 x2 x3 h
    cases h
  | succ n ih =>
    intro σ x1 x2 x3 h
    rw [f_X11_fit_L26] at h
    refine g_iload_n (pc' := 27) C dX11_fit_26 3 rfl rfl ?_
    refine g_iload_n (pc' := 28) C dX11_fit_27 2 rfl rfl ?_
    refine g_icmp_ge (pc' := 31) (tgt := 190) C dX11_fit_28 (by decide) rfl (fun hc => ?_) (fun hc => ?_)
    · rw [if_pos hc] at h
      exact g_sub C [0, 1, 2] rfl (w_X11_fit_B190 C hr hR r18 hr18 _ _ _ h)
    · rw [if_neg hc] at h
      refine g_iconst (pc' := 32) (v := 0) C dX11_fit_31 (by decide) rfl ?_
      refine g_istore (pc' := 34) (lv' := [(4, .int 0), (0, .ref (base + 0)), (1, .int x1), (2, .int x2), (3, .int x3)]) C dX11_fit_32 (by decide) rfl rfl ?_
      exact g_sub C [1, 2, 3, 4, 0] rfl (w_X11_fit_L34 C hr hR r18 (f_X11_fit_L26 r18 n) hr18 ih _ _ _ _ _ _ h)
noncomputable def f_X11_fit_L18  : Nat → cr_S → Int32 → Int32 → Option (cr_S)
  | 0, _, _, _ => none
  | n + 1, σ, x1, x2 =>
    (if 25 ≤ x2 then some σ else f_X11_fit_L26 (f_X11_fit_L18 n) cr_fuel σ x1 x2 1)
set_option maxRecDepth 100000 in
set_option maxHeartbeats 4000000 in
theorem w_X11_fit_L18 (C : cr_C p l e R s m args below meth c sfM 17 base D cA cX11_fit 7 RX11) (hr : meth.sig.returnType = none) (hR : 1 ≤ R.frames ∧ 23 ≤ R.locals) {res : cr_S}  : ∀ (n : Nat) (σ : cr_S) (x1 : Int32) (x2 : Int32), f_X11_fit_L18 n σ x1 x2 = some res → cr_W p l e R s m args below meth c sfM 17 base D cA 7 (MQ below (cr_Qv sfM 17 base D cA res) args s 0 0 (cr_A 17 base)) σ 18 [(0, .ref (base + 0)), (1, .int x1), (2, .int x2)] [] := by
  intro n
  induction n with
  | zero =>
    intro σ x1 x2 h
    cases h
  | succ n ih =>
    intro σ x1 x2 h
    rw [f_X11_fit_L18] at h
    refine g_iload_n (pc' := 19) C dX11_fit_18 2 rfl rfl ?_
    refine g_bipush (pc' := 21) (v := 25) C dX11_fit_19 (by decide) rfl ?_
    refine g_icmp_ge (pc' := 24) (tgt := 196) C dX11_fit_21 (by decide) rfl (fun hc => ?_) (fun hc => ?_)
    · rw [if_pos hc] at h
      exact g_vret C hr dX11_fit_196 h
    · rw [if_neg hc] at h
      refine g_iconst (pc' := 25) (v := 1) C dX11_fit_24 (by decide) rfl ?_
      refine g_istore_n (pc' := 26) (lv' := [(3, .int 1), (0, .ref (base + 0)), (1, .int x1), (2, .int x2)]) C dX11_fit_25 rfl (by decide) rfl rfl ?_
      exact g_sub C [1, 2, 3, 0] rfl (w_X11_fit_L26 C hr hR (f_X11_fit_L18 n) ih _ _ _ _ _ h)
noncomputable def f_X11_fit (σ : cr_S) (a1 : Int32) : Option (cr_S) :=
  cr_let (sF σ 0 25 0) (fun s1 => cr_let (sF s1 0 26 (-4)) (fun s3 => cr_let (sF s3 0 27 0) (fun s5 => f_X11_fit_L18 cr_fuel s5 a1 2)))
set_option maxRecDepth 100000 in
set_option maxHeartbeats 4000000 in
theorem w_X11_fit (C : cr_C p l e R s m args below meth c sfM 17 base D cA cX11_fit 7 RX11) (hr : meth.sig.returnType = none) (hR : 1 ≤ R.frames ∧ 23 ≤ R.locals) {res : cr_S} (σ : cr_S) (a1 : Int32) (h : f_X11_fit σ a1 = some res) : cr_W p l e R s m args below meth c sfM 17 base D cA 7 (MQ below (cr_Qv sfM 17 base D cA res) args s 0 0 (cr_A 17 base)) σ 0 [(0, .ref (base + 0)), (1, .int a1)] [] := by
  unfold f_X11_fit at h
  refine g_aload_n (pc' := 1) C dX11_fit_0 0 rfl rfl ?_
  refine g_iconst (pc' := 2) (v := 0) C dX11_fit_1 (by decide) rfl ?_
  obtain ⟨s1, e2, h⟩ := let_some h
  refine gp_X11_247 (pc' := 5) C dX11_fit_2 rfl e2 ?_
  refine g_aload_n (pc' := 6) C dX11_fit_5 0 rfl rfl ?_
  refine g_bipush (pc' := 8) (v := (-4)) C dX11_fit_6 (by decide) rfl ?_
  obtain ⟨s3, e4, h⟩ := let_some h
  refine gp_X11_250 (pc' := 11) C dX11_fit_8 rfl e4 ?_
  refine g_aload_n (pc' := 12) C dX11_fit_11 0 rfl rfl ?_
  refine g_iconst (pc' := 13) (v := 0) C dX11_fit_12 (by decide) rfl ?_
  obtain ⟨s5, e6, h⟩ := let_some h
  refine gp_X11_253 (pc' := 16) C dX11_fit_13 rfl e6 ?_
  refine g_iconst (pc' := 17) (v := 2) C dX11_fit_16 (by decide) rfl ?_
  refine g_istore_n (pc' := 18) (lv' := [(2, .int 2), (0, .ref (base + 0)), (1, .int a1)]) C dX11_fit_17 rfl (by decide) rfl rfl ?_
  exact g_sub C [1, 2, 0] rfl (w_X11_fit_L18 C hr hR _ _ _ _ h)
theorem c_X11_fit (l : Launch) (base : Nat) (D : va_G) (cA : Nat → ClassId) (σ : cr_S) (a1 : Int32) (res : cr_S) (h : f_X11_fit σ a1 = some res) : cr_M l yX11_fit cX11_fit 7 none 1 23 sfM 17 base D cA [.ref (base + 0), .int a1] σ (cr_Qv sfM 17 base D cA res) := by
  refine cr_enter [.ref (base + 0), .int a1] [(0, .ref (base + 0)), (1, .int a1)] (by decide) (Nat.le_of_ble_eq_true rfl) rfl ?_
  intro p e R s m below meth c C hr hR
  exact w_X11_fit C hr hR σ a1 h
noncomputable def f_X11_fits (σ : cr_S) (a1 : Int32) : Option (cr_S × Int32) :=
  Option.bind (f_X11_in σ (Int32.toInt64 a1) 0 1) (fun q1 => (if q1.2 = 0 then some (q1.1, (-1)) else Option.bind (f_X11_fit q1.1 0) (fun q3 => some (q3, if a1 = 0 then rF q3 0 25 else rF q3 0 26))))
set_option maxRecDepth 100000 in
set_option maxHeartbeats 4000000 in
theorem w_X11_fits (C : cr_C p l e R s m args below meth c sfM 17 base D cA cX11_fits 2 RX11) (hr : meth.sig.returnType = some .int) (hR : 2 ≤ R.frames ∧ 49 ≤ R.locals) {res : cr_S × Int32} (σ : cr_S) (a1 : Int32) (h : f_X11_fits σ a1 = some res) : cr_W p l e R s m args below meth c sfM 17 base D cA 2 (MQ below (cr_Qi sfM 17 base D cA res) args s 0 0 (cr_A 17 base)) σ 0 [(0, .ref (base + 0)), (1, .int a1)] [] := by
  unfold f_X11_fits at h
  refine g_iload_n (pc' := 1) C dX11_fits_0 1 rfl rfl ?_
  refine g_i2l (pc' := 2) C dX11_fits_1 rfl ?_
  refine g_lconst (pc' := 3) (v := 0) C dX11_fits_2 (by decide) rfl ?_
  refine g_lconst (pc' := 4) (v := 1) C dX11_fits_3 (by decide) rfl ?_
  obtain ⟨q1, h2, h⟩ := bind_some h
  refine g_callSi (pc' := 7) (res := q1) C [.long (Int32.toInt64 a1), .long 0, .long 1] cY_X11_in mv_X11_in mm_X11_66 ⟨Nat.le_trans (by decide) hR.1, Nat.le_trans (by decide) hR.2⟩ rfl (Nat.le_of_ble_eq_true rfl) rfl dX11_fits_4 (c_X11_in l base D cA σ (Int32.toInt64 a1) 0 1 q1 h2) rfl ?_
  refine g_if_ne (pc' := 10) (tgt := 12) C dX11_fits_7 (by decide) rfl (fun hc => ?_) (fun hc => ?_)
  · rw [if_neg hc] at h
    refine g_aload_n (pc' := 13) C dX11_fits_12 0 rfl rfl ?_
    refine g_iconst (pc' := 14) (v := 0) C dX11_fits_13 (by decide) rfl ?_
    obtain ⟨q3, h4, h⟩ := bind_some h
    refine g_callVv (pc' := 17) (res := q3) C [.int 0] cY_X11_fit rfl (o := 0) (by decide) rfl mv_X11_fit mm_X11_259 ⟨Nat.le_trans (by decide) hR.1, Nat.le_trans (by decide) hR.2⟩ rfl (Nat.le_of_ble_eq_true rfl) rfl dX11_fits_14 (c_X11_fit l base D cA q1.1 0 q3 h4) rfl ?_
    refine g_iload_n (pc' := 18) C dX11_fits_17 1 rfl rfl ?_
    refine g_iteI (σ := q3) (pj := 32) (lv := [(0, .ref (base + 0)), (1, .int a1)]) (st := []) (cd := a1 = 0) (a := rF q3 0 25) (b := rF q3 0 26) C ?_ (fun kt kf => ?_)
    · exact g_iret C hr dX11_fits_32 h
    · refine g_if_ne (pc' := 21) (tgt := 28) C dX11_fits_18 (by decide) rfl (fun hc => ?_) (fun hc => ?_)
      · refine g_aload_n (pc' := 29) C dX11_fits_28 0 rfl rfl ?_
        refine gg_X11_250 (pc' := 32) C dX11_fits_29 rfl ?_
        exact kf hc
      · refine g_aload_n (pc' := 22) C dX11_fits_21 0 rfl rfl ?_
        refine gg_X11_247 (pc' := 25) C dX11_fits_22 rfl ?_
        refine g_goto (tgt := 32) C dX11_fits_25 (by decide) ?_
        exact kt hc
  · rw [if_pos hc] at h
    refine g_iconst (pc' := 11) (v := (-1)) C dX11_fits_10 (by decide) rfl ?_
    exact g_iret C hr dX11_fits_11 h
theorem c_X11_fits (l : Launch) (base : Nat) (D : va_G) (cA : Nat → ClassId) (σ : cr_S) (a1 : Int32) (res : cr_S × Int32) (h : f_X11_fits σ a1 = some res) : cr_M l yX11_fits cX11_fits 2 (some .int) 2 49 sfM 17 base D cA [.ref (base + 0), .int a1] σ (cr_Qi sfM 17 base D cA res) := by
  refine cr_enter [.ref (base + 0), .int a1] [(0, .ref (base + 0)), (1, .int a1)] (by decide) (Nat.le_of_ble_eq_true rfl) rfl ?_
  intro p e R s m below meth c C hr hR
  exact w_X11_fits C hr hR σ a1 h
noncomputable def f_X11_foretell (σ : cr_S) (a1 : Int32) : Option (cr_S × Int32) :=
  Option.bind (f_X11_isSecond σ a1) (fun q1 => (if q1.2 = 0 then some (q1.1, (-1)) else Option.bind (f_X11_fit q1.1 a1) (fun q3 => (if (rF q3 0 25) = 0 then some (q3, (-4)) else (if (rF q3 0 27) = (rF q3 0 25) then some (q3, 1) else (if (rF q3 0 27) = 0 then some (q3, 0) else some (q3, 2)))))))
set_option maxRecDepth 100000 in
set_option maxHeartbeats 4000000 in
theorem w_X11_foretell (C : cr_C p l e R s m args below meth c sfM 17 base D cA cX11_foretell 2 RX11) (hr : meth.sig.returnType = some .int) (hR : 2 ≤ R.frames ∧ 49 ≤ R.locals) {res : cr_S × Int32} (σ : cr_S) (a1 : Int32) (h : f_X11_foretell σ a1 = some res) : cr_W p l e R s m args below meth c sfM 17 base D cA 2 (MQ below (cr_Qi sfM 17 base D cA res) args s 0 0 (cr_A 17 base)) σ 0 [(0, .ref (base + 0)), (1, .int a1)] [] := by
  unfold f_X11_foretell at h
  refine g_iload_n (pc' := 1) C dX11_foretell_0 1 rfl rfl ?_
  obtain ⟨q1, h2, h⟩ := bind_some h
  refine g_callSi (pc' := 4) (res := q1) C [.int a1] cY_X11_isSecond mv_X11_isSecond mm_X11_222 ⟨Nat.le_trans (by decide) hR.1, Nat.le_trans (by decide) hR.2⟩ rfl (Nat.le_of_ble_eq_true rfl) rfl dX11_foretell_1 (c_X11_isSecond l base D cA σ a1 q1 h2) rfl ?_
  refine g_if_ne (pc' := 7) (tgt := 9) C dX11_foretell_4 (by decide) rfl (fun hc => ?_) (fun hc => ?_)
  · rw [if_neg hc] at h
    refine g_aload_n (pc' := 10) C dX11_foretell_9 0 rfl rfl ?_
    refine g_iload_n (pc' := 11) C dX11_foretell_10 1 rfl rfl ?_
    obtain ⟨q3, h4, h⟩ := bind_some h
    refine g_callVv (pc' := 14) (res := q3) C [.int a1] cY_X11_fit rfl (o := 0) (by decide) rfl mv_X11_fit mm_X11_259 ⟨Nat.le_trans (by decide) hR.1, Nat.le_trans (by decide) hR.2⟩ rfl (Nat.le_of_ble_eq_true rfl) rfl dX11_foretell_11 (c_X11_fit l base D cA q1.1 a1 q3 h4) rfl ?_
    refine g_aload_n (pc' := 15) C dX11_foretell_14 0 rfl rfl ?_
    refine gg_X11_247 (pc' := 18) C dX11_foretell_15 rfl ?_
    refine g_if_ne (pc' := 21) (tgt := 26) C dX11_foretell_18 (by decide) rfl (fun hc => ?_) (fun hc => ?_)
    · rw [if_neg hc] at h
      refine g_aload_n (pc' := 27) C dX11_foretell_26 0 rfl rfl ?_
      refine gg_X11_253 (pc' := 30) C dX11_foretell_27 rfl ?_
      refine g_aload_n (pc' := 31) C dX11_foretell_30 0 rfl rfl ?_
      refine gg_X11_247 (pc' := 34) C dX11_foretell_31 rfl ?_
      refine g_icmp_ne (pc' := 37) (tgt := 41) C dX11_foretell_34 (by decide) rfl (fun hc => ?_) (fun hc => ?_)
      · rw [if_neg hc] at h
        refine g_aload_n (pc' := 42) C dX11_foretell_41 0 rfl rfl ?_
        refine gg_X11_253 (pc' := 45) C dX11_foretell_42 rfl ?_
        refine g_if_ne (pc' := 48) (tgt := 52) C dX11_foretell_45 (by decide) rfl (fun hc => ?_) (fun hc => ?_)
        · rw [if_neg hc] at h
          refine g_iconst (pc' := 53) (v := 2) C dX11_foretell_52 (by decide) rfl ?_
          exact g_iret C hr dX11_foretell_53 h
        · rw [if_pos hc] at h
          refine g_iconst (pc' := 49) (v := 0) C dX11_foretell_48 (by decide) rfl ?_
          refine g_goto (tgt := 53) C dX11_foretell_49 (by decide) ?_
          exact g_iret C hr dX11_foretell_53 h
      · rw [if_pos hc] at h
        refine g_iconst (pc' := 38) (v := 1) C dX11_foretell_37 (by decide) rfl ?_
        refine g_goto (tgt := 53) C dX11_foretell_38 (by decide) ?_
        exact g_iret C hr dX11_foretell_53 h
    · rw [if_pos hc] at h
      refine g_bipush (pc' := 23) (v := (-4)) C dX11_foretell_21 (by decide) rfl ?_
      refine g_goto (tgt := 53) C dX11_foretell_23 (by decide) ?_
      exact g_iret C hr dX11_foretell_53 h
  · rw [if_pos hc] at h
    refine g_iconst (pc' := 8) (v := (-1)) C dX11_foretell_7 (by decide) rfl ?_
    exact g_iret C hr dX11_foretell_8 h
theorem c_X11_foretell (l : Launch) (base : Nat) (D : va_G) (cA : Nat → ClassId) (σ : cr_S) (a1 : Int32) (res : cr_S × Int32) (h : f_X11_foretell σ a1 = some res) : cr_M l yX11_foretell cX11_foretell 2 (some .int) 2 49 sfM 17 base D cA [.ref (base + 0), .int a1] σ (cr_Qi sfM 17 base D cA res) := by
  refine cr_enter [.ref (base + 0), .int a1] [(0, .ref (base + 0)), (1, .int a1)] (by decide) (Nat.le_of_ble_eq_true rfl) rfl ?_
  intro p e R s m below meth c C hr hR
  exact w_X11_foretell C hr hR σ a1 h
noncomputable def f_X11_next_B124  (σ : cr_S) (x2 : Int32) (x3 : Int32) (x4 : Int32) : Option (cr_S × Int32) :=
  some (σ, if x2 = 0 then x3 else x4)
set_option maxRecDepth 100000 in
set_option maxHeartbeats 4000000 in
theorem w_X11_next_B124 (C : cr_C p l e R s m args below meth c sfM 17 base D cA cX11_next 7 RX11) (hr : meth.sig.returnType = some .int) (hR : 2 ≤ R.frames ∧ 49 ≤ R.locals) {res : cr_S × Int32}  (σ : cr_S) (x2 : Int32) (x3 : Int32) (x4 : Int32) (h : f_X11_next_B124 σ x2 x3 x4 = some res) : cr_W p l e R s m args below meth c sfM 17 base D cA 7 (MQ below (cr_Qi sfM 17 base D cA res) args s 0 0 (cr_A 17 base)) σ 124 [(2, .int x2), (3, .int x3), (4, .int x4)] [] := by
  unfold f_X11_next_B124 at h
  refine g_iload_n (pc' := 125) C dX11_next_124 0 rfl rfl ?_
  refine g_iteI (σ := σ) (pj := 134) (lv := [(2, .int x2), (3, .int x3), (4, .int x4)]) (st := []) (cd := x2 = 0) (a := x3) (b := x4) C ?_ (fun kt kf => ?_)
  · exact g_iret C hr dX11_next_134 h
  · refine g_if_ne (pc' := 128) (tgt := 132) C dX11_next_125 (by decide) rfl (fun hc => ?_) (fun hc => ?_)
    · refine g_iload (pc' := 134) C dX11_next_132 2 rfl rfl ?_
      exact kf hc
    · refine g_iload_n (pc' := 129) C dX11_next_128 1 rfl rfl ?_
      refine g_goto (tgt := 134) C dX11_next_129 (by decide) ?_
      exact kt hc
noncomputable def f_X11_next_B116 (r29 : cr_S → Int32 → Int32 → Int32 → Int32 → Int32 → Option (cr_S × Int32)) (σ : cr_S) (x1 : Int32) (x2 : Int32) (x3 : Int32) (x5 : Int32) (t0 : Int32) : Option (cr_S × Int32) :=
  cr_let (x5 + 1) (fun v7 => r29 σ x1 x2 x3 t0 v7)
set_option maxRecDepth 100000 in
set_option maxHeartbeats 4000000 in
theorem w_X11_next_B116 (C : cr_C p l e R s m args below meth c sfM 17 base D cA cX11_next 7 RX11) (hr : meth.sig.returnType = some .int) (hR : 2 ≤ R.frames ∧ 49 ≤ R.locals) {res : cr_S × Int32} (r29 : cr_S → Int32 → Int32 → Int32 → Int32 → Int32 → Option (cr_S × Int32)) (hr29 : ∀ (σ : cr_S) (x1 : Int32) (x2 : Int32) (x3 : Int32) (x4 : Int32) (x5 : Int32), r29 σ x1 x2 x3 x4 x5 = some res → cr_W p l e R s m args below meth c sfM 17 base D cA 7 (MQ below (cr_Qi sfM 17 base D cA res) args s 0 0 (cr_A 17 base)) σ 29 [(0, .ref (base + 0)), (1, .int x1), (2, .int x2), (3, .int x3), (4, .int x4), (5, .int x5)] []) (σ : cr_S) (x1 : Int32) (x2 : Int32) (x3 : Int32) (x5 : Int32) (t0 : Int32) (h : f_X11_next_B116 r29 σ x1 x2 x3 x5 t0 = some res) : cr_W p l e R s m args below meth c sfM 17 base D cA 7 (MQ below (cr_Qi sfM 17 base D cA res) args s 0 0 (cr_A 17 base)) σ 116 [(0, .ref (base + 0)), (1, .int x1), (2, .int x2), (3, .int x3), (5, .int x5)] [.int t0] := by
  unfold f_X11_next_B116 at h
  refine g_istore (pc' := 118) (lv' := [(4, .int t0), (0, .ref (base + 0)), (1, .int x1), (2, .int x2), (3, .int x3), (5, .int x5)]) C dX11_next_116 (by decide) rfl rfl ?_
  obtain ⟨v7, e8, h⟩ := let_some h
  refine g_iinc (pc' := 121) (v := v7) (lv' := [(5, .int v7), (4, .int t0), (0, .ref (base + 0)), (1, .int x1), (2, .int x2), (3, .int x3)]) C dX11_next_118 5 rfl (by rw [e8]; rfl) (by decide) rfl rfl ?_
  refine g_goto (tgt := 29) C dX11_next_121 (by decide) ?_
  exact g_sub C [2, 3, 4, 5, 1, 0] rfl (hr29 _ _ _ _ _ _ h)
noncomputable def f_X11_next_B101 (r29 : cr_S → Int32 → Int32 → Int32 → Int32 → Int32 → Option (cr_S × Int32)) (σ : cr_S) (x1 : Int32) (x2 : Int32) (x4 : Int32) (x5 : Int32) (x6 : Int32) (t0 : Int32) : Option (cr_S × Int32) :=
  f_X11_next_B116 r29 σ x1 x2 t0 x5 (if x4 ≤ x6 then x4 else x6)
set_option maxRecDepth 100000 in
set_option maxHeartbeats 4000000 in
theorem w_X11_next_B101 (C : cr_C p l e R s m args below meth c sfM 17 base D cA cX11_next 7 RX11) (hr : meth.sig.returnType = some .int) (hR : 2 ≤ R.frames ∧ 49 ≤ R.locals) {res : cr_S × Int32} (r29 : cr_S → Int32 → Int32 → Int32 → Int32 → Int32 → Option (cr_S × Int32)) (hr29 : ∀ (σ : cr_S) (x1 : Int32) (x2 : Int32) (x3 : Int32) (x4 : Int32) (x5 : Int32), r29 σ x1 x2 x3 x4 x5 = some res → cr_W p l e R s m args below meth c sfM 17 base D cA 7 (MQ below (cr_Qi sfM 17 base D cA res) args s 0 0 (cr_A 17 base)) σ 29 [(0, .ref (base + 0)), (1, .int x1), (2, .int x2), (3, .int x3), (4, .int x4), (5, .int x5)] []) (σ : cr_S) (x1 : Int32) (x2 : Int32) (x4 : Int32) (x5 : Int32) (x6 : Int32) (t0 : Int32) (h : f_X11_next_B101 r29 σ x1 x2 x4 x5 x6 t0 = some res) : cr_W p l e R s m args below meth c sfM 17 base D cA 7 (MQ below (cr_Qi sfM 17 base D cA res) args s 0 0 (cr_A 17 base)) σ 101 [(0, .ref (base + 0)), (1, .int x1), (2, .int x2), (4, .int x4), (5, .int x5), (6, .int x6)] [.int t0] := by
  unfold f_X11_next_B101 at h
  refine g_istore_n (pc' := 102) (lv' := [(3, .int t0), (0, .ref (base + 0)), (1, .int x1), (2, .int x2), (4, .int x4), (5, .int x5), (6, .int x6)]) C dX11_next_101 rfl (by decide) rfl rfl ?_
  refine g_iload (pc' := 104) C dX11_next_102 6 rfl rfl ?_
  refine g_iload (pc' := 106) C dX11_next_104 4 rfl rfl ?_
  refine g_iteI (σ := σ) (pj := 116) (lv := [(3, .int t0), (0, .ref (base + 0)), (1, .int x1), (2, .int x2), (4, .int x4), (5, .int x5), (6, .int x6)]) (st := []) (cd := x4 ≤ x6) (a := x4) (b := x6) C ?_ (fun kt kf => ?_)
  · exact g_sub C [1, 2, 3, 0, 5] rfl (w_X11_next_B116 C hr hR r29 hr29 _ _ _ _ _ _ h)
  · refine g_icmp_ge (pc' := 109) (tgt := 114) C dX11_next_106 (by decide) rfl (fun hc => ?_) (fun hc => ?_)
    · refine g_iload (pc' := 116) C dX11_next_114 4 rfl rfl ?_
      exact kt hc
    · refine g_iload (pc' := 111) C dX11_next_109 6 rfl rfl ?_
      refine g_goto (tgt := 116) C dX11_next_111 (by decide) ?_
      exact kf hc
noncomputable def f_X11_next_B86 (r29 : cr_S → Int32 → Int32 → Int32 → Int32 → Int32 → Option (cr_S × Int32)) (σ : cr_S) (x1 : Int32) (x2 : Int32) (x3 : Int32) (x4 : Int32) (x5 : Int32) (t0 : Int32) : Option (cr_S × Int32) :=
  f_X11_next_B101 r29 σ x1 x2 x4 x5 t0 (if x4 ≤ t0 then x3 else x5)
set_option maxRecDepth 100000 in
set_option maxHeartbeats 4000000 in
theorem w_X11_next_B86 (C : cr_C p l e R s m args below meth c sfM 17 base D cA cX11_next 7 RX11) (hr : meth.sig.returnType = some .int) (hR : 2 ≤ R.frames ∧ 49 ≤ R.locals) {res : cr_S × Int32} (r29 : cr_S → Int32 → Int32 → Int32 → Int32 → Int32 → Option (cr_S × Int32)) (hr29 : ∀ (σ : cr_S) (x1 : Int32) (x2 : Int32) (x3 : Int32) (x4 : Int32) (x5 : Int32), r29 σ x1 x2 x3 x4 x5 = some res → cr_W p l e R s m args below meth c sfM 17 base D cA 7 (MQ below (cr_Qi sfM 17 base D cA res) args s 0 0 (cr_A 17 base)) σ 29 [(0, .ref (base + 0)), (1, .int x1), (2, .int x2), (3, .int x3), (4, .int x4), (5, .int x5)] []) (σ : cr_S) (x1 : Int32) (x2 : Int32) (x3 : Int32) (x4 : Int32) (x5 : Int32) (t0 : Int32) (h : f_X11_next_B86 r29 σ x1 x2 x3 x4 x5 t0 = some res) : cr_W p l e R s m args below meth c sfM 17 base D cA 7 (MQ below (cr_Qi sfM 17 base D cA res) args s 0 0 (cr_A 17 base)) σ 86 [(0, .ref (base + 0)), (1, .int x1), (2, .int x2), (3, .int x3), (4, .int x4), (5, .int x5)] [.int t0] := by
  unfold f_X11_next_B86 at h
  refine g_istore (pc' := 88) (lv' := [(6, .int t0), (0, .ref (base + 0)), (1, .int x1), (2, .int x2), (3, .int x3), (4, .int x4), (5, .int x5)]) C dX11_next_86 (by decide) rfl rfl ?_
  refine g_iload (pc' := 90) C dX11_next_88 0 rfl rfl ?_
  refine g_iload (pc' := 92) C dX11_next_90 5 rfl rfl ?_
  refine g_iteI (σ := σ) (pj := 101) (lv := [(6, .int t0), (0, .ref (base + 0)), (1, .int x1), (2, .int x2), (3, .int x3), (4, .int x4), (5, .int x5)]) (st := []) (cd := x4 ≤ t0) (a := x3) (b := x5) C ?_ (fun kt kf => ?_)
  · exact g_sub C [1, 2, 3, 5, 6, 0] rfl (w_X11_next_B101 C hr hR r29 hr29 _ _ _ _ _ _ _ h)
  · refine g_icmp_ge (pc' := 95) (tgt := 100) C dX11_next_92 (by decide) rfl (fun hc => ?_) (fun hc => ?_)
    · refine g_iload_n (pc' := 101) C dX11_next_100 4 rfl rfl ?_
      exact kt hc
    · refine g_iload (pc' := 97) C dX11_next_95 6 rfl rfl ?_
      refine g_goto (tgt := 101) C dX11_next_97 (by decide) ?_
      exact kf hc
noncomputable def f_X11_next_L29  : Nat → cr_S → Int32 → Int32 → Int32 → Int32 → Int32 → Option (cr_S × Int32)
  | 0, _, _, _, _, _, _ => none
  | n + 1, σ, x1, x2, x3, x4, x5 =>
    (if (x1 + 60) ≤ x5 then f_X11_next_B124 σ x2 x3 x4 else Option.bind (f_X11_fit σ x5) (fun q5 => (if (rF q5 0 25) = 0 then some (q5, (-4)) else f_X11_next_B86 (f_X11_next_L29 n) q5 x1 x2 x3 x4 x5 (if (rF q5 0 27) ≤ ((rF q5 0 25) - (rF q5 0 27)) then (rF q5 0 25) - (rF q5 0 27) else rF q5 0 27))))
set_option maxRecDepth 100000 in
set_option maxHeartbeats 4000000 in
theorem w_X11_next_L29 (C : cr_C p l e R s m args below meth c sfM 17 base D cA cX11_next 7 RX11) (hr : meth.sig.returnType = some .int) (hR : 2 ≤ R.frames ∧ 49 ≤ R.locals) {res : cr_S × Int32}  : ∀ (n : Nat) (σ : cr_S) (x1 : Int32) (x2 : Int32) (x3 : Int32) (x4 : Int32) (x5 : Int32), f_X11_next_L29 n σ x1 x2 x3 x4 x5 = some res → cr_W p l e R s m args below meth c sfM 17 base D cA 7 (MQ below (cr_Qi sfM 17 base D cA res) args s 0 0 (cr_A 17 base)) σ 29 [(0, .ref (base + 0)), (1, .int x1), (2, .int x2), (3, .int x3), (4, .int x4), (5, .int x5)] [] := by
  intro n
  induction n with
  | zero =>
    intro σ x1 x2 x3 x4 x5 h
    cases h
  | succ n ih =>
    intro σ x1 x2 x3 x4 x5 h
    rw [f_X11_next_L29] at h
    refine g_iload (pc' := 31) C dX11_next_29 5 rfl rfl ?_
    refine g_iload_n (pc' := 32) C dX11_next_31 1 rfl rfl ?_
    refine g_bipush (pc' := 34) (v := 60) C dX11_next_32 (by decide) rfl ?_
    refine g_iadd (pc' := 35) C dX11_next_34 rfl ?_
    refine g_icmp_ge (pc' := 38) (tgt := 124) C dX11_next_35 (by decide) rfl (fun hc => ?_) (fun hc => ?_)
    · rw [if_pos hc] at h
      exact g_sub C [2, 3, 4] rfl (w_X11_next_B124 C hr hR _ _ _ _ h)
    · rw [if_neg hc] at h
      refine g_aload_n (pc' := 39) C dX11_next_38 0 rfl rfl ?_
      refine g_iload (pc' := 41) C dX11_next_39 5 rfl rfl ?_
      obtain ⟨q5, h6, h⟩ := bind_some h
      refine g_callVv (pc' := 44) (res := q5) C [.int x5] cY_X11_fit rfl (o := 0) (by decide) rfl mv_X11_fit mm_X11_259 ⟨Nat.le_trans (by decide) hR.1, Nat.le_trans (by decide) hR.2⟩ rfl (Nat.le_of_ble_eq_true rfl) rfl dX11_next_41 (c_X11_fit l base D cA σ x5 q5 h6) rfl ?_
      refine g_aload_n (pc' := 45) C dX11_next_44 0 rfl rfl ?_
      refine gg_X11_247 (pc' := 48) C dX11_next_45 rfl ?_
      refine g_if_ne (pc' := 51) (tgt := 54) C dX11_next_48 (by decide) rfl (fun hc => ?_) (fun hc => ?_)
      · rw [if_neg hc] at h
        refine g_aload_n (pc' := 55) C dX11_next_54 0 rfl rfl ?_
        refine gg_X11_253 (pc' := 58) C dX11_next_55 rfl ?_
        refine g_aload_n (pc' := 59) C dX11_next_58 0 rfl rfl ?_
        refine gg_X11_247 (pc' := 62) C dX11_next_59 rfl ?_
        refine g_aload_n (pc' := 63) C dX11_next_62 0 rfl rfl ?_
        refine gg_X11_253 (pc' := 66) C dX11_next_63 rfl ?_
        refine g_isub (pc' := 67) C dX11_next_66 rfl ?_
        refine g_iteI (σ := q5) (pj := 86) (lv := [(0, .ref (base + 0)), (1, .int x1), (2, .int x2), (3, .int x3), (4, .int x4), (5, .int x5)]) (st := []) (cd := (rF q5 0 27) ≤ ((rF q5 0 25) - (rF q5 0 27))) (a := (rF q5 0 25) - (rF q5 0 27)) (b := rF q5 0 27) C ?_ (fun kt kf => ?_)
        · exact g_sub C [0, 1, 2, 3, 4, 5] rfl (w_X11_next_B86 C hr hR (f_X11_next_L29 n) ih _ _ _ _ _ _ _ h)
        · refine g_icmp_le (pc' := 70) (tgt := 77) C dX11_next_67 (by decide) rfl (fun hc => ?_) (fun hc => ?_)
          · refine g_aload_n (pc' := 78) C dX11_next_77 0 rfl rfl ?_
            refine gg_X11_247 (pc' := 81) C dX11_next_78 rfl ?_
            refine g_aload_n (pc' := 82) C dX11_next_81 0 rfl rfl ?_
            refine gg_X11_253 (pc' := 85) C dX11_next_82 rfl ?_
            refine g_isub (pc' := 86) C dX11_next_85 rfl ?_
            exact kt hc
          · refine g_aload_n (pc' := 71) C dX11_next_70 0 rfl rfl ?_
            refine gg_X11_253 (pc' := 74) C dX11_next_71 rfl ?_
            refine g_goto (tgt := 86) C dX11_next_74 (by decide) ?_
            exact kf hc
      · rw [if_pos hc] at h
        refine g_bipush (pc' := 53) (v := (-4)) C dX11_next_51 (by decide) rfl ?_
        exact g_iret C hr dX11_next_53 h
noncomputable def f_X11_next (σ : cr_S) (a1 : Int32) (a2 : Int32) : Option (cr_S × Int32) :=
  Option.bind (f_X11_isSecond σ a1) (fun q1 => (if q1.2 = 0 then some (q1.1, (-1)) else Option.bind (f_X11_in q1.1 (Int32.toInt64 a2) 0 1) (fun q3 => (if q3.2 = 0 then some (q3.1, (-1)) else f_X11_next_L29 cr_fuel q3.1 a1 a2 (-4) 999999 a1))))
set_option maxRecDepth 100000 in
set_option maxHeartbeats 4000000 in
theorem w_X11_next (C : cr_C p l e R s m args below meth c sfM 17 base D cA cX11_next 7 RX11) (hr : meth.sig.returnType = some .int) (hR : 2 ≤ R.frames ∧ 49 ≤ R.locals) {res : cr_S × Int32} (σ : cr_S) (a1 : Int32) (a2 : Int32) (h : f_X11_next σ a1 a2 = some res) : cr_W p l e R s m args below meth c sfM 17 base D cA 7 (MQ below (cr_Qi sfM 17 base D cA res) args s 0 0 (cr_A 17 base)) σ 0 [(0, .ref (base + 0)), (1, .int a1), (2, .int a2)] [] := by
  unfold f_X11_next at h
  refine g_iload_n (pc' := 1) C dX11_next_0 1 rfl rfl ?_
  obtain ⟨q1, h2, h⟩ := bind_some h
  refine g_callSi (pc' := 4) (res := q1) C [.int a1] cY_X11_isSecond mv_X11_isSecond mm_X11_222 ⟨Nat.le_trans (by decide) hR.1, Nat.le_trans (by decide) hR.2⟩ rfl (Nat.le_of_ble_eq_true rfl) rfl dX11_next_1 (c_X11_isSecond l base D cA σ a1 q1 h2) rfl ?_
  refine g_if_eq (pc' := 7) (tgt := 17) C dX11_next_4 (by decide) rfl (fun hc => ?_) (fun hc => ?_)
  · rw [if_pos hc] at h
    refine g_iconst (pc' := 18) (v := (-1)) C dX11_next_17 (by decide) rfl ?_
    exact g_iret C hr dX11_next_18 h
  · rw [if_neg hc] at h
    refine g_iload_n (pc' := 8) C dX11_next_7 2 rfl rfl ?_
    refine g_i2l (pc' := 9) C dX11_next_8 rfl ?_
    refine g_lconst (pc' := 10) (v := 0) C dX11_next_9 (by decide) rfl ?_
    refine g_lconst (pc' := 11) (v := 1) C dX11_next_10 (by decide) rfl ?_
    obtain ⟨q3, h4, h⟩ := bind_some h
    refine g_callSi (pc' := 14) (res := q3) C [.long (Int32.toInt64 a2), .long 0, .long 1] cY_X11_in mv_X11_in mm_X11_66 ⟨Nat.le_trans (by decide) hR.1, Nat.le_trans (by decide) hR.2⟩ rfl (Nat.le_of_ble_eq_true rfl) rfl dX11_next_11 (c_X11_in l base D cA q1.1 (Int32.toInt64 a2) 0 1 q3 h4) rfl ?_
    refine g_if_ne (pc' := 17) (tgt := 19) C dX11_next_14 (by decide) rfl (fun hc => ?_) (fun hc => ?_)
    · rw [if_neg hc] at h
      refine g_bipush (pc' := 21) (v := (-4)) C dX11_next_19 (by decide) rfl ?_
      refine g_istore_n (pc' := 22) (lv' := [(3, .int (-4)), (0, .ref (base + 0)), (1, .int a1), (2, .int a2)]) C dX11_next_21 rfl (by decide) rfl rfl ?_
      refine g_ldc (pc' := 24) (v := 999999) C dX11_next_22 mk_X11_214 rfl ?_
      refine g_istore (pc' := 26) (lv' := [(4, .int 999999), (3, .int (-4)), (0, .ref (base + 0)), (1, .int a1), (2, .int a2)]) C dX11_next_24 (by decide) rfl rfl ?_
      refine g_iload_n (pc' := 27) C dX11_next_26 3 rfl rfl ?_
      refine g_istore (pc' := 29) (lv' := [(5, .int a1), (4, .int 999999), (3, .int (-4)), (0, .ref (base + 0)), (1, .int a1), (2, .int a2)]) C dX11_next_27 (by decide) rfl rfl ?_
      exact g_sub C [3, 4, 5, 2, 1, 0] rfl (w_X11_next_L29 C hr hR _ _ _ _ _ _ _ h)
    · rw [if_pos hc] at h
      refine g_iconst (pc' := 18) (v := (-1)) C dX11_next_17 (by decide) rfl ?_
      exact g_iret C hr dX11_next_18 h
theorem c_X11_next (l : Launch) (base : Nat) (D : va_G) (cA : Nat → ClassId) (σ : cr_S) (a1 : Int32) (a2 : Int32) (res : cr_S × Int32) (h : f_X11_next σ a1 a2 = some res) : cr_M l yX11_next cX11_next 7 (some .int) 2 49 sfM 17 base D cA [.ref (base + 0), .int a1, .int a2] σ (cr_Qi sfM 17 base D cA res) := by
  refine cr_enter [.ref (base + 0), .int a1, .int a2] [(0, .ref (base + 0)), (1, .int a1), (2, .int a2)] (by decide) (Nat.le_of_ble_eq_true rfl) rfl ?_
  intro p e R s m below meth c C hr hR
  exact w_X11_next C hr hR σ a1 a2 h
noncomputable def f_X11_notesRow_1_B25  (σ : cr_S) (x2 : Int32) : Option (cr_S × Int32) :=
  some (σ, x2 + 30)
set_option maxRecDepth 100000 in
set_option maxHeartbeats 4000000 in
theorem w_X11_notesRow_1_B25 (C : cr_C p l e R s m args below meth c sfM 17 base D cA cX11_notesRow 4 RX11) (hr : meth.sig.returnType = some .int) (hR : 0 ≤ R.frames ∧ 0 ≤ R.locals) {res : cr_S × Int32}  (σ : cr_S) (x2 : Int32) (h : f_X11_notesRow_1_B25 σ x2 = some res) : cr_W p l e R s m args below meth c sfM 17 base D cA 4 (MQ below (cr_Qi sfM 17 base D cA res) args s 0 0 (cr_A 17 base)) σ 25 [(1, .ref (base + 1)), (2, .int x2)] [] := by
  unfold f_X11_notesRow_1_B25 at h
  refine g_iload_n (pc' := 26) C dX11_notesRow_25 1 rfl rfl ?_
  refine g_aload_n (pc' := 27) C dX11_notesRow_26 0 rfl rfl ?_
  refine g_alenI (pc' := 28) (v := 30) C (o := 1) (by decide) rfl rfl (by decide) dX11_notesRow_27 rfl ?_
  refine g_iadd (pc' := 29) C dX11_notesRow_28 rfl ?_
  exact g_iret C hr dX11_notesRow_29 h
noncomputable def f_X11_notesRow_1_L2  : Nat → cr_S → Int32 → Int32 → Option (cr_S × Int32)
  | 0, _, _, _ => none
  | n + 1, σ, x2, x3 =>
    (if 30 ≤ x3 then f_X11_notesRow_1_B25 σ x2 else chk (inb x3 30) (chk (inb (x2 + x3) 111) (cr_let (sA σ 12 (x2 + x3) (rA σ 1 x3)) (fun s3 => cr_let (x3 + 1) (fun v5 => f_X11_notesRow_1_L2 n s3 x2 v5)))))
set_option maxRecDepth 100000 in
set_option maxHeartbeats 4000000 in
theorem w_X11_notesRow_1_L2 (C : cr_C p l e R s m args below meth c sfM 17 base D cA cX11_notesRow 4 RX11) (hr : meth.sig.returnType = some .int) (hR : 0 ≤ R.frames ∧ 0 ≤ R.locals) {res : cr_S × Int32}  : ∀ (n : Nat) (σ : cr_S) (x2 : Int32) (x3 : Int32), f_X11_notesRow_1_L2 n σ x2 x3 = some res → cr_W p l e R s m args below meth c sfM 17 base D cA 4 (MQ below (cr_Qi sfM 17 base D cA res) args s 0 0 (cr_A 17 base)) σ 2 [(0, .ref (base + 0)), (1, .ref (base + 1)), (2, .int x2), (3, .int x3)] [] := by
  intro n
  induction n with
  | zero =>
    intro σ x2 x3 h
    cases h
  | succ n ih =>
    intro σ x2 x3 h
    rw [f_X11_notesRow_1_L2] at h
    refine g_iload_n (pc' := 3) C dX11_notesRow_2 3 rfl rfl ?_
    refine g_aload_n (pc' := 4) C dX11_notesRow_3 1 rfl rfl ?_
    refine g_alenI (pc' := 5) (v := 30) C (o := 1) (by decide) rfl rfl (by decide) dX11_notesRow_4 rfl ?_
    refine g_icmp_ge (pc' := 8) (tgt := 25) C dX11_notesRow_5 (by decide) rfl (fun hc => ?_) (fun hc => ?_)
    · rw [if_pos hc] at h
      exact g_sub C [1, 2] rfl (w_X11_notesRow_1_B25 C hr hR _ _ h)
    · rw [if_neg hc] at h
      refine g_aload_n (pc' := 9) C dX11_notesRow_8 0 rfl rfl ?_
      refine gg_X11_47 (pc' := 12) C dX11_notesRow_9 rfl ?_
      refine g_iload_n (pc' := 13) C dX11_notesRow_12 2 rfl rfl ?_
      refine g_iload_n (pc' := 14) C dX11_notesRow_13 3 rfl rfl ?_
      refine g_iadd (pc' := 15) C dX11_notesRow_14 rfl ?_
      refine g_aload_n (pc' := 16) C dX11_notesRow_15 1 rfl rfl ?_
      refine g_iload_n (pc' := 17) C dX11_notesRow_16 3 rfl rfl ?_
      obtain ⟨h1, h⟩ := chk_some h
      refine g_iald (pc' := 18) C (o := 1) (by decide) rfl (inb_d h1) dX11_notesRow_17 rfl ?_
      obtain ⟨h2, h⟩ := chk_some h
      obtain ⟨s3, e4, h⟩ := let_some h
      refine g_iast (pc' := 19) C (o := 12) (by decide) rfl (inb_d h2) dX11_notesRow_18 rfl e4 ?_
      obtain ⟨v5, e6, h⟩ := let_some h
      refine g_iinc (pc' := 22) (v := v5) (lv' := [(3, .int v5), (0, .ref (base + 0)), (1, .ref (base + 1)), (2, .int x2)]) C dX11_notesRow_19 3 rfl (by rw [e6]; rfl) (by decide) rfl rfl ?_
      refine g_goto (tgt := 2) C dX11_notesRow_22 (by decide) ?_
      exact g_sub C [1, 2, 3, 0] rfl (ih _ _ _ h)
noncomputable def f_X11_notesRow_1 (σ : cr_S) (a2 : Int32) : Option (cr_S × Int32) :=
  f_X11_notesRow_1_L2 cr_fuel σ a2 0
set_option maxRecDepth 100000 in
set_option maxHeartbeats 4000000 in
theorem w_X11_notesRow_1 (C : cr_C p l e R s m args below meth c sfM 17 base D cA cX11_notesRow 4 RX11) (hr : meth.sig.returnType = some .int) (hR : 0 ≤ R.frames ∧ 0 ≤ R.locals) {res : cr_S × Int32} (σ : cr_S) (a2 : Int32) (h : f_X11_notesRow_1 σ a2 = some res) : cr_W p l e R s m args below meth c sfM 17 base D cA 4 (MQ below (cr_Qi sfM 17 base D cA res) args s 0 0 (cr_A 17 base)) σ 0 [(0, .ref (base + 0)), (1, .ref (base + 1)), (2, .int a2)] [] := by
  unfold f_X11_notesRow_1 at h
  refine g_iconst (pc' := 1) (v := 0) C dX11_notesRow_0 (by decide) rfl ?_
  refine g_istore_n (pc' := 2) (lv' := [(3, .int 0), (0, .ref (base + 0)), (1, .ref (base + 1)), (2, .int a2)]) C dX11_notesRow_1 rfl (by decide) rfl rfl ?_
  exact g_sub C [1, 2, 3, 0] rfl (w_X11_notesRow_1_L2 C hr hR _ _ _ _ h)
theorem c_X11_notesRow_1 (l : Launch) (base : Nat) (D : va_G) (cA : Nat → ClassId) (σ : cr_S) (a2 : Int32) (res : cr_S × Int32) (h : f_X11_notesRow_1 σ a2 = some res) : cr_M l yX11_notesRow cX11_notesRow 4 (some .int) 0 0 sfM 17 base D cA [.ref (base + 0), .ref (base + 1), .int a2] σ (cr_Qi sfM 17 base D cA res) := by
  refine cr_enter [.ref (base + 0), .ref (base + 1), .int a2] [(0, .ref (base + 0)), (1, .ref (base + 1)), (2, .int a2)] (by decide) (Nat.le_of_ble_eq_true rfl) rfl ?_
  intro p e R s m below meth c C hr hR
  exact w_X11_notesRow_1 C hr hR σ a2 h
noncomputable def f_X11_notesRow_2_B25  (σ : cr_S) (x2 : Int32) : Option (cr_S × Int32) :=
  some (σ, x2 + 15)
set_option maxRecDepth 100000 in
set_option maxHeartbeats 4000000 in
theorem w_X11_notesRow_2_B25 (C : cr_C p l e R s m args below meth c sfM 17 base D cA cX11_notesRow 4 RX11) (hr : meth.sig.returnType = some .int) (hR : 0 ≤ R.frames ∧ 0 ≤ R.locals) {res : cr_S × Int32}  (σ : cr_S) (x2 : Int32) (h : f_X11_notesRow_2_B25 σ x2 = some res) : cr_W p l e R s m args below meth c sfM 17 base D cA 4 (MQ below (cr_Qi sfM 17 base D cA res) args s 0 0 (cr_A 17 base)) σ 25 [(1, .ref (base + 2)), (2, .int x2)] [] := by
  unfold f_X11_notesRow_2_B25 at h
  refine g_iload_n (pc' := 26) C dX11_notesRow_25 1 rfl rfl ?_
  refine g_aload_n (pc' := 27) C dX11_notesRow_26 0 rfl rfl ?_
  refine g_alenI (pc' := 28) (v := 15) C (o := 2) (by decide) rfl rfl (by decide) dX11_notesRow_27 rfl ?_
  refine g_iadd (pc' := 29) C dX11_notesRow_28 rfl ?_
  exact g_iret C hr dX11_notesRow_29 h
noncomputable def f_X11_notesRow_2_L2  : Nat → cr_S → Int32 → Int32 → Option (cr_S × Int32)
  | 0, _, _, _ => none
  | n + 1, σ, x2, x3 =>
    (if 15 ≤ x3 then f_X11_notesRow_2_B25 σ x2 else chk (inb x3 15) (chk (inb (x2 + x3) 111) (cr_let (sA σ 12 (x2 + x3) (rA σ 2 x3)) (fun s3 => cr_let (x3 + 1) (fun v5 => f_X11_notesRow_2_L2 n s3 x2 v5)))))
set_option maxRecDepth 100000 in
set_option maxHeartbeats 4000000 in
theorem w_X11_notesRow_2_L2 (C : cr_C p l e R s m args below meth c sfM 17 base D cA cX11_notesRow 4 RX11) (hr : meth.sig.returnType = some .int) (hR : 0 ≤ R.frames ∧ 0 ≤ R.locals) {res : cr_S × Int32}  : ∀ (n : Nat) (σ : cr_S) (x2 : Int32) (x3 : Int32), f_X11_notesRow_2_L2 n σ x2 x3 = some res → cr_W p l e R s m args below meth c sfM 17 base D cA 4 (MQ below (cr_Qi sfM 17 base D cA res) args s 0 0 (cr_A 17 base)) σ 2 [(0, .ref (base + 0)), (1, .ref (base + 2)), (2, .int x2), (3, .int x3)] [] := by
  intro n
  induction n with
  | zero =>
    intro σ x2 x3 h
    cases h
  | succ n ih =>
    intro σ x2 x3 h
    rw [f_X11_notesRow_2_L2] at h
    refine g_iload_n (pc' := 3) C dX11_notesRow_2 3 rfl rfl ?_
    refine g_aload_n (pc' := 4) C dX11_notesRow_3 1 rfl rfl ?_
    refine g_alenI (pc' := 5) (v := 15) C (o := 2) (by decide) rfl rfl (by decide) dX11_notesRow_4 rfl ?_
    refine g_icmp_ge (pc' := 8) (tgt := 25) C dX11_notesRow_5 (by decide) rfl (fun hc => ?_) (fun hc => ?_)
    · rw [if_pos hc] at h
      exact g_sub C [1, 2] rfl (w_X11_notesRow_2_B25 C hr hR _ _ h)
    · rw [if_neg hc] at h
      refine g_aload_n (pc' := 9) C dX11_notesRow_8 0 rfl rfl ?_
      refine gg_X11_47 (pc' := 12) C dX11_notesRow_9 rfl ?_
      refine g_iload_n (pc' := 13) C dX11_notesRow_12 2 rfl rfl ?_
      refine g_iload_n (pc' := 14) C dX11_notesRow_13 3 rfl rfl ?_
      refine g_iadd (pc' := 15) C dX11_notesRow_14 rfl ?_
      refine g_aload_n (pc' := 16) C dX11_notesRow_15 1 rfl rfl ?_
      refine g_iload_n (pc' := 17) C dX11_notesRow_16 3 rfl rfl ?_
      obtain ⟨h1, h⟩ := chk_some h
      refine g_iald (pc' := 18) C (o := 2) (by decide) rfl (inb_d h1) dX11_notesRow_17 rfl ?_
      obtain ⟨h2, h⟩ := chk_some h
      obtain ⟨s3, e4, h⟩ := let_some h
      refine g_iast (pc' := 19) C (o := 12) (by decide) rfl (inb_d h2) dX11_notesRow_18 rfl e4 ?_
      obtain ⟨v5, e6, h⟩ := let_some h
      refine g_iinc (pc' := 22) (v := v5) (lv' := [(3, .int v5), (0, .ref (base + 0)), (1, .ref (base + 2)), (2, .int x2)]) C dX11_notesRow_19 3 rfl (by rw [e6]; rfl) (by decide) rfl rfl ?_
      refine g_goto (tgt := 2) C dX11_notesRow_22 (by decide) ?_
      exact g_sub C [1, 2, 3, 0] rfl (ih _ _ _ h)
noncomputable def f_X11_notesRow_2 (σ : cr_S) (a2 : Int32) : Option (cr_S × Int32) :=
  f_X11_notesRow_2_L2 cr_fuel σ a2 0
set_option maxRecDepth 100000 in
set_option maxHeartbeats 4000000 in
theorem w_X11_notesRow_2 (C : cr_C p l e R s m args below meth c sfM 17 base D cA cX11_notesRow 4 RX11) (hr : meth.sig.returnType = some .int) (hR : 0 ≤ R.frames ∧ 0 ≤ R.locals) {res : cr_S × Int32} (σ : cr_S) (a2 : Int32) (h : f_X11_notesRow_2 σ a2 = some res) : cr_W p l e R s m args below meth c sfM 17 base D cA 4 (MQ below (cr_Qi sfM 17 base D cA res) args s 0 0 (cr_A 17 base)) σ 0 [(0, .ref (base + 0)), (1, .ref (base + 2)), (2, .int a2)] [] := by
  unfold f_X11_notesRow_2 at h
  refine g_iconst (pc' := 1) (v := 0) C dX11_notesRow_0 (by decide) rfl ?_
  refine g_istore_n (pc' := 2) (lv' := [(3, .int 0), (0, .ref (base + 0)), (1, .ref (base + 2)), (2, .int a2)]) C dX11_notesRow_1 rfl (by decide) rfl rfl ?_
  exact g_sub C [1, 2, 3, 0] rfl (w_X11_notesRow_2_L2 C hr hR _ _ _ _ h)
theorem c_X11_notesRow_2 (l : Launch) (base : Nat) (D : va_G) (cA : Nat → ClassId) (σ : cr_S) (a2 : Int32) (res : cr_S × Int32) (h : f_X11_notesRow_2 σ a2 = some res) : cr_M l yX11_notesRow cX11_notesRow 4 (some .int) 0 0 sfM 17 base D cA [.ref (base + 0), .ref (base + 2), .int a2] σ (cr_Qi sfM 17 base D cA res) := by
  refine cr_enter [.ref (base + 0), .ref (base + 2), .int a2] [(0, .ref (base + 0)), (1, .ref (base + 2)), (2, .int a2)] (by decide) (Nat.le_of_ble_eq_true rfl) rfl ?_
  intro p e R s m below meth c C hr hR
  exact w_X11_notesRow_2 C hr hR σ a2 h
noncomputable def f_X11_notesRow_3_B25  (σ : cr_S) (x2 : Int32) : Option (cr_S × Int32) :=
  some (σ, x2 + 4)
set_option maxRecDepth 100000 in
set_option maxHeartbeats 4000000 in
theorem w_X11_notesRow_3_B25 (C : cr_C p l e R s m args below meth c sfM 17 base D cA cX11_notesRow 4 RX11) (hr : meth.sig.returnType = some .int) (hR : 0 ≤ R.frames ∧ 0 ≤ R.locals) {res : cr_S × Int32}  (σ : cr_S) (x2 : Int32) (h : f_X11_notesRow_3_B25 σ x2 = some res) : cr_W p l e R s m args below meth c sfM 17 base D cA 4 (MQ below (cr_Qi sfM 17 base D cA res) args s 0 0 (cr_A 17 base)) σ 25 [(1, .ref (base + 3)), (2, .int x2)] [] := by
  unfold f_X11_notesRow_3_B25 at h
  refine g_iload_n (pc' := 26) C dX11_notesRow_25 1 rfl rfl ?_
  refine g_aload_n (pc' := 27) C dX11_notesRow_26 0 rfl rfl ?_
  refine g_alenI (pc' := 28) (v := 4) C (o := 3) (by decide) rfl rfl (by decide) dX11_notesRow_27 rfl ?_
  refine g_iadd (pc' := 29) C dX11_notesRow_28 rfl ?_
  exact g_iret C hr dX11_notesRow_29 h
noncomputable def f_X11_notesRow_3_L2  : Nat → cr_S → Int32 → Int32 → Option (cr_S × Int32)
  | 0, _, _, _ => none
  | n + 1, σ, x2, x3 =>
    (if 4 ≤ x3 then f_X11_notesRow_3_B25 σ x2 else chk (inb x3 4) (chk (inb (x2 + x3) 111) (cr_let (sA σ 12 (x2 + x3) (rA σ 3 x3)) (fun s3 => cr_let (x3 + 1) (fun v5 => f_X11_notesRow_3_L2 n s3 x2 v5)))))
set_option maxRecDepth 100000 in
set_option maxHeartbeats 4000000 in
theorem w_X11_notesRow_3_L2 (C : cr_C p l e R s m args below meth c sfM 17 base D cA cX11_notesRow 4 RX11) (hr : meth.sig.returnType = some .int) (hR : 0 ≤ R.frames ∧ 0 ≤ R.locals) {res : cr_S × Int32}  : ∀ (n : Nat) (σ : cr_S) (x2 : Int32) (x3 : Int32), f_X11_notesRow_3_L2 n σ x2 x3 = some res → cr_W p l e R s m args below meth c sfM 17 base D cA 4 (MQ below (cr_Qi sfM 17 base D cA res) args s 0 0 (cr_A 17 base)) σ 2 [(0, .ref (base + 0)), (1, .ref (base + 3)), (2, .int x2), (3, .int x3)] [] := by
  intro n
  induction n with
  | zero =>
    intro σ x2 x3 h
    cases h
  | succ n ih =>
    intro σ x2 x3 h
    rw [f_X11_notesRow_3_L2] at h
    refine g_iload_n (pc' := 3) C dX11_notesRow_2 3 rfl rfl ?_
    refine g_aload_n (pc' := 4) C dX11_notesRow_3 1 rfl rfl ?_
    refine g_alenI (pc' := 5) (v := 4) C (o := 3) (by decide) rfl rfl (by decide) dX11_notesRow_4 rfl ?_
    refine g_icmp_ge (pc' := 8) (tgt := 25) C dX11_notesRow_5 (by decide) rfl (fun hc => ?_) (fun hc => ?_)
    · rw [if_pos hc] at h
      exact g_sub C [1, 2] rfl (w_X11_notesRow_3_B25 C hr hR _ _ h)
    · rw [if_neg hc] at h
      refine g_aload_n (pc' := 9) C dX11_notesRow_8 0 rfl rfl ?_
      refine gg_X11_47 (pc' := 12) C dX11_notesRow_9 rfl ?_
      refine g_iload_n (pc' := 13) C dX11_notesRow_12 2 rfl rfl ?_
      refine g_iload_n (pc' := 14) C dX11_notesRow_13 3 rfl rfl ?_
      refine g_iadd (pc' := 15) C dX11_notesRow_14 rfl ?_
      refine g_aload_n (pc' := 16) C dX11_notesRow_15 1 rfl rfl ?_
      refine g_iload_n (pc' := 17) C dX11_notesRow_16 3 rfl rfl ?_
      obtain ⟨h1, h⟩ := chk_some h
      refine g_iald (pc' := 18) C (o := 3) (by decide) rfl (inb_d h1) dX11_notesRow_17 rfl ?_
      obtain ⟨h2, h⟩ := chk_some h
      obtain ⟨s3, e4, h⟩ := let_some h
      refine g_iast (pc' := 19) C (o := 12) (by decide) rfl (inb_d h2) dX11_notesRow_18 rfl e4 ?_
      obtain ⟨v5, e6, h⟩ := let_some h
      refine g_iinc (pc' := 22) (v := v5) (lv' := [(3, .int v5), (0, .ref (base + 0)), (1, .ref (base + 3)), (2, .int x2)]) C dX11_notesRow_19 3 rfl (by rw [e6]; rfl) (by decide) rfl rfl ?_
      refine g_goto (tgt := 2) C dX11_notesRow_22 (by decide) ?_
      exact g_sub C [1, 2, 3, 0] rfl (ih _ _ _ h)
noncomputable def f_X11_notesRow_3 (σ : cr_S) (a2 : Int32) : Option (cr_S × Int32) :=
  f_X11_notesRow_3_L2 cr_fuel σ a2 0
set_option maxRecDepth 100000 in
set_option maxHeartbeats 4000000 in
theorem w_X11_notesRow_3 (C : cr_C p l e R s m args below meth c sfM 17 base D cA cX11_notesRow 4 RX11) (hr : meth.sig.returnType = some .int) (hR : 0 ≤ R.frames ∧ 0 ≤ R.locals) {res : cr_S × Int32} (σ : cr_S) (a2 : Int32) (h : f_X11_notesRow_3 σ a2 = some res) : cr_W p l e R s m args below meth c sfM 17 base D cA 4 (MQ below (cr_Qi sfM 17 base D cA res) args s 0 0 (cr_A 17 base)) σ 0 [(0, .ref (base + 0)), (1, .ref (base + 3)), (2, .int a2)] [] := by
  unfold f_X11_notesRow_3 at h
  refine g_iconst (pc' := 1) (v := 0) C dX11_notesRow_0 (by decide) rfl ?_
  refine g_istore_n (pc' := 2) (lv' := [(3, .int 0), (0, .ref (base + 0)), (1, .ref (base + 3)), (2, .int a2)]) C dX11_notesRow_1 rfl (by decide) rfl rfl ?_
  exact g_sub C [1, 2, 3, 0] rfl (w_X11_notesRow_3_L2 C hr hR _ _ _ _ h)
theorem c_X11_notesRow_3 (l : Launch) (base : Nat) (D : va_G) (cA : Nat → ClassId) (σ : cr_S) (a2 : Int32) (res : cr_S × Int32) (h : f_X11_notesRow_3 σ a2 = some res) : cr_M l yX11_notesRow cX11_notesRow 4 (some .int) 0 0 sfM 17 base D cA [.ref (base + 0), .ref (base + 3), .int a2] σ (cr_Qi sfM 17 base D cA res) := by
  refine cr_enter [.ref (base + 0), .ref (base + 3), .int a2] [(0, .ref (base + 0)), (1, .ref (base + 3)), (2, .int a2)] (by decide) (Nat.le_of_ble_eq_true rfl) rfl ?_
  intro p e R s m below meth c C hr hR
  exact w_X11_notesRow_3 C hr hR σ a2 h
noncomputable def f_X11_notesRow_8_B25  (σ : cr_S) (x2 : Int32) : Option (cr_S × Int32) :=
  some (σ, x2 + 32)
set_option maxRecDepth 100000 in
set_option maxHeartbeats 4000000 in
theorem w_X11_notesRow_8_B25 (C : cr_C p l e R s m args below meth c sfM 17 base D cA cX11_notesRow 4 RX11) (hr : meth.sig.returnType = some .int) (hR : 0 ≤ R.frames ∧ 0 ≤ R.locals) {res : cr_S × Int32}  (σ : cr_S) (x2 : Int32) (h : f_X11_notesRow_8_B25 σ x2 = some res) : cr_W p l e R s m args below meth c sfM 17 base D cA 4 (MQ below (cr_Qi sfM 17 base D cA res) args s 0 0 (cr_A 17 base)) σ 25 [(1, .ref (base + 8)), (2, .int x2)] [] := by
  unfold f_X11_notesRow_8_B25 at h
  refine g_iload_n (pc' := 26) C dX11_notesRow_25 1 rfl rfl ?_
  refine g_aload_n (pc' := 27) C dX11_notesRow_26 0 rfl rfl ?_
  refine g_alenI (pc' := 28) (v := 32) C (o := 8) (by decide) rfl rfl (by decide) dX11_notesRow_27 rfl ?_
  refine g_iadd (pc' := 29) C dX11_notesRow_28 rfl ?_
  exact g_iret C hr dX11_notesRow_29 h
noncomputable def f_X11_notesRow_8_L2  : Nat → cr_S → Int32 → Int32 → Option (cr_S × Int32)
  | 0, _, _, _ => none
  | n + 1, σ, x2, x3 =>
    (if 32 ≤ x3 then f_X11_notesRow_8_B25 σ x2 else chk (inb x3 32) (chk (inb (x2 + x3) 111) (cr_let (sA σ 12 (x2 + x3) (rA σ 8 x3)) (fun s3 => cr_let (x3 + 1) (fun v5 => f_X11_notesRow_8_L2 n s3 x2 v5)))))
set_option maxRecDepth 100000 in
set_option maxHeartbeats 4000000 in
theorem w_X11_notesRow_8_L2 (C : cr_C p l e R s m args below meth c sfM 17 base D cA cX11_notesRow 4 RX11) (hr : meth.sig.returnType = some .int) (hR : 0 ≤ R.frames ∧ 0 ≤ R.locals) {res : cr_S × Int32}  : ∀ (n : Nat) (σ : cr_S) (x2 : Int32) (x3 : Int32), f_X11_notesRow_8_L2 n σ x2 x3 = some res → cr_W p l e R s m args below meth c sfM 17 base D cA 4 (MQ below (cr_Qi sfM 17 base D cA res) args s 0 0 (cr_A 17 base)) σ 2 [(0, .ref (base + 0)), (1, .ref (base + 8)), (2, .int x2), (3, .int x3)] [] := by
  intro n
  induction n with
  | zero =>
    intro σ x2 x3 h
    cases h
  | succ n ih =>
    intro σ x2 x3 h
    rw [f_X11_notesRow_8_L2] at h
    refine g_iload_n (pc' := 3) C dX11_notesRow_2 3 rfl rfl ?_
    refine g_aload_n (pc' := 4) C dX11_notesRow_3 1 rfl rfl ?_
    refine g_alenI (pc' := 5) (v := 32) C (o := 8) (by decide) rfl rfl (by decide) dX11_notesRow_4 rfl ?_
    refine g_icmp_ge (pc' := 8) (tgt := 25) C dX11_notesRow_5 (by decide) rfl (fun hc => ?_) (fun hc => ?_)
    · rw [if_pos hc] at h
      exact g_sub C [1, 2] rfl (w_X11_notesRow_8_B25 C hr hR _ _ h)
    · rw [if_neg hc] at h
      refine g_aload_n (pc' := 9) C dX11_notesRow_8 0 rfl rfl ?_
      refine gg_X11_47 (pc' := 12) C dX11_notesRow_9 rfl ?_
      refine g_iload_n (pc' := 13) C dX11_notesRow_12 2 rfl rfl ?_
      refine g_iload_n (pc' := 14) C dX11_notesRow_13 3 rfl rfl ?_
      refine g_iadd (pc' := 15) C dX11_notesRow_14 rfl ?_
      refine g_aload_n (pc' := 16) C dX11_notesRow_15 1 rfl rfl ?_
      refine g_iload_n (pc' := 17) C dX11_notesRow_16 3 rfl rfl ?_
      obtain ⟨h1, h⟩ := chk_some h
      refine g_iald (pc' := 18) C (o := 8) (by decide) rfl (inb_d h1) dX11_notesRow_17 rfl ?_
      obtain ⟨h2, h⟩ := chk_some h
      obtain ⟨s3, e4, h⟩ := let_some h
      refine g_iast (pc' := 19) C (o := 12) (by decide) rfl (inb_d h2) dX11_notesRow_18 rfl e4 ?_
      obtain ⟨v5, e6, h⟩ := let_some h
      refine g_iinc (pc' := 22) (v := v5) (lv' := [(3, .int v5), (0, .ref (base + 0)), (1, .ref (base + 8)), (2, .int x2)]) C dX11_notesRow_19 3 rfl (by rw [e6]; rfl) (by decide) rfl rfl ?_
      refine g_goto (tgt := 2) C dX11_notesRow_22 (by decide) ?_
      exact g_sub C [1, 2, 3, 0] rfl (ih _ _ _ h)
noncomputable def f_X11_notesRow_8 (σ : cr_S) (a2 : Int32) : Option (cr_S × Int32) :=
  f_X11_notesRow_8_L2 cr_fuel σ a2 0
set_option maxRecDepth 100000 in
set_option maxHeartbeats 4000000 in
theorem w_X11_notesRow_8 (C : cr_C p l e R s m args below meth c sfM 17 base D cA cX11_notesRow 4 RX11) (hr : meth.sig.returnType = some .int) (hR : 0 ≤ R.frames ∧ 0 ≤ R.locals) {res : cr_S × Int32} (σ : cr_S) (a2 : Int32) (h : f_X11_notesRow_8 σ a2 = some res) : cr_W p l e R s m args below meth c sfM 17 base D cA 4 (MQ below (cr_Qi sfM 17 base D cA res) args s 0 0 (cr_A 17 base)) σ 0 [(0, .ref (base + 0)), (1, .ref (base + 8)), (2, .int a2)] [] := by
  unfold f_X11_notesRow_8 at h
  refine g_iconst (pc' := 1) (v := 0) C dX11_notesRow_0 (by decide) rfl ?_
  refine g_istore_n (pc' := 2) (lv' := [(3, .int 0), (0, .ref (base + 0)), (1, .ref (base + 8)), (2, .int a2)]) C dX11_notesRow_1 rfl (by decide) rfl rfl ?_
  exact g_sub C [1, 2, 3, 0] rfl (w_X11_notesRow_8_L2 C hr hR _ _ _ _ h)
theorem c_X11_notesRow_8 (l : Launch) (base : Nat) (D : va_G) (cA : Nat → ClassId) (σ : cr_S) (a2 : Int32) (res : cr_S × Int32) (h : f_X11_notesRow_8 σ a2 = some res) : cr_M l yX11_notesRow cX11_notesRow 4 (some .int) 0 0 sfM 17 base D cA [.ref (base + 0), .ref (base + 8), .int a2] σ (cr_Qi sfM 17 base D cA res) := by
  refine cr_enter [.ref (base + 0), .ref (base + 8), .int a2] [(0, .ref (base + 0)), (1, .ref (base + 8)), (2, .int a2)] (by decide) (Nat.le_of_ble_eq_true rfl) rfl ?_
  intro p e R s m below meth c C hr hR
  exact w_X11_notesRow_8 C hr hR σ a2 h
noncomputable def f_X11_notesRow_10_B25  (σ : cr_S) (x2 : Int32) : Option (cr_S × Int32) :=
  some (σ, x2 + 12)
set_option maxRecDepth 100000 in
set_option maxHeartbeats 4000000 in
theorem w_X11_notesRow_10_B25 (C : cr_C p l e R s m args below meth c sfM 17 base D cA cX11_notesRow 4 RX11) (hr : meth.sig.returnType = some .int) (hR : 0 ≤ R.frames ∧ 0 ≤ R.locals) {res : cr_S × Int32}  (σ : cr_S) (x2 : Int32) (h : f_X11_notesRow_10_B25 σ x2 = some res) : cr_W p l e R s m args below meth c sfM 17 base D cA 4 (MQ below (cr_Qi sfM 17 base D cA res) args s 0 0 (cr_A 17 base)) σ 25 [(1, .ref (base + 10)), (2, .int x2)] [] := by
  unfold f_X11_notesRow_10_B25 at h
  refine g_iload_n (pc' := 26) C dX11_notesRow_25 1 rfl rfl ?_
  refine g_aload_n (pc' := 27) C dX11_notesRow_26 0 rfl rfl ?_
  refine g_alenI (pc' := 28) (v := 12) C (o := 10) (by decide) rfl rfl (by decide) dX11_notesRow_27 rfl ?_
  refine g_iadd (pc' := 29) C dX11_notesRow_28 rfl ?_
  exact g_iret C hr dX11_notesRow_29 h
noncomputable def f_X11_notesRow_10_L2  : Nat → cr_S → Int32 → Int32 → Option (cr_S × Int32)
  | 0, _, _, _ => none
  | n + 1, σ, x2, x3 =>
    (if 12 ≤ x3 then f_X11_notesRow_10_B25 σ x2 else chk (inb x3 12) (chk (inb (x2 + x3) 111) (cr_let (sA σ 12 (x2 + x3) (rA σ 10 x3)) (fun s3 => cr_let (x3 + 1) (fun v5 => f_X11_notesRow_10_L2 n s3 x2 v5)))))
set_option maxRecDepth 100000 in
set_option maxHeartbeats 4000000 in
theorem w_X11_notesRow_10_L2 (C : cr_C p l e R s m args below meth c sfM 17 base D cA cX11_notesRow 4 RX11) (hr : meth.sig.returnType = some .int) (hR : 0 ≤ R.frames ∧ 0 ≤ R.locals) {res : cr_S × Int32}  : ∀ (n : Nat) (σ : cr_S) (x2 : Int32) (x3 : Int32), f_X11_notesRow_10_L2 n σ x2 x3 = some res → cr_W p l e R s m args below meth c sfM 17 base D cA 4 (MQ below (cr_Qi sfM 17 base D cA res) args s 0 0 (cr_A 17 base)) σ 2 [(0, .ref (base + 0)), (1, .ref (base + 10)), (2, .int x2), (3, .int x3)] [] := by
  intro n
  induction n with
  | zero =>
    intro σ x2 x3 h
    cases h
  | succ n ih =>
    intro σ x2 x3 h
    rw [f_X11_notesRow_10_L2] at h
    refine g_iload_n (pc' := 3) C dX11_notesRow_2 3 rfl rfl ?_
    refine g_aload_n (pc' := 4) C dX11_notesRow_3 1 rfl rfl ?_
    refine g_alenI (pc' := 5) (v := 12) C (o := 10) (by decide) rfl rfl (by decide) dX11_notesRow_4 rfl ?_
    refine g_icmp_ge (pc' := 8) (tgt := 25) C dX11_notesRow_5 (by decide) rfl (fun hc => ?_) (fun hc => ?_)
    · rw [if_pos hc] at h
      exact g_sub C [1, 2] rfl (w_X11_notesRow_10_B25 C hr hR _ _ h)
    · rw [if_neg hc] at h
      refine g_aload_n (pc' := 9) C dX11_notesRow_8 0 rfl rfl ?_
      refine gg_X11_47 (pc' := 12) C dX11_notesRow_9 rfl ?_
      refine g_iload_n (pc' := 13) C dX11_notesRow_12 2 rfl rfl ?_
      refine g_iload_n (pc' := 14) C dX11_notesRow_13 3 rfl rfl ?_
      refine g_iadd (pc' := 15) C dX11_notesRow_14 rfl ?_
      refine g_aload_n (pc' := 16) C dX11_notesRow_15 1 rfl rfl ?_
      refine g_iload_n (pc' := 17) C dX11_notesRow_16 3 rfl rfl ?_
      obtain ⟨h1, h⟩ := chk_some h
      refine g_iald (pc' := 18) C (o := 10) (by decide) rfl (inb_d h1) dX11_notesRow_17 rfl ?_
      obtain ⟨h2, h⟩ := chk_some h
      obtain ⟨s3, e4, h⟩ := let_some h
      refine g_iast (pc' := 19) C (o := 12) (by decide) rfl (inb_d h2) dX11_notesRow_18 rfl e4 ?_
      obtain ⟨v5, e6, h⟩ := let_some h
      refine g_iinc (pc' := 22) (v := v5) (lv' := [(3, .int v5), (0, .ref (base + 0)), (1, .ref (base + 10)), (2, .int x2)]) C dX11_notesRow_19 3 rfl (by rw [e6]; rfl) (by decide) rfl rfl ?_
      refine g_goto (tgt := 2) C dX11_notesRow_22 (by decide) ?_
      exact g_sub C [1, 2, 3, 0] rfl (ih _ _ _ h)
noncomputable def f_X11_notesRow_10 (σ : cr_S) (a2 : Int32) : Option (cr_S × Int32) :=
  f_X11_notesRow_10_L2 cr_fuel σ a2 0
set_option maxRecDepth 100000 in
set_option maxHeartbeats 4000000 in
theorem w_X11_notesRow_10 (C : cr_C p l e R s m args below meth c sfM 17 base D cA cX11_notesRow 4 RX11) (hr : meth.sig.returnType = some .int) (hR : 0 ≤ R.frames ∧ 0 ≤ R.locals) {res : cr_S × Int32} (σ : cr_S) (a2 : Int32) (h : f_X11_notesRow_10 σ a2 = some res) : cr_W p l e R s m args below meth c sfM 17 base D cA 4 (MQ below (cr_Qi sfM 17 base D cA res) args s 0 0 (cr_A 17 base)) σ 0 [(0, .ref (base + 0)), (1, .ref (base + 10)), (2, .int a2)] [] := by
  unfold f_X11_notesRow_10 at h
  refine g_iconst (pc' := 1) (v := 0) C dX11_notesRow_0 (by decide) rfl ?_
  refine g_istore_n (pc' := 2) (lv' := [(3, .int 0), (0, .ref (base + 0)), (1, .ref (base + 10)), (2, .int a2)]) C dX11_notesRow_1 rfl (by decide) rfl rfl ?_
  exact g_sub C [1, 2, 3, 0] rfl (w_X11_notesRow_10_L2 C hr hR _ _ _ _ h)
theorem c_X11_notesRow_10 (l : Launch) (base : Nat) (D : va_G) (cA : Nat → ClassId) (σ : cr_S) (a2 : Int32) (res : cr_S × Int32) (h : f_X11_notesRow_10 σ a2 = some res) : cr_M l yX11_notesRow cX11_notesRow 4 (some .int) 0 0 sfM 17 base D cA [.ref (base + 0), .ref (base + 10), .int a2] σ (cr_Qi sfM 17 base D cA res) := by
  refine cr_enter [.ref (base + 0), .ref (base + 10), .int a2] [(0, .ref (base + 0)), (1, .ref (base + 10)), (2, .int a2)] (by decide) (Nat.le_of_ble_eq_true rfl) rfl ?_
  intro p e R s m below meth c C hr hR
  exact w_X11_notesRow_10 C hr hR σ a2 h
end

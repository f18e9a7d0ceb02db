section
variable {p : Program} {l : Launch} {e : Env} {R : Room} {s : State} {m : MethodId} {args : Array Value} {below : List Frame} {meth : Method} {c : Code} {base : Nat} {D : va_G} {cA : Nat → ClassId}
noncomputable def f_X10_look (σ : cr_S) (a1 : Int32) (a2 : Int32) : Option (cr_S × Int32) :=
  Option.bind (f_X10_isWithin σ a1 0 9999) (fun q1 => (if q1.2 = 0 then some (q1.1, (-1)) else Option.bind (f_X10_isWithin q1.1 a2 0 1) (fun q3 => (if q3.2 = 0 then some (q3.1, (-1)) else Option.bind (f_X2_add_6 q3.1 a1 a2) (fun q5 => some (q5.1, if q5.2 = 0 then (-3) else rF q5.1 6 2))))))
set_option maxRecDepth 100000 in
set_option maxHeartbeats 4000000 in
theorem w_X10_look (C : cr_C p l e R s m args below meth c sfC 97 base D cA cX10_look 3 RX10) (hr : meth.sig.returnType = some .int) (hR : 1 ≤ R.frames ∧ 22 ≤ R.locals) {res : cr_S × Int32} (σ : cr_S) (a1 : Int32) (a2 : Int32) (h : f_X10_look σ a1 a2 = some res) : cr_W p l e R s m args below meth c sfC 97 base D cA 3 (MQ below (cr_Qi sfC 97 base D cA res) args s 0 0 (cr_A 97 base)) σ 0 [(0, .ref (base + 0)), (1, .int a1), (2, .int a2)] [] := by
  unfold f_X10_look at h
  refine g_iload_n (pc' := 1) C dX10_look_0 1 rfl rfl ?_
  refine g_iconst (pc' := 2) (v := 0) C dX10_look_1 (by decide) rfl ?_
  refine g_sipush (pc' := 5) (v := 9999) C dX10_look_2 (by decide) rfl ?_
  obtain ⟨q1, h2, h⟩ := bind_some h
  refine g_callSi (pc' := 8) (res := q1) C [.int a1, .int 0, .int 9999] cY_X10_isWithin mv_X10_isWithin mm_X10_54 ⟨Nat.le_trans (by decide) hR.1, Nat.le_trans (by decide) hR.2⟩ rfl (Nat.le_of_ble_eq_true rfl) rfl dX10_look_5 (c_X10_isWithin l base D cA σ a1 0 9999 q1 h2) rfl ?_
  refine g_if_eq (pc' := 11) (tgt := 20) C dX10_look_8 (by decide) rfl (fun hc => ?_) (fun hc => ?_)
  · rw [if_pos hc] at h
    refine g_iconst (pc' := 21) (v := (-1)) C dX10_look_20 (by decide) rfl ?_
    exact g_iret C hr dX10_look_21 h
  · rw [if_neg hc] at h
    refine g_iload_n (pc' := 12) C dX10_look_11 2 rfl rfl ?_
    refine g_iconst (pc' := 13) (v := 0) C dX10_look_12 (by decide) rfl ?_
    refine g_iconst (pc' := 14) (v := 1) C dX10_look_13 (by decide) rfl ?_
    obtain ⟨q3, h4, h⟩ := bind_some h
    refine g_callSi (pc' := 17) (res := q3) C [.int a2, .int 0, .int 1] cY_X10_isWithin mv_X10_isWithin mm_X10_54 ⟨Nat.le_trans (by decide) hR.1, Nat.le_trans (by decide) hR.2⟩ rfl (Nat.le_of_ble_eq_true rfl) rfl dX10_look_14 (c_X10_isWithin l base D cA q1.1 a2 0 1 q3 h4) rfl ?_
    refine g_if_ne (pc' := 20) (tgt := 22) C dX10_look_17 (by decide) rfl (fun hc => ?_) (fun hc => ?_)
    · rw [if_neg hc] at h
      refine g_aload_n (pc' := 23) C dX10_look_22 0 rfl rfl ?_
      refine gg_X10_12 (pc' := 26) (o := 0) (r := 1) C rfl rfl dX10_look_23 rfl ?_
      refine gg_X10_170 (pc' := 29) (o := 1) (r := 6) C rfl rfl dX10_look_26 rfl ?_
      refine g_iload_n (pc' := 30) C dX10_look_29 1 rfl rfl ?_
      refine g_iload_n (pc' := 31) C dX10_look_30 2 rfl rfl ?_
      obtain ⟨q5, h6, h⟩ := bind_some h
      refine g_callVi (pc' := 34) (res := q5) C [.int a1, .int a2] cY_X2_add rfl (o := 6) (by decide) rfl mv_X2_add mm_X10_263 ⟨Nat.le_trans (by decide) hR.1, Nat.le_trans (by decide) hR.2⟩ rfl (Nat.le_of_ble_eq_true rfl) rfl dX10_look_31 (c_X2_add_6 l base D cA q3.1 a1 a2 q5 h6) rfl ?_
      refine g_iteI (σ := q5.1) (pj := 52) (lv := [(0, .ref (base + 0)), (1, .int a1), (2, .int a2)]) (st := []) (cd := q5.2 = 0) (a := (-3)) (b := rF q5.1 6 2) C ?_ (fun kt kf => ?_)
      · exact g_iret C hr dX10_look_52 h
      · refine g_if_eq (pc' := 37) (tgt := 50) C dX10_look_34 (by decide) rfl (fun hc => ?_) (fun hc => ?_)
        · refine g_bipush (pc' := 52) (v := (-3)) C dX10_look_50 (by decide) rfl ?_
          exact kt hc
        · refine g_aload_n (pc' := 38) C dX10_look_37 0 rfl rfl ?_
          refine gg_X10_12 (pc' := 41) (o := 0) (r := 1) C rfl rfl dX10_look_38 rfl ?_
          refine gg_X10_170 (pc' := 44) (o := 1) (r := 6) C rfl rfl dX10_look_41 rfl ?_
          refine gg_X10_174 (pc' := 47) (o := 6) C rfl dX10_look_44 rfl ?_
          refine g_goto (tgt := 52) C dX10_look_47 (by decide) ?_
          exact kf hc
    · rw [if_pos hc] at h
      refine g_iconst (pc' := 21) (v := (-1)) C dX10_look_20 (by decide) rfl ?_
      exact g_iret C hr dX10_look_21 h
theorem c_X10_look (l : Launch) (base : Nat) (D : va_G) (cA : Nat → ClassId) (σ : cr_S) (a1 : Int32) (a2 : Int32) (res : cr_S × Int32) (h : f_X10_look σ a1 a2 = some res) : cr_M l yX10_look cX10_look 3 (some .int) 1 22 sfC 97 base D cA [.ref (base + 0), .int a1, .int a2] σ (cr_Qi sfC 97 base D cA res) := by
  refine cr_enter [.ref (base + 0), .int a1, .int a2] [(0, .ref (base + 0)), (1, .int a1), (2, .int a2)] (by decide) (Nat.le_of_ble_eq_true rfl) rfl ?_
  intro p e R s m below meth c C hr hR
  exact w_X10_look C hr hR σ a1 a2 h
noncomputable def f_X10_forget (σ : cr_S) : Option (cr_S × Int32) :=
  cr_let (rF σ 6 2) (fun v1 => cr_let (sF σ 6 2 0) (fun s3 => some (s3, v1)))
set_option maxRecDepth 100000 in
set_option maxHeartbeats 4000000 in
theorem w_X10_forget (C : cr_C p l e R s m args below meth c sfC 97 base D cA cX10_forget 2 RX10) (hr : meth.sig.returnType = some .int) (hR : 0 ≤ R.frames ∧ 0 ≤ R.locals) {res : cr_S × Int32} (σ : cr_S) (h : f_X10_forget σ = some res) : cr_W p l e R s m args below meth c sfC 97 base D cA 2 (MQ below (cr_Qi sfC 97 base D cA res) args s 0 0 (cr_A 97 base)) σ 0 [(0, .ref (base + 0))] [] := by
  unfold f_X10_forget at h
  refine g_aload_n (pc' := 1) C dX10_forget_0 0 rfl rfl ?_
  refine gg_X10_12 (pc' := 4) (o := 0) (r := 1) C rfl rfl dX10_forget_1 rfl ?_
  refine gg_X10_170 (pc' := 7) (o := 1) (r := 6) C rfl rfl dX10_forget_4 rfl ?_
  refine gg_X10_174 (pc' := 10) (o := 6) C rfl dX10_forget_7 rfl ?_
  obtain ⟨v1, e2, h⟩ := let_some h
  refine g_nameI e2 ?_
  refine g_istore_n (pc' := 11) (lv' := [(1, .int v1), (0, .ref (base + 0))]) C dX10_forget_10 rfl (by decide) rfl rfl ?_
  refine g_aload_n (pc' := 12) C dX10_forget_11 1 rfl rfl ?_
  refine gg_X10_12 (pc' := 15) (o := 0) (r := 1) C rfl rfl dX10_forget_12 rfl ?_
  refine gg_X10_170 (pc' := 18) (o := 1) (r := 6) C rfl rfl dX10_forget_15 rfl ?_
  refine g_iconst (pc' := 19) (v := 0) C dX10_forget_18 (by decide) rfl ?_
  obtain ⟨s3, e4, h⟩ := let_some h
  refine gp_X10_174 (pc' := 22) (o := 6) C rfl dX10_forget_19 rfl e4 ?_
  refine g_iload_n (pc' := 23) C dX10_forget_22 0 rfl rfl ?_
  exact g_iret C hr dX10_forget_23 h
theorem c_X10_forget (l : Launch) (base : Nat) (D : va_G) (cA : Nat → ClassId) (σ : cr_S) (res : cr_S × Int32) (h : f_X10_forget σ = some res) : cr_M l yX10_forget cX10_forget 2 (some .int) 0 0 sfC 97 base D cA [.ref (base + 0)] σ (cr_Qi sfC 97 base D cA res) := by
  refine cr_enter [.ref (base + 0)] [(0, .ref (base + 0))] (by decide) (Nat.le_of_ble_eq_true rfl) rfl ?_
  intro p e R s m below meth c C hr hR
  exact w_X10_forget C hr hR σ h
noncomputable def f_J7_fill_53178_87_L5  : Nat → cr_S → Int32 → Int32 → Int32 → Option (cr_S)
  | 0, _, _, _, _ => none
  | n + 1, σ, x1, x2, x3 =>
    (if x3 ≤ x2 then some σ else chk (inb x2 60) (cr_let (sA σ 87 x2 x1) (fun s2 => cr_let (x2 + 1) (fun v4 => f_J7_fill_53178_87_L5 n s2 x1 v4 x3))))
set_option maxRecDepth 100000 in
set_option maxHeartbeats 4000000 in
theorem w_J7_fill_53178_87_L5 (C : cr_C p l e R s m args below meth c sfC 97 base D cA cJ7_fill_53178 4 RJ7) (hr : meth.sig.returnType = none) (hR : 0 ≤ R.frames ∧ 0 ≤ R.locals) {res : cr_S}  : ∀ (n : Nat) (σ : cr_S) (x1 : Int32) (x2 : Int32) (x3 : Int32), f_J7_fill_53178_87_L5 n σ x1 x2 x3 = some res → cr_W p l e R s m args below meth c sfC 97 base D cA 4 (MQ below (cr_Qv sfC 97 base D cA res) args s 0 0 (cr_A 97 base)) σ 5 [(0, .ref (base + 87)), (1, .int x1), (2, .int x2), (3, .int x3)] [] := by
  intro n
  induction n with
  | zero =>
    intro σ x1 x2 x3 h
    cases h
  | succ n ih =>
    intro σ x1 x2 x3 h
    rw [f_J7_fill_53178_87_L5] at h
    refine g_iload_n (pc' := 6) C dJ7_fill_53178_5 2 rfl rfl ?_
    refine g_iload_n (pc' := 7) C dJ7_fill_53178_6 3 rfl rfl ?_
    refine g_icmp_ge (pc' := 10) (tgt := 20) C dJ7_fill_53178_7 (by decide) rfl (fun hc => ?_) (fun hc => ?_)
    · rw [if_pos hc] at h
      exact g_vret C hr dJ7_fill_53178_20 h
    · rw [if_neg hc] at h
      refine g_aload_n (pc' := 11) C dJ7_fill_53178_10 0 rfl rfl ?_
      refine g_iload_n (pc' := 12) C dJ7_fill_53178_11 2 rfl rfl ?_
      refine g_iload_n (pc' := 13) C dJ7_fill_53178_12 1 rfl rfl ?_
      obtain ⟨h1, h⟩ := chk_some h
      obtain ⟨s2, e3, h⟩ := let_some h
      refine g_iast (pc' := 14) C (o := 87) (by decide) rfl (inb_d h1) dJ7_fill_53178_13 rfl e3 ?_
      obtain ⟨v4, e5, h⟩ := let_some h
      refine g_iinc (pc' := 17) (v := v4) (lv' := [(2, .int v4), (0, .ref (base + 87)), (1, .int x1), (3, .int x3)]) C dJ7_fill_53178_14 2 rfl (by rw [e5]; rfl) (by decide) rfl rfl ?_
      refine g_goto (tgt := 5) C dJ7_fill_53178_17 (by decide) ?_
      exact g_sub C [1, 2, 0, 3] rfl (ih _ _ _ _ h)
noncomputable def f_J7_fill_53178_87 (σ : cr_S) (a1 : Int32) : Option (cr_S) :=
  f_J7_fill_53178_87_L5 cr_fuel σ a1 0 60
set_option maxRecDepth 100000 in
set_option maxHeartbeats 4000000 in
theorem w_J7_fill_53178_87 (C : cr_C p l e R s m args below meth c sfC 97 base D cA cJ7_fill_53178 4 RJ7) (hr : meth.sig.returnType = none) (hR : 0 ≤ R.frames ∧ 0 ≤ R.locals) {res : cr_S} (σ : cr_S) (a1 : Int32) (h : f_J7_fill_53178_87 σ a1 = some res) : cr_W p l e R s m args below meth c sfC 97 base D cA 4 (MQ below (cr_Qv sfC 97 base D cA res) args s 0 0 (cr_A 97 base)) σ 0 [(0, .ref (base + 87)), (1, .int a1)] [] := by
  unfold f_J7_fill_53178_87 at h
  refine g_iconst (pc' := 1) (v := 0) C dJ7_fill_53178_0 (by decide) rfl ?_
  refine g_istore_n (pc' := 2) (lv' := [(2, .int 0), (0, .ref (base + 87)), (1, .int a1)]) C dJ7_fill_53178_1 rfl (by decide) rfl rfl ?_
  refine g_aload_n (pc' := 3) C dJ7_fill_53178_2 1 rfl rfl ?_
  refine g_alenI (pc' := 4) (v := 60) C (o := 87) (by decide) rfl rfl (by decide) dJ7_fill_53178_3 rfl ?_
  refine g_istore_n (pc' := 5) (lv' := [(3, .int 60), (2, .int 0), (0, .ref (base + 87)), (1, .int a1)]) C dJ7_fill_53178_4 rfl (by decide) rfl rfl ?_
  exact g_sub C [2, 3, 1, 0] rfl (w_J7_fill_53178_87_L5 C hr hR _ _ _ _ _ h)
theorem c_J7_fill_53178_87 (l : Launch) (base : Nat) (D : va_G) (cA : Nat → ClassId) (σ : cr_S) (a1 : Int32) (res : cr_S) (h : f_J7_fill_53178_87 σ a1 = some res) : cr_M l yJ7_fill_53178 cJ7_fill_53178 4 none 0 0 sfC 97 base D cA [.ref (base + 87), .int a1] σ (cr_Qv sfC 97 base D cA res) := by
  refine cr_enter [.ref (base + 87), .int a1] [(0, .ref (base + 87)), (1, .int a1)] (by decide) (Nat.le_of_ble_eq_true rfl) rfl ?_
  intro p e R s m below meth c C hr hR
  exact w_J7_fill_53178_87 C hr hR σ a1 h
noncomputable def f_J7_fill_53178_86_L5  : Nat → cr_S → Int32 → Int32 → Int32 → Option (cr_S)
  | 0, _, _, _, _ => none
  | n + 1, σ, x1, x2, x3 =>
    (if x3 ≤ x2 then some σ else chk (inb x2 24) (cr_let (sA σ 86 x2 x1) (fun s2 => cr_let (x2 + 1) (fun v4 => f_J7_fill_53178_86_L5 n s2 x1 v4 x3))))
set_option maxRecDepth 100000 in
set_option maxHeartbeats 4000000 in
theorem w_J7_fill_53178_86_L5 (C : cr_C p l e R s m args below meth c sfC 97 base D cA cJ7_fill_53178 4 RJ7) (hr : meth.sig.returnType = none) (hR : 0 ≤ R.frames ∧ 0 ≤ R.locals) {res : cr_S}  : ∀ (n : Nat) (σ : cr_S) (x1 : Int32) (x2 : Int32) (x3 : Int32), f_J7_fill_53178_86_L5 n σ x1 x2 x3 = some res → cr_W p l e R s m args below meth c sfC 97 base D cA 4 (MQ below (cr_Qv sfC 97 base D cA res) args s 0 0 (cr_A 97 base)) σ 5 [(0, .ref (base + 86)), (1, .int x1), (2, .int x2), (3, .int x3)] [] := by
  intro n
  induction n with
  | zero =>
    intro σ x1 x2 x3 h
    cases h
  | succ n ih =>
    intro σ x1 x2 x3 h
    rw [f_J7_fill_53178_86_L5] at h
    refine g_iload_n (pc' := 6) C dJ7_fill_53178_5 2 rfl rfl ?_
    refine g_iload_n (pc' := 7) C dJ7_fill_53178_6 3 rfl rfl ?_
    refine g_icmp_ge (pc' := 10) (tgt := 20) C dJ7_fill_53178_7 (by decide) rfl (fun hc => ?_) (fun hc => ?_)
    · rw [if_pos hc] at h
      exact g_vret C hr dJ7_fill_53178_20 h
    · rw [if_neg hc] at h
      refine g_aload_n (pc' := 11) C dJ7_fill_53178_10 0 rfl rfl ?_
      refine g_iload_n (pc' := 12) C dJ7_fill_53178_11 2 rfl rfl ?_
      refine g_iload_n (pc' := 13) C dJ7_fill_53178_12 1 rfl rfl ?_
      obtain ⟨h1, h⟩ := chk_some h
      obtain ⟨s2, e3, h⟩ := let_some h
      refine g_iast (pc' := 14) C (o := 86) (by decide) rfl (inb_d h1) dJ7_fill_53178_13 rfl e3 ?_
      obtain ⟨v4, e5, h⟩ := let_some h
      refine g_iinc (pc' := 17) (v := v4) (lv' := [(2, .int v4), (0, .ref (base + 86)), (1, .int x1), (3, .int x3)]) C dJ7_fill_53178_14 2 rfl (by rw [e5]; rfl) (by decide) rfl rfl ?_
      refine g_goto (tgt := 5) C dJ7_fill_53178_17 (by decide) ?_
      exact g_sub C [1, 2, 0, 3] rfl (ih _ _ _ _ h)
noncomputable def f_J7_fill_53178_86 (σ : cr_S) (a1 : Int32) : Option (cr_S) :=
  f_J7_fill_53178_86_L5 cr_fuel σ a1 0 24
set_option maxRecDepth 100000 in
set_option maxHeartbeats 4000000 in
theorem w_J7_fill_53178_86 (C : cr_C p l e R s m args below meth c sfC 97 base D cA cJ7_fill_53178 4 RJ7) (hr : meth.sig.returnType = none) (hR : 0 ≤ R.frames ∧ 0 ≤ R.locals) {res : cr_S} (σ : cr_S) (a1 : Int32) (h : f_J7_fill_53178_86 σ a1 = some res) : cr_W p l e R s m args below meth c sfC 97 base D cA 4 (MQ below (cr_Qv sfC 97 base D cA res) args s 0 0 (cr_A 97 base)) σ 0 [(0, .ref (base + 86)), (1, .int a1)] [] := by
  unfold f_J7_fill_53178_86 at h
  refine g_iconst (pc' := 1) (v := 0) C dJ7_fill_53178_0 (by decide) rfl ?_
  refine g_istore_n (pc' := 2) (lv' := [(2, .int 0), (0, .ref (base + 86)), (1, .int a1)]) C dJ7_fill_53178_1 rfl (by decide) rfl rfl ?_
  refine g_aload_n (pc' := 3) C dJ7_fill_53178_2 1 rfl rfl ?_
  refine g_alenI (pc' := 4) (v := 24) C (o := 86) (by decide) rfl rfl (by decide) dJ7_fill_53178_3 rfl ?_
  refine g_istore_n (pc' := 5) (lv' := [(3, .int 24), (2, .int 0), (0, .ref (base + 86)), (1, .int a1)]) C dJ7_fill_53178_4 rfl (by decide) rfl rfl ?_
  exact g_sub C [2, 3, 1, 0] rfl (w_J7_fill_53178_86_L5 C hr hR _ _ _ _ _ h)
theorem c_J7_fill_53178_86 (l : Launch) (base : Nat) (D : va_G) (cA : Nat → ClassId) (σ : cr_S) (a1 : Int32) (res : cr_S) (h : f_J7_fill_53178_86 σ a1 = some res) : cr_M l yJ7_fill_53178 cJ7_fill_53178 4 none 0 0 sfC 97 base D cA [.ref (base + 86), .int a1] σ (cr_Qv sfC 97 base D cA res) := by
  refine cr_enter [.ref (base + 86), .int a1] [(0, .ref (base + 86)), (1, .int a1)] (by decide) (Nat.le_of_ble_eq_true rfl) rfl ?_
  intro p e R s m below meth c C hr hR
  exact w_J7_fill_53178_86 C hr hR σ a1 h
noncomputable def f_X1_fold_85_6_B82 (r12 : cr_S → Int32 → Int32 → Option (cr_S)) (σ : cr_S) (x2 : Int32) (x3 : Int32) (t0 : Int32) (t1 : Int32) : Option (cr_S) :=
  cr_let (sF σ 85 5 (t1 ||| t0)) (fun s13 => cr_let (x3 + 1) (fun v15 => r12 s13 x2 v15))
set_option maxRecDepth 100000 in
set_option maxHeartbeats 4000000 in
theorem w_X1_fold_85_6_B82 (C : cr_C p l e R s m args below meth c sfC 97 base D cA cX1_fold 5 RX1) (hr : meth.sig.returnType = none) (hR : 0 ≤ R.frames ∧ 0 ≤ R.locals) {res : cr_S} (r12 : cr_S → Int32 → Int32 → Option (cr_S)) (hr12 : ∀ (σ : cr_S) (x2 : Int32) (x3 : Int32), r12 σ x2 x3 = some res → cr_W p l e R s m args below meth c sfC 97 base D cA 5 (MQ below (cr_Qv sfC 97 base D cA res) args s 0 0 (cr_A 97 base)) σ 12 [(0, .ref (base + 85)), (1, .ref (base + 6)), (2, .int x2), (3, .int x3)] []) (σ : cr_S) (x2 : Int32) (x3 : Int32) (t0 : Int32) (t1 : Int32) (h : f_X1_fold_85_6_B82 r12 σ x2 x3 t0 t1 = some res) : cr_W p l e R s m args below meth c sfC 97 base D cA 5 (MQ below (cr_Qv sfC 97 base D cA res) args s 0 0 (cr_A 97 base)) σ 82 [(0, .ref (base + 85)), (1, .ref (base + 6)), (2, .int x2), (3, .int x3)] [.int t0, .int t1, .ref (base + 85)] := by
  unfold f_X1_fold_85_6_B82 at h
  refine g_ior (pc' := 83) C dX1_fold_82 rfl ?_
  obtain ⟨s13, e14, h⟩ := let_some h
  refine gp_X1_42 (pc' := 86) (o := 85) C rfl dX1_fold_83 rfl e14 ?_
  obtain ⟨v15, e16, h⟩ := let_some h
  refine g_iinc (pc' := 89) (v := v15) (lv' := [(3, .int v15), (0, .ref (base + 85)), (1, .ref (base + 6)), (2, .int x2)]) C dX1_fold_86 3 rfl (by rw [e16]; rfl) (by decide) rfl rfl ?_
  refine g_goto (tgt := 12) C dX1_fold_89 (by decide) ?_
  exact g_sub C [1, 2, 3, 0] rfl (hr12 _ _ _ h)
noncomputable def f_X1_fold_85_6_B57 (r12 : cr_S → Int32 → Int32 → Option (cr_S)) (σ : cr_S) (x2 : Int32) (x3 : Int32) (x4 : Int32) (t0 : Int32) (t1 : Int32) : Option (cr_S) :=
  cr_let (sF σ 85 4 (t1 ||| t0)) (fun s10 => chk (inb x3 12) (f_X1_fold_85_6_B82 r12 s10 x2 x3 (if (rA s10 8 x3) = 1 then 0 else x4) (rF s10 85 5)))
set_option maxRecDepth 100000 in
set_option maxHeartbeats 4000000 in
theorem w_X1_fold_85_6_B57 (C : cr_C p l e R s m args below meth c sfC 97 base D cA cX1_fold 5 RX1) (hr : meth.sig.returnType = none) (hR : 0 ≤ R.frames ∧ 0 ≤ R.locals) {res : cr_S} (r12 : cr_S → Int32 → Int32 → Option (cr_S)) (hr12 : ∀ (σ : cr_S) (x2 : Int32) (x3 : Int32), r12 σ x2 x3 = some res → cr_W p l e R s m args below meth c sfC 97 base D cA 5 (MQ below (cr_Qv sfC 97 base D cA res) args s 0 0 (cr_A 97 base)) σ 12 [(0, .ref (base + 85)), (1, .ref (base + 6)), (2, .int x2), (3, .int x3)] []) (σ : cr_S) (x2 : Int32) (x3 : Int32) (x4 : Int32) (t0 : Int32) (t1 : Int32) (h : f_X1_fold_85_6_B57 r12 σ x2 x3 x4 t0 t1 = some res) : cr_W p l e R s m args below meth c sfC 97 base D cA 5 (MQ below (cr_Qv sfC 97 base D cA res) args s 0 0 (cr_A 97 base)) σ 57 [(0, .ref (base + 85)), (1, .ref (base + 6)), (2, .int x2), (3, .int x3), (4, .int x4)] [.int t0, .int t1, .ref (base + 85)] := by
  unfold f_X1_fold_85_6_B57 at h
  refine g_ior (pc' := 58) C dX1_fold_57 rfl ?_
  obtain ⟨s10, e11, h⟩ := let_some h
  refine gp_X1_39 (pc' := 61) (o := 85) C rfl dX1_fold_58 rfl e11 ?_
  refine g_aload_n (pc' := 62) C dX1_fold_61 0 rfl rfl ?_
  refine g_dup (pc' := 63) C dX1_fold_62 rfl rfl ?_
  refine gg_X1_42 (pc' := 66) (o := 85) C rfl dX1_fold_63 rfl ?_
  refine g_aload_n (pc' := 67) C dX1_fold_66 1 rfl rfl ?_
  refine gg_X1_53 (pc' := 70) (o := 6) (r := 8) C rfl rfl dX1_fold_67 rfl ?_
  refine g_iload_n (pc' := 71) C dX1_fold_70 3 rfl rfl ?_
  obtain ⟨h12, h⟩ := chk_some h
  refine g_iald (pc' := 72) C (o := 8) (by decide) rfl (inb_d h12) dX1_fold_71 rfl ?_
  refine g_iconst (pc' := 73) (v := 1) C dX1_fold_72 (by decide) rfl ?_
  refine g_iteI (σ := s10) (pj := 82) (lv := [(0, .ref (base + 85)), (1, .ref (base + 6)), (2, .int x2), (3, .int x3), (4, .int x4)]) (st := [.int (rF s10 85 5), .ref (base + 85)]) (cd := (rA s10 8 x3) = 1) (a := 0) (b := x4) C ?_ (fun kt kf => ?_)
  · exact g_sub C [0, 1, 2, 3] rfl (w_X1_fold_85_6_B82 C hr hR r12 hr12 _ _ _ _ _ h)
  · refine g_icmp_ne (pc' := 76) (tgt := 80) C dX1_fold_73 (by decide) rfl (fun hc => ?_) (fun hc => ?_)
    · refine g_iload (pc' := 82) C dX1_fold_80 4 rfl rfl ?_
      exact kf hc
    · refine g_iconst (pc' := 77) (v := 0) C dX1_fold_76 (by decide) rfl ?_
      refine g_goto (tgt := 82) C dX1_fold_77 (by decide) ?_
      exact kt hc
noncomputable def f_X1_fold_85_6_L12  : Nat → cr_S → Int32 → Int32 → Option (cr_S)
  | 0, _, _, _ => none
  | n + 1, σ, x2, x3 =>
    (if (rF σ 6 2) ≤ x3 then some σ else (if x2 ≤ 0 then some σ else chk (inb x3 12) (chk (¬ x2 = 0) (cr_let (1 <<< (((rA σ 7 x3) - (rA σ 7 x3) / x2 * x2) &&& 31)) (fun v7 => chk (inb x3 12) (f_X1_fold_85_6_B57 (f_X1_fold_85_6_L12 n) σ x2 x3 v7 (if (rA σ 8 x3) = 1 then v7 else 0) (rF σ 85 4)))))))
set_option maxRecDepth 100000 in
set_option maxHeartbeats 4000000 in
theorem w_X1_fold_85_6_L12 (C : cr_C p l e R s m args below meth c sfC 97 base D cA cX1_fold 5 RX1) (hr : meth.sig.returnType = none) (hR : 0 ≤ R.frames ∧ 0 ≤ R.locals) {res : cr_S}  : ∀ (n : Nat) (σ : cr_S) (x2 : Int32) (x3 : Int32), f_X1_fold_85_6_L12 n σ x2 x3 = some res → cr_W p l e R s m args below meth c sfC 97 base D cA 5 (MQ below (cr_Qv sfC 97 base D cA res) args s 0 0 (cr_A 97 base)) σ 12 [(0, .ref (base + 85)), (1, .ref (base + 6)), (2, .int x2), (3, .int x3)] [] := by
  intro n
  induction n with
  | zero =>
    intro σ x2 x3 h
    cases h
  | succ n ih =>
    intro σ x2 x3 h
    rw [f_X1_fold_85_6_L12] at h
    refine g_iload_n (pc' := 13) C dX1_fold_12 3 rfl rfl ?_
    refine g_aload_n (pc' := 14) C dX1_fold_13 1 rfl rfl ?_
    refine gg_X1_45 (pc' := 17) (o := 6) C rfl dX1_fold_14 rfl ?_
    refine g_icmp_ge (pc' := 20) (tgt := 92) C dX1_fold_17 (by decide) rfl (fun hc => ?_) (fun hc => ?_)
    · rw [if_pos hc] at h
      exact g_vret C hr dX1_fold_92 h
    · rw [if_neg hc] at h
      refine g_iload_n (pc' := 21) C dX1_fold_20 2 rfl rfl ?_
      refine g_if_le (pc' := 24) (tgt := 92) C dX1_fold_21 (by decide) rfl (fun hc => ?_) (fun hc => ?_)
      · rw [if_pos hc] at h
        exact g_vret C hr dX1_fold_92 h
      · rw [if_neg hc] at h
        refine g_iconst (pc' := 25) (v := 1) C dX1_fold_24 (by decide) rfl ?_
        refine g_aload_n (pc' := 26) C dX1_fold_25 1 rfl rfl ?_
        refine gg_X1_50 (pc' := 29) (o := 6) (r := 7) C rfl rfl dX1_fold_26 rfl ?_
        refine g_iload_n (pc' := 30) C dX1_fold_29 3 rfl rfl ?_
        obtain ⟨h5, h⟩ := chk_some h
        refine g_iald (pc' := 31) C (o := 7) (by decide) rfl (inb_d h5) dX1_fold_30 rfl ?_
        refine g_iload_n (pc' := 32) C dX1_fold_31 2 rfl rfl ?_
        obtain ⟨h6, h⟩ := chk_some h
        refine g_irem (pc' := 33) C dX1_fold_32 h6 rfl ?_
        refine g_ishl (pc' := 34) C dX1_fold_33 rfl ?_
        obtain ⟨v7, e8, h⟩ := let_some h
        refine g_nameI e8 ?_
        refine g_istore (pc' := 36) (lv' := [(4, .int v7), (0, .ref (base + 85)), (1, .ref (base + 6)), (2, .int x2), (3, .int x3)]) C dX1_fold_34 (by decide) rfl rfl ?_
        refine g_aload_n (pc' := 37) C dX1_fold_36 1 rfl rfl ?_
        refine g_dup (pc' := 38) C dX1_fold_37 rfl rfl ?_
        refine gg_X1_39 (pc' := 41) (o := 85) C rfl dX1_fold_38 rfl ?_
        refine g_aload_n (pc' := 42) C dX1_fold_41 2 rfl rfl ?_
        refine gg_X1_53 (pc' := 45) (o := 6) (r := 8) C rfl rfl dX1_fold_42 rfl ?_
        refine g_iload_n (pc' := 46) C dX1_fold_45 4 rfl rfl ?_
        obtain ⟨h9, h⟩ := chk_some h
        refine g_iald (pc' := 47) C (o := 8) (by decide) rfl (inb_d h9) dX1_fold_46 rfl ?_
        refine g_iconst (pc' := 48) (v := 1) C dX1_fold_47 (by decide) rfl ?_
        refine g_iteI (σ := σ) (pj := 57) (lv := [(4, .int v7), (0, .ref (base + 85)), (1, .ref (base + 6)), (2, .int x2), (3, .int x3)]) (st := [.int (rF σ 85 4), .ref (base + 85)]) (cd := (rA σ 8 x3) = 1) (a := v7) (b := 0) C ?_ (fun kt kf => ?_)
        · exact g_sub C [1, 2, 3, 4, 0] rfl (w_X1_fold_85_6_B57 C hr hR (f_X1_fold_85_6_L12 n) ih _ _ _ _ _ _ h)
        · refine g_icmp_ne (pc' := 51) (tgt := 56) C dX1_fold_48 (by decide) rfl (fun hc => ?_) (fun hc => ?_)
          · refine g_iconst (pc' := 57) (v := 0) C dX1_fold_56 (by decide) rfl ?_
            exact kf hc
          · refine g_iload (pc' := 53) C dX1_fold_51 0 rfl rfl ?_
            refine g_goto (tgt := 57) C dX1_fold_53 (by decide) ?_
            exact kt hc
noncomputable def f_X1_fold_85_6 (σ : cr_S) (a2 : Int32) : Option (cr_S) :=
  cr_let (sF σ 85 4 0) (fun s1 => cr_let (sF s1 85 5 0) (fun s3 => f_X1_fold_85_6_L12 cr_fuel s3 a2 0))
set_option maxRecDepth 100000 in
set_option maxHeartbeats 4000000 in
theorem w_X1_fold_85_6 (C : cr_C p l e R s m args below meth c sfC 97 base D cA cX1_fold 5 RX1) (hr : meth.sig.returnType = none) (hR : 0 ≤ R.frames ∧ 0 ≤ R.locals) {res : cr_S} (σ : cr_S) (a2 : Int32) (h : f_X1_fold_85_6 σ a2 = some res) : cr_W p l e R s m args below meth c sfC 97 base D cA 5 (MQ below (cr_Qv sfC 97 base D cA res) args s 0 0 (cr_A 97 base)) σ 0 [(0, .ref (base + 85)), (1, .ref (base + 6)), (2, .int a2)] [] := by
  unfold f_X1_fold_85_6 at h
  refine g_aload_n (pc' := 1) C dX1_fold_0 0 rfl rfl ?_
  refine g_iconst (pc' := 2) (v := 0) C dX1_fold_1 (by decide) rfl ?_
  obtain ⟨s1, e2, h⟩ := let_some h
  refine gp_X1_39 (pc' := 5) (o := 85) C rfl dX1_fold_2 rfl e2 ?_
  refine g_aload_n (pc' := 6) C dX1_fold_5 0 rfl rfl ?_
  refine g_iconst (pc' := 7) (v := 0) C dX1_fold_6 (by decide) rfl ?_
  obtain ⟨s3, e4, h⟩ := let_some h
  refine gp_X1_42 (pc' := 10) (o := 85) C rfl dX1_fold_7 rfl e4 ?_
  refine g_iconst (pc' := 11) (v := 0) C dX1_fold_10 (by decide) rfl ?_
  refine g_istore_n (pc' := 12) (lv' := [(3, .int 0), (0, .ref (base + 85)), (1, .ref (base + 6)), (2, .int a2)]) C dX1_fold_11 rfl (by decide) rfl rfl ?_
  exact g_sub C [1, 2, 3, 0] rfl (w_X1_fold_85_6_L12 C hr hR _ _ _ _ h)
theorem c_X1_fold_85_6 (l : Launch) (base : Nat) (D : va_G) (cA : Nat → ClassId) (σ : cr_S) (a2 : Int32) (res : cr_S) (h : f_X1_fold_85_6 σ a2 = some res) : cr_M l yX1_fold cX1_fold 5 none 0 0 sfC 97 base D cA [.ref (base + 85), .ref (base + 6), .int a2] σ (cr_Qv sfC 97 base D cA res) := by
  refine cr_enter [.ref (base + 85), .ref (base + 6), .int a2] [(0, .ref (base + 85)), (1, .ref (base + 6)), (2, .int a2)] (by decide) (Nat.le_of_ble_eq_true rfl) rfl ?_
  intro p e R s m below meth c C hr hR
  exact w_X1_fold_85_6 C hr hR σ a2 h
noncomputable def f_X1_surveyPhases_85_B137 (r16 : cr_S → Int32 → Int32 → Int32 → Int32 → Int32 → Option (cr_S)) (σ : cr_S) (x1 : Int32) (x2 : Int32) (x3 : Int32) (x4 : Int32) (x5 : Int32) : Option (cr_S) :=
  cr_let (x5 + 1) (fun v7 => r16 σ x1 x2 x3 x4 v7)
set_option maxRecDepth 100000 in
set_option maxHeartbeats 4000000 in
theorem w_X1_surveyPhases_85_B137 (C : cr_C p l e R s m args below meth c sfC 97 base D cA cX1_surveyPhases 8 RX1) (hr : meth.sig.returnType = none) (hR : 0 ≤ R.frames ∧ 0 ≤ R.locals) {res : cr_S} (r16 : cr_S → Int32 → Int32 → Int32 → Int32 → Int32 → Option (cr_S)) (hr16 : ∀ (σ : cr_S) (x1 : Int32) (x2 : Int32) (x3 : Int32) (x4 : Int32) (x5 : Int32), r16 σ x1 x2 x3 x4 x5 = some res → cr_W p l e R s m args below meth c sfC 97 base D cA 8 (MQ below (cr_Qv sfC 97 base D cA res) args s 0 0 (cr_A 97 base)) σ 16 [(0, .ref (base + 85)), (1, .int x1), (2, .int x2), (3, .int x3), (4, .int x4), (5, .int x5)] []) (σ : cr_S) (x1 : Int32) (x2 : Int32) (x3 : Int32) (x4 : Int32) (x5 : Int32) (h : f_X1_surveyPhases_85_B137 r16 σ x1 x2 x3 x4 x5 = some res) : cr_W p l e R s m args below meth c sfC 97 base D cA 8 (MQ below (cr_Qv sfC 97 base D cA res) args s 0 0 (cr_A 97 base)) σ 137 [(0, .ref (base + 85)), (1, .int x1), (2, .int x2), (3, .int x3), (4, .int x4), (5, .int x5)] [] := by
  unfold f_X1_surveyPhases_85_B137 at h
  obtain ⟨v7, e8, h⟩ := let_some h
  refine g_iinc (pc' := 140) (v := v7) (lv' := [(5, .int v7), (0, .ref (base + 85)), (1, .int x1), (2, .int x2), (3, .int x3), (4, .int x4)]) C dX1_surveyPhases_137 5 rfl (by rw [e8]; rfl) (by decide) rfl rfl ?_
  refine g_goto (tgt := 16) C dX1_surveyPhases_140 (by decide) ?_
  exact g_sub C [1, 2, 3, 4, 5, 0] rfl (hr16 _ _ _ _ _ _ h)
noncomputable def f_X1_surveyPhases_85_L108 (r16 : cr_S → Int32 → Int32 → Int32 → Int32 → Int32 → Option (cr_S)) : Nat → cr_S → Int32 → Int32 → Int32 → Int32 → Int32 → Int32 → Int32 → Option (cr_S)
  | 0, _, _, _, _, _, _, _, _ => none
  | n + 1, σ, x1, x2, x3, x4, x5, x6, x7 =>
    (if x1 ≤ x7 then f_X1_surveyPhases_85_B137 r16 σ x1 x2 x3 x4 x5 else chk (inb x7 24) (chk (inb x7 24) (cr_let (sA σ 86 x7 ((rA σ 86 x7) + ((x6 >>> (x7 &&& 31)) &&& 1))) (fun s15 => cr_let (x7 + 1) (fun v17 => f_X1_surveyPhases_85_L108 r16 n s15 x1 x2 x3 x4 x5 x6 v17)))))
set_option maxRecDepth 100000 in
set_option maxHeartbeats 4000000 in
theorem w_X1_surveyPhases_85_L108 (C : cr_C p l e R s m args below meth c sfC 97 base D cA cX1_surveyPhases 8 RX1) (hr : meth.sig.returnType = none) (hR : 0 ≤ R.frames ∧ 0 ≤ R.locals) {res : cr_S} (r16 : cr_S → Int32 → Int32 → Int32 → Int32 → Int32 → Option (cr_S)) (hr16 : ∀ (σ : cr_S) (x1 : Int32) (x2 : Int32) (x3 : Int32) (x4 : Int32) (x5 : Int32), r16 σ x1 x2 x3 x4 x5 = some res → cr_W p l e R s m args below meth c sfC 97 base D cA 8 (MQ below (cr_Qv sfC 97 base D cA res) args s 0 0 (cr_A 97 base)) σ 16 [(0, .ref (base + 85)), (1, .int x1), (2, .int x2), (3, .int x3), (4, .int x4), (5, .int x5)] []) : ∀ (n : Nat) (σ : cr_S) (x1 : Int32) (x2 : Int32) (x3 : Int32) (x4 : Int32) (x5 : Int32) (x6 : Int32) (x7 : Int32), f_X1_surveyPhases_85_L108 r16 n σ x1 x2 x3 x4 x5 x6 x7 = some res → cr_W p l e R s m args below meth c sfC 97 base D cA 8 (MQ below (cr_Qv sfC 97 base D cA res) args s 0 0 (cr_A 97 base)) σ 108 [(0, .ref (base + 85)), (1, .int x1), (2, .int x2), (3, .int x3), (4, .int x4), (5, .int x5), (6, .int x6), (7, .int x7)] [] := by
  intro n
  induction n with
  | zero =>
    intro σ x1 x2 x3 x4 x5 x6 x7 h
    cases h
  | succ n ih =>
    intro σ x1 x2 x3 x4 x5 x6 x7 h
    rw [f_X1_surveyPhases_85_L108] at h
    refine g_iload (pc' := 110) C dX1_surveyPhases_108 7 rfl rfl ?_
    refine g_iload_n (pc' := 111) C dX1_surveyPhases_110 1 rfl rfl ?_
    refine g_icmp_ge (pc' := 114) (tgt := 137) C dX1_surveyPhases_111 (by decide) rfl (fun hc => ?_) (fun hc => ?_)
    · rw [if_pos hc] at h
      exact g_sub C [0, 1, 2, 3, 4, 5] rfl (w_X1_surveyPhases_85_B137 C hr hR r16 hr16 _ _ _ _ _ _ h)
    · rw [if_neg hc] at h
      refine g_aload_n (pc' := 115) C dX1_surveyPhases_114 0 rfl rfl ?_
      refine gg_X1_9 (pc' := 118) (o := 85) (r := 86) C rfl rfl dX1_surveyPhases_115 rfl ?_
      refine g_iload (pc' := 120) C dX1_surveyPhases_118 7 rfl rfl ?_
      refine g_dup2 (pc' := 121) C dX1_surveyPhases_120 rfl rfl rfl ?_
      obtain ⟨h13, h⟩ := chk_some h
      refine g_iald (pc' := 122) C (o := 86) (by decide) rfl (inb_d h13) dX1_surveyPhases_121 rfl ?_
      refine g_iload (pc' := 124) C dX1_surveyPhases_122 6 rfl rfl ?_
      refine g_iload (pc' := 126) C dX1_surveyPhases_124 7 rfl rfl ?_
      refine g_ishr (pc' := 127) C dX1_surveyPhases_126 rfl ?_
      refine g_iconst (pc' := 128) (v := 1) C dX1_surveyPhases_127 (by decide) rfl ?_
      refine g_iand (pc' := 129) C dX1_surveyPhases_128 rfl ?_
      refine g_iadd (pc' := 130) C dX1_surveyPhases_129 rfl ?_
      obtain ⟨h14, h⟩ := chk_some h
      obtain ⟨s15, e16, h⟩ := let_some h
      refine g_iast (pc' := 131) C (o := 86) (by decide) rfl (inb_d h14) dX1_surveyPhases_130 rfl e16 ?_
      obtain ⟨v17, e18, h⟩ := let_some h
      refine g_iinc (pc' := 134) (v := v17) (lv' := [(7, .int v17), (0, .ref (base + 85)), (1, .int x1), (2, .int x2), (3, .int x3), (4, .int x4), (5, .int x5), (6, .int x6)]) C dX1_surveyPhases_131 7 rfl (by rw [e18]; rfl) (by decide) rfl rfl ?_
      refine g_goto (tgt := 108) C dX1_surveyPhases_134 (by decide) ?_
      exact g_sub C [1, 2, 3, 4, 5, 6, 7, 0] rfl (ih _ _ _ _ _ _ _ _ h)
noncomputable def f_X1_surveyPhases_85_B92 (r16 : cr_S → Int32 → Int32 → Int32 → Int32 → Int32 → Option (cr_S)) (σ : cr_S) (x1 : Int32) (x2 : Int32) (x3 : Int32) (x4 : Int32) (x5 : Int32) (x6 : Int32) (t0 : Int32) : Option (cr_S) :=
  cr_let (sF σ 85 3 t0) (fun s9 => cr_let (sF s9 85 2 ((rF s9 85 2) + 1)) (fun s11 => f_X1_surveyPhases_85_L108 r16 cr_fuel s11 x1 x2 x3 x4 x5 x6 0))
set_option maxRecDepth 100000 in
set_option maxHeartbeats 4000000 in
theorem w_X1_surveyPhases_85_B92 (C : cr_C p l e R s m args below meth c sfC 97 base D cA cX1_surveyPhases 8 RX1) (hr : meth.sig.returnType = none) (hR : 0 ≤ R.frames ∧ 0 ≤ R.locals) {res : cr_S} (r16 : cr_S → Int32 → Int32 → Int32 → Int32 → Int32 → Option (cr_S)) (hr16 : ∀ (σ : cr_S) (x1 : Int32) (x2 : Int32) (x3 : Int32) (x4 : Int32) (x5 : Int32), r16 σ x1 x2 x3 x4 x5 = some res → cr_W p l e R s m args below meth c sfC 97 base D cA 8 (MQ below (cr_Qv sfC 97 base D cA res) args s 0 0 (cr_A 97 base)) σ 16 [(0, .ref (base + 85)), (1, .int x1), (2, .int x2), (3, .int x3), (4, .int x4), (5, .int x5)] []) (σ : cr_S) (x1 : Int32) (x2 : Int32) (x3 : Int32) (x4 : Int32) (x5 : Int32) (x6 : Int32) (t0 : Int32) (h : f_X1_surveyPhases_85_B92 r16 σ x1 x2 x3 x4 x5 x6 t0 = some res) : cr_W p l e R s m args below meth c sfC 97 base D cA 8 (MQ below (cr_Qv sfC 97 base D cA res) args s 0 0 (cr_A 97 base)) σ 92 [(0, .ref (base + 85)), (1, .int x1), (2, .int x2), (3, .int x3), (4, .int x4), (5, .int x5), (6, .int x6)] [.int t0, .ref (base + 85)] := by
  unfold f_X1_surveyPhases_85_B92 at h
  obtain ⟨s9, e10, h⟩ := let_some h
  refine gp_X1_22 (pc' := 95) (o := 85) C rfl dX1_surveyPhases_92 rfl e10 ?_
  refine g_aload_n (pc' := 96) C dX1_surveyPhases_95 0 rfl rfl ?_
  refine g_dup (pc' := 97) C dX1_surveyPhases_96 rfl rfl ?_
  refine gg_X1_18 (pc' := 100) (o := 85) C rfl dX1_surveyPhases_97 rfl ?_
  refine g_iconst (pc' := 101) (v := 1) C dX1_surveyPhases_100 (by decide) rfl ?_
  refine g_iadd (pc' := 102) C dX1_surveyPhases_101 rfl ?_
  obtain ⟨s11, e12, h⟩ := let_some h
  refine gp_X1_18 (pc' := 105) (o := 85) C rfl dX1_surveyPhases_102 rfl e12 ?_
  refine g_iconst (pc' := 106) (v := 0) C dX1_surveyPhases_105 (by decide) rfl ?_
  refine g_istore (pc' := 108) (lv' := [(7, .int 0), (0, .ref (base + 85)), (1, .int x1), (2, .int x2), (3, .int x3), (4, .int x4), (5, .int x5), (6, .int x6)]) C dX1_surveyPhases_106 (by decide) rfl rfl ?_
  exact g_sub C [1, 2, 3, 4, 5, 6, 7, 0] rfl (w_X1_surveyPhases_85_L108 C hr hR r16 hr16 _ _ _ _ _ _ _ _ _ h)
noncomputable def f_X1_surveyPhases_85_L16  : Nat → cr_S → Int32 → Int32 → Int32 → Int32 → Int32 → Option (cr_S)
  | 0, _, _, _, _, _, _ => none
  | n + 1, σ, x1, x2, x3, x4, x5 =>
    (if x1 ≤ x5 then some σ else cr_let (((x4 >>> (x5 &&& 31)) ||| (x4 <<< ((x1 - x5) &&& 31))) &&& x3) (fun v5 => (if ((rF σ 85 4) &&& (v5 ^^^ (-1))) = 0 then (if ((rF σ 85 5) &&& v5) = 0 then f_X1_surveyPhases_85_B92 (f_X1_surveyPhases_85_L16 n) σ x1 x2 x3 x4 x5 v5 (if (rF σ 85 2) = 0 then ((10000 * x1) + (100 * x2)) + x5 else rF σ 85 3) else f_X1_surveyPhases_85_B137 (f_X1_surveyPhases_85_L16 n) σ x1 x2 x3 x4 x5) else f_X1_surveyPhases_85_B137 (f_X1_surveyPhases_85_L16 n) σ x1 x2 x3 x4 x5)))
set_option maxRecDepth 100000 in
set_option maxHeartbeats 4000000 in
theorem w_X1_surveyPhases_85_L16 (C : cr_C p l e R s m args below meth c sfC 97 base D cA cX1_surveyPhases 8 RX1) (hr : meth.sig.returnType = none) (hR : 0 ≤ R.frames ∧ 0 ≤ R.locals) {res : cr_S}  : ∀ (n : Nat) (σ : cr_S) (x1 : Int32) (x2 : Int32) (x3 : Int32) (x4 : Int32) (x5 : Int32), f_X1_surveyPhases_85_L16 n σ x1 x2 x3 x4 x5 = some res → cr_W p l e R s m args below meth c sfC 97 base D cA 8 (MQ below (cr_Qv sfC 97 base D cA res) args s 0 0 (cr_A 97 base)) σ 16 [(0, .ref (base + 85)), (1, .int x1), (2, .int x2), (3, .int x3), (4, .int x4), (5, .int x5)] [] := by
  intro n
  induction n with
  | zero =>
    intro σ x1 x2 x3 x4 x5 h
    cases h
  | succ n ih =>
    intro σ x1 x2 x3 x4 x5 h
    rw [f_X1_surveyPhases_85_L16] at h
    refine g_iload (pc' := 18) C dX1_surveyPhases_16 5 rfl rfl ?_
    refine g_iload_n (pc' := 19) C dX1_surveyPhases_18 1 rfl rfl ?_
    refine g_icmp_ge (pc' := 22) (tgt := 143) C dX1_surveyPhases_19 (by decide) rfl (fun hc => ?_) (fun hc => ?_)
    · rw [if_pos hc] at h
      exact g_vret C hr dX1_surveyPhases_143 h
    · rw [if_neg hc] at h
      refine g_iload (pc' := 24) C dX1_surveyPhases_22 4 rfl rfl ?_
      refine g_iload (pc' := 26) C dX1_surveyPhases_24 5 rfl rfl ?_
      refine g_ishr (pc' := 27) C dX1_surveyPhases_26 rfl ?_
      refine g_iload (pc' := 29) C dX1_surveyPhases_27 4 rfl rfl ?_
      refine g_iload_n (pc' := 30) C dX1_surveyPhases_29 1 rfl rfl ?_
      refine g_iload (pc' := 32) C dX1_surveyPhases_30 5 rfl rfl ?_
      refine g_isub (pc' := 33) C dX1_surveyPhases_32 rfl ?_
      refine g_ishl (pc' := 34) C dX1_surveyPhases_33 rfl ?_
      refine g_ior (pc' := 35) C dX1_surveyPhases_34 rfl ?_
      refine g_iload_n (pc' := 36) C dX1_surveyPhases_35 3 rfl rfl ?_
      refine g_iand (pc' := 37) C dX1_surveyPhases_36 rfl ?_
      obtain ⟨v5, e6, h⟩ := let_some h
      refine g_nameI e6 ?_
      refine g_istore (pc' := 39) (lv' := [(6, .int v5), (0, .ref (base + 85)), (1, .int x1), (2, .int x2), (3, .int x3), (4, .int x4), (5, .int x5)]) C dX1_surveyPhases_37 (by decide) rfl rfl ?_
      refine g_aload_n (pc' := 40) C dX1_surveyPhases_39 1 rfl rfl ?_
      refine gg_X1_39 (pc' := 43) (o := 85) C rfl dX1_surveyPhases_40 rfl ?_
      refine g_iload (pc' := 45) C dX1_surveyPhases_43 0 rfl rfl ?_
      refine g_iconst (pc' := 46) (v := (-1)) C dX1_surveyPhases_45 (by decide) rfl ?_
      refine g_ixor (pc' := 47) C dX1_surveyPhases_46 rfl ?_
      refine g_iand (pc' := 48) C dX1_surveyPhases_47 rfl ?_
      refine g_if_ne (pc' := 51) (tgt := 137) C dX1_surveyPhases_48 (by decide) rfl (fun hc => ?_) (fun hc => ?_)
      · rw [if_neg hc] at h
        exact g_sub C [1, 2, 3, 4, 5, 6] rfl (w_X1_surveyPhases_85_B137 C hr hR (f_X1_surveyPhases_85_L16 n) ih _ _ _ _ _ _ h)
      · rw [if_pos hc] at h
        refine g_aload_n (pc' := 52) C dX1_surveyPhases_51 1 rfl rfl ?_
        refine gg_X1_42 (pc' := 55) (o := 85) C rfl dX1_surveyPhases_52 rfl ?_
        refine g_iload (pc' := 57) C dX1_surveyPhases_55 0 rfl rfl ?_
        refine g_iand (pc' := 58) C dX1_surveyPhases_57 rfl ?_
        refine g_if_eq (pc' := 61) (tgt := 64) C dX1_surveyPhases_58 (by decide) rfl (fun hc => ?_) (fun hc => ?_)
        · rw [if_pos hc] at h
          refine g_aload_n (pc' := 65) C dX1_surveyPhases_64 1 rfl rfl ?_
          refine g_aload_n (pc' := 66) C dX1_surveyPhases_65 1 rfl rfl ?_
          refine gg_X1_18 (pc' := 69) (o := 85) C rfl dX1_surveyPhases_66 rfl ?_
          refine g_iteI (σ := σ) (pj := 92) (lv := [(6, .int v5), (0, .ref (base + 85)), (1, .int x1), (2, .int x2), (3, .int x3), (4, .int x4), (5, .int x5)]) (st := [.ref (base + 85)]) (cd := (rF σ 85 2) = 0) (a := ((10000 * x1) + (100 * x2)) + x5) (b := rF σ 85 3) C ?_ (fun kt kf => ?_)
          · exact g_sub C [1, 2, 3, 4, 5, 6, 0] rfl (w_X1_surveyPhases_85_B92 C hr hR (f_X1_surveyPhases_85_L16 n) ih _ _ _ _ _ _ _ _ h)
          · refine g_if_ne (pc' := 72) (tgt := 88) C dX1_surveyPhases_69 (by decide) rfl (fun hc => ?_) (fun hc => ?_)
            · refine g_aload_n (pc' := 89) C dX1_surveyPhases_88 1 rfl rfl ?_
              refine gg_X1_22 (pc' := 92) (o := 85) C rfl dX1_surveyPhases_89 rfl ?_
              exact kf hc
            · refine g_sipush (pc' := 75) (v := 10000) C dX1_surveyPhases_72 (by decide) rfl ?_
              refine g_iload_n (pc' := 76) C dX1_surveyPhases_75 2 rfl rfl ?_
              refine g_imul (pc' := 77) C dX1_surveyPhases_76 rfl ?_
              refine g_bipush (pc' := 79) (v := 100) C dX1_surveyPhases_77 (by decide) rfl ?_
              refine g_iload_n (pc' := 80) C dX1_surveyPhases_79 3 rfl rfl ?_
              refine g_imul (pc' := 81) C dX1_surveyPhases_80 rfl ?_
              refine g_iadd (pc' := 82) C dX1_surveyPhases_81 rfl ?_
              refine g_iload (pc' := 84) C dX1_surveyPhases_82 6 rfl rfl ?_
              refine g_iadd (pc' := 85) C dX1_surveyPhases_84 rfl ?_
              refine g_goto (tgt := 92) C dX1_surveyPhases_85 (by decide) ?_
              exact kt hc
        · rw [if_neg hc] at h
          refine g_goto (tgt := 137) C dX1_surveyPhases_61 (by decide) ?_
          exact g_sub C [1, 2, 3, 4, 5, 6] rfl (w_X1_surveyPhases_85_B137 C hr hR (f_X1_surveyPhases_85_L16 n) ih _ _ _ _ _ _ h)
noncomputable def f_X1_surveyPhases_85 (σ : cr_S) (a1 : Int32) (a2 : Int32) : Option (cr_S) :=
  cr_let ((1 <<< (a1 &&& 31)) - 1) (fun v1 => cr_let ((1 <<< (a2 &&& 31)) - 1) (fun v3 => f_X1_surveyPhases_85_L16 cr_fuel σ a1 a2 v1 v3 0))
set_option maxRecDepth 100000 in
set_option maxHeartbeats 4000000 in
theorem w_X1_surveyPhases_85 (C : cr_C p l e R s m args below meth c sfC 97 base D cA cX1_surveyPhases 8 RX1) (hr : meth.sig.returnType = none) (hR : 0 ≤ R.frames ∧ 0 ≤ R.locals) {res : cr_S} (σ : cr_S) (a1 : Int32) (a2 : Int32) (h : f_X1_surveyPhases_85 σ a1 a2 = some res) : cr_W p l e R s m args below meth c sfC 97 base D cA 8 (MQ below (cr_Qv sfC 97 base D cA res) args s 0 0 (cr_A 97 base)) σ 0 [(0, .ref (base + 85)), (1, .int a1), (2, .int a2)] [] := by
  unfold f_X1_surveyPhases_85 at h
  refine g_iconst (pc' := 1) (v := 1) C dX1_surveyPhases_0 (by decide) rfl ?_
  refine g_iload_n (pc' := 2) C dX1_surveyPhases_1 1 rfl rfl ?_
  refine g_ishl (pc' := 3) C dX1_surveyPhases_2 rfl ?_
  refine g_iconst (pc' := 4) (v := 1) C dX1_surveyPhases_3 (by decide) rfl ?_
  refine g_isub (pc' := 5) C dX1_surveyPhases_4 rfl ?_
  obtain ⟨v1, e2, h⟩ := let_some h
  refine g_nameI e2 ?_
  refine g_istore_n (pc' := 6) (lv' := [(3, .int v1), (0, .ref (base + 85)), (1, .int a1), (2, .int a2)]) C dX1_surveyPhases_5 rfl (by decide) rfl rfl ?_
  refine g_iconst (pc' := 7) (v := 1) C dX1_surveyPhases_6 (by decide) rfl ?_
  refine g_iload_n (pc' := 8) C dX1_surveyPhases_7 3 rfl rfl ?_
  refine g_ishl (pc' := 9) C dX1_surveyPhases_8 rfl ?_
  refine g_iconst (pc' := 10) (v := 1) C dX1_surveyPhases_9 (by decide) rfl ?_
  refine g_isub (pc' := 11) C dX1_surveyPhases_10 rfl ?_
  obtain ⟨v3, e4, h⟩ := let_some h
  refine g_nameI e4 ?_
  refine g_istore (pc' := 13) (lv' := [(4, .int v3), (3, .int v1), (0, .ref (base + 85)), (1, .int a1), (2, .int a2)]) C dX1_surveyPhases_11 (by decide) rfl rfl ?_
  refine g_iconst (pc' := 14) (v := 0) C dX1_surveyPhases_13 (by decide) rfl ?_
  refine g_istore (pc' := 16) (lv' := [(5, .int 0), (4, .int v3), (3, .int v1), (0, .ref (base + 85)), (1, .int a1), (2, .int a2)]) C dX1_surveyPhases_14 (by decide) rfl rfl ?_
  exact g_sub C [3, 4, 5, 2, 1, 0] rfl (w_X1_surveyPhases_85_L16 C hr hR _ _ _ _ _ _ _ h)
theorem c_X1_surveyPhases_85 (l : Launch) (base : Nat) (D : va_G) (cA : Nat → ClassId) (σ : cr_S) (a1 : Int32) (a2 : Int32) (res : cr_S) (h : f_X1_surveyPhases_85 σ a1 a2 = some res) : cr_M l yX1_surveyPhases cX1_surveyPhases 8 none 0 0 sfC 97 base D cA [.ref (base + 85), .int a1, .int a2] σ (cr_Qv sfC 97 base D cA res) := by
  refine cr_enter [.ref (base + 85), .int a1, .int a2] [(0, .ref (base + 85)), (1, .int a1), (2, .int a2)] (by decide) (Nat.le_of_ble_eq_true rfl) rfl ?_
  intro p e R s m below meth c C hr hR
  exact w_X1_surveyPhases_85 C hr hR σ a1 a2 h
noncomputable def f_X1_survey_85_6_B112 (r22 : cr_S → Int32 → Int32 → Int32 → Option (cr_S)) (σ : cr_S) (x2 : Int32) (x3 : Int32) (x4 : Int32) : Option (cr_S) :=
  cr_let (x4 + 1) (fun v11 => r22 σ x2 x3 v11)
set_option maxRecDepth 100000 in
set_option maxHeartbeats 4000000 in
theorem w_X1_survey_85_6_B112 (C : cr_C p l e R s m args below meth c sfC 97 base D cA cX1_survey 6 RX1) (hr : meth.sig.returnType = none) (hR : 1 ≤ R.frames ∧ 27 ≤ R.locals) {res : cr_S} (r22 : cr_S → Int32 → Int32 → Int32 → Option (cr_S)) (hr22 : ∀ (σ : cr_S) (x2 : Int32) (x3 : Int32) (x4 : Int32), r22 σ x2 x3 x4 = some res → cr_W p l e R s m args below meth c sfC 97 base D cA 6 (MQ below (cr_Qv sfC 97 base D cA res) args s 0 0 (cr_A 97 base)) σ 22 [(0, .ref (base + 85)), (1, .ref (base + 6)), (2, .int x2), (3, .int x3), (4, .int x4)] []) (σ : cr_S) (x2 : Int32) (x3 : Int32) (x4 : Int32) (h : f_X1_survey_85_6_B112 r22 σ x2 x3 x4 = some res) : cr_W p l e R s m args below meth c sfC 97 base D cA 6 (MQ below (cr_Qv sfC 97 base D cA res) args s 0 0 (cr_A 97 base)) σ 112 [(0, .ref (base + 85)), (1, .ref (base + 6)), (2, .int x2), (3, .int x3), (4, .int x4)] [] := by
  unfold f_X1_survey_85_6_B112 at h
  obtain ⟨v11, e12, h⟩ := let_some h
  refine g_iinc (pc' := 115) (v := v11) (lv' := [(4, .int v11), (0, .ref (base + 85)), (1, .ref (base + 6)), (2, .int x2), (3, .int x3)]) C dX1_survey_112 4 rfl (by rw [e12]; rfl) (by decide) rfl rfl ?_
  refine g_goto (tgt := 22) C dX1_survey_115 (by decide) ?_
  exact g_sub C [1, 2, 3, 4, 0] rfl (hr22 _ _ _ _ h)
noncomputable def f_X1_survey_85_6_L71 (r22 : cr_S → Int32 → Int32 → Int32 → Option (cr_S)) : Nat → cr_S → Int32 → Int32 → Int32 → Int32 → Option (cr_S)
  | 0, _, _, _, _, _ => none
  | n + 1, σ, x2, x3, x4, x5 =>
    (if x3 ≤ x5 then f_X1_survey_85_6_B112 r22 σ x2 x3 x4 else (if 60 ≤ x5 then f_X1_survey_85_6_B112 r22 σ x2 x3 x4 else chk (inb x5 60) (chk (¬ x4 = 0) (chk (inb ((x2 + x5) - (x2 + x5) / x4 * x4) 24) (chk (inb x5 60) (cr_let (sA σ 87 x5 ((rA σ 87 x5) + (rA σ 86 ((x2 + x5) - (x2 + x5) / x4 * x4)))) (fun s17 => cr_let (x5 + 1) (fun v19 => f_X1_survey_85_6_L71 r22 n s17 x2 x3 x4 v19))))))))
set_option maxRecDepth 100000 in
set_option maxHeartbeats 4000000 in
theorem w_X1_survey_85_6_L71 (C : cr_C p l e R s m args below meth c sfC 97 base D cA cX1_survey 6 RX1) (hr : meth.sig.returnType = none) (hR : 1 ≤ R.frames ∧ 27 ≤ R.locals) {res : cr_S} (r22 : cr_S → Int32 → Int32 → Int32 → Option (cr_S)) (hr22 : ∀ (σ : cr_S) (x2 : Int32) (x3 : Int32) (x4 : Int32), r22 σ x2 x3 x4 = some res → cr_W p l e R s m args below meth c sfC 97 base D cA 6 (MQ below (cr_Qv sfC 97 base D cA res) args s 0 0 (cr_A 97 base)) σ 22 [(0, .ref (base + 85)), (1, .ref (base + 6)), (2, .int x2), (3, .int x3), (4, .int x4)] []) : ∀ (n : Nat) (σ : cr_S) (x2 : Int32) (x3 : Int32) (x4 : Int32) (x5 : Int32), f_X1_survey_85_6_L71 r22 n σ x2 x3 x4 x5 = some res → cr_W p l e R s m args below meth c sfC 97 base D cA 6 (MQ below (cr_Qv sfC 97 base D cA res) args s 0 0 (cr_A 97 base)) σ 71 [(0, .ref (base + 85)), (1, .ref (base + 6)), (2, .int x2), (3, .int x3), (4, .int x4), (5, .int x5)] [] := by
  intro n
  induction n with
  | zero =>
    intro σ x2 x3 x4 x5 h
    cases h
  | succ n ih =>
    intro σ x2 x3 x4 x5 h
    rw [f_X1_survey_85_6_L71] at h
    refine g_iload (pc' := 73) C dX1_survey_71 5 rfl rfl ?_
    refine g_iload_n (pc' := 74) C dX1_survey_73 3 rfl rfl ?_
    refine g_icmp_ge (pc' := 77) (tgt := 112) C dX1_survey_74 (by decide) rfl (fun hc => ?_) (fun hc => ?_)
    · rw [if_pos hc] at h
      exact g_sub C [0, 1, 2, 3, 4] rfl (w_X1_survey_85_6_B112 C hr hR r22 hr22 _ _ _ _ h)
    · rw [if_neg hc] at h
      refine g_iload (pc' := 79) C dX1_survey_77 5 rfl rfl ?_
      refine g_bipush (pc' := 81) (v := 60) C dX1_survey_79 (by decide) rfl ?_
      refine g_icmp_ge (pc' := 84) (tgt := 112) C dX1_survey_81 (by decide) rfl (fun hc => ?_) (fun hc => ?_)
      · rw [if_pos hc] at h
        exact g_sub C [0, 1, 2, 3, 4] rfl (w_X1_survey_85_6_B112 C hr hR r22 hr22 _ _ _ _ h)
      · rw [if_neg hc] at h
        refine g_aload_n (pc' := 85) C dX1_survey_84 0 rfl rfl ?_
        refine gg_X1_15 (pc' := 88) (o := 85) (r := 87) C rfl rfl dX1_survey_85 rfl ?_
        refine g_iload (pc' := 90) C dX1_survey_88 5 rfl rfl ?_
        refine g_dup2 (pc' := 91) C dX1_survey_90 rfl rfl rfl ?_
        obtain ⟨h13, h⟩ := chk_some h
        refine g_iald (pc' := 92) C (o := 87) (by decide) rfl (inb_d h13) dX1_survey_91 rfl ?_
        refine g_aload_n (pc' := 93) C dX1_survey_92 0 rfl rfl ?_
        refine gg_X1_9 (pc' := 96) (o := 85) (r := 86) C rfl rfl dX1_survey_93 rfl ?_
        refine g_iload_n (pc' := 97) C dX1_survey_96 2 rfl rfl ?_
        refine g_iload (pc' := 99) C dX1_survey_97 5 rfl rfl ?_
        refine g_iadd (pc' := 100) C dX1_survey_99 rfl ?_
        refine g_iload (pc' := 102) C dX1_survey_100 4 rfl rfl ?_
        obtain ⟨h14, h⟩ := chk_some h
        refine g_irem (pc' := 103) C dX1_survey_102 h14 rfl ?_
        obtain ⟨h15, h⟩ := chk_some h
        refine g_iald (pc' := 104) C (o := 86) (by decide) rfl (inb_d h15) dX1_survey_103 rfl ?_
        refine g_iadd (pc' := 105) C dX1_survey_104 rfl ?_
        obtain ⟨h16, h⟩ := chk_some h
        obtain ⟨s17, e18, h⟩ := let_some h
        refine g_iast (pc' := 106) C (o := 87) (by decide) rfl (inb_d h16) dX1_survey_105 rfl e18 ?_
        obtain ⟨v19, e20, h⟩ := let_some h
        refine g_iinc (pc' := 109) (v := v19) (lv' := [(5, .int v19), (0, .ref (base + 85)), (1, .ref (base + 6)), (2, .int x2), (3, .int x3), (4, .int x4)]) C dX1_survey_106 5 rfl (by rw [e20]; rfl) (by decide) rfl rfl ?_
        refine g_goto (tgt := 71) C dX1_survey_109 (by decide) ?_
        exact g_sub C [1, 2, 3, 4, 5, 0] rfl (ih _ _ _ _ _ h)
noncomputable def f_X1_survey_85_6_B68 (r22 : cr_S → Int32 → Int32 → Int32 → Option (cr_S)) (σ : cr_S) (x2 : Int32) (x3 : Int32) (x4 : Int32) : Option (cr_S) :=
  f_X1_survey_85_6_L71 r22 cr_fuel σ x2 x3 x4 0
set_option maxRecDepth 100000 in
set_option maxHeartbeats 4000000 in
theorem w_X1_survey_85_6_B68 (C : cr_C p l e R s m args below meth c sfC 97 base D cA cX1_survey 6 RX1) (hr : meth.sig.returnType = none) (hR : 1 ≤ R.frames ∧ 27 ≤ R.locals) {res : cr_S} (r22 : cr_S → Int32 → Int32 → Int32 → Option (cr_S)) (hr22 : ∀ (σ : cr_S) (x2 : Int32) (x3 : Int32) (x4 : Int32), r22 σ x2 x3 x4 = some res → cr_W p l e R s m args below meth c sfC 97 base D cA 6 (MQ below (cr_Qv sfC 97 base D cA res) args s 0 0 (cr_A 97 base)) σ 22 [(0, .ref (base + 85)), (1, .ref (base + 6)), (2, .int x2), (3, .int x3), (4, .int x4)] []) (σ : cr_S) (x2 : Int32) (x3 : Int32) (x4 : Int32) (h : f_X1_survey_85_6_B68 r22 σ x2 x3 x4 = some res) : cr_W p l e R s m args below meth c sfC 97 base D cA 6 (MQ below (cr_Qv sfC 97 base D cA res) args s 0 0 (cr_A 97 base)) σ 68 [(0, .ref (base + 85)), (1, .ref (base + 6)), (2, .int x2), (3, .int x3), (4, .int x4)] [] := by
  unfold f_X1_survey_85_6_B68 at h
  refine g_iconst (pc' := 69) (v := 0) C dX1_survey_68 (by decide) rfl ?_
  refine g_istore (pc' := 71) (lv' := [(5, .int 0), (0, .ref (base + 85)), (1, .ref (base + 6)), (2, .int x2), (3, .int x3), (4, .int x4)]) C dX1_survey_69 (by decide) rfl rfl ?_
  exact g_sub C [1, 2, 3, 4, 5, 0] rfl (w_X1_survey_85_6_L71 C hr hR r22 hr22 _ _ _ _ _ _ h)
noncomputable def f_X1_survey_85_6_L47 (r22 : cr_S → Int32 → Int32 → Int32 → Option (cr_S)) : Nat → cr_S → Int32 → Int32 → Int32 → Int32 → Option (cr_S)
  | 0, _, _, _, _, _ => none
  | n + 1, σ, x2, x3, x4, x5 =>
    (if x4 ≤ x5 then f_X1_survey_85_6_B68 r22 σ x2 x3 x4 else Option.bind (f_X1_surveyPhases_85 σ x4 x5) (fun q21 => cr_let (x5 + 1) (fun v23 => f_X1_survey_85_6_L47 r22 n q21 x2 x3 x4 v23)))
set_option maxRecDepth 100000 in
set_option maxHeartbeats 4000000 in
theorem w_X1_survey_85_6_L47 (C : cr_C p l e R s m args below meth c sfC 97 base D cA cX1_survey 6 RX1) (hr : meth.sig.returnType = none) (hR : 1 ≤ R.frames ∧ 27 ≤ R.locals) {res : cr_S} (r22 : cr_S → Int32 → Int32 → Int32 → Option (cr_S)) (hr22 : ∀ (σ : cr_S) (x2 : Int32) (x3 : Int32) (x4 : Int32), r22 σ x2 x3 x4 = some res → cr_W p l e R s m args below meth c sfC 97 base D cA 6 (MQ below (cr_Qv sfC 97 base D cA res) args s 0 0 (cr_A 97 base)) σ 22 [(0, .ref (base + 85)), (1, .ref (base + 6)), (2, .int x2), (3, .int x3), (4, .int x4)] []) : ∀ (n : Nat) (σ : cr_S) (x2 : Int32) (x3 : Int32) (x4 : Int32) (x5 : Int32), f_X1_survey_85_6_L47 r22 n σ x2 x3 x4 x5 = some res → cr_W p l e R s m args below meth c sfC 97 base D cA 6 (MQ below (cr_Qv sfC 97 base D cA res) args s 0 0 (cr_A 97 base)) σ 47 [(0, .ref (base + 85)), (1, .ref (base + 6)), (2, .int x2), (3, .int x3), (4, .int x4), (5, .int x5)] [] := by
  intro n
  induction n with
  | zero =>
    intro σ x2 x3 x4 x5 h
    cases h
  | succ n ih =>
    intro σ x2 x3 x4 x5 h
    rw [f_X1_survey_85_6_L47] at h
    refine g_iload (pc' := 49) C dX1_survey_47 5 rfl rfl ?_
    refine g_iload (pc' := 51) C dX1_survey_49 4 rfl rfl ?_
    refine g_icmp_ge (pc' := 54) (tgt := 68) C dX1_survey_51 (by decide) rfl (fun hc => ?_) (fun hc => ?_)
    · rw [if_pos hc] at h
      exact g_sub C [0, 1, 2, 3, 4] rfl (w_X1_survey_85_6_B68 C hr hR r22 hr22 _ _ _ _ h)
    · rw [if_neg hc] at h
      refine g_aload_n (pc' := 55) C dX1_survey_54 0 rfl rfl ?_
      refine g_iload (pc' := 57) C dX1_survey_55 4 rfl rfl ?_
      refine g_iload (pc' := 59) C dX1_survey_57 5 rfl rfl ?_
      obtain ⟨q21, h22, h⟩ := bind_some h
      refine g_callVv (pc' := 62) (res := q21) C [.int x4, .int x5] cY_X1_surveyPhases rfl (o := 85) (by decide) rfl mv_X1_surveyPhases mm_X1_35 ⟨Nat.le_trans (by decide) hR.1, Nat.le_trans (by decide) hR.2⟩ rfl (Nat.le_of_ble_eq_true rfl) rfl dX1_survey_59 (c_X1_surveyPhases_85 l base D cA σ x4 x5 q21 h22) rfl ?_
      obtain ⟨v23, e24, h⟩ := let_some h
      refine g_iinc (pc' := 65) (v := v23) (lv' := [(5, .int v23), (0, .ref (base + 85)), (1, .ref (base + 6)), (2, .int x2), (3, .int x3), (4, .int x4)]) C dX1_survey_62 5 rfl (by rw [e24]; rfl) (by decide) rfl rfl ?_
      refine g_goto (tgt := 47) C dX1_survey_65 (by decide) ?_
      exact g_sub C [1, 2, 3, 4, 5, 0] rfl (ih _ _ _ _ _ h)
noncomputable def f_X1_survey_85_6_L22  : Nat → cr_S → Int32 → Int32 → Int32 → Option (cr_S)
  | 0, _, _, _, _ => none
  | n + 1, σ, x2, x3, x4 =>
    (if 24 < x4 then some σ else Option.bind (f_J7_fill_53178_86 σ 0) (fun q7 => Option.bind (f_X1_fold_85_6 q7 x4) (fun q9 => f_X1_survey_85_6_L47 (f_X1_survey_85_6_L22 n) cr_fuel q9 x2 x3 x4 1)))
set_option maxRecDepth 100000 in
set_option maxHeartbeats 4000000 in
theorem w_X1_survey_85_6_L22 (C : cr_C p l e R s m args below meth c sfC 97 base D cA cX1_survey 6 RX1) (hr : meth.sig.returnType = none) (hR : 1 ≤ R.frames ∧ 27 ≤ R.locals) {res : cr_S}  : ∀ (n : Nat) (σ : cr_S) (x2 : Int32) (x3 : Int32) (x4 : Int32), f_X1_survey_85_6_L22 n σ x2 x3 x4 = some res → cr_W p l e R s m args below meth c sfC 97 base D cA 6 (MQ below (cr_Qv sfC 97 base D cA res) args s 0 0 (cr_A 97 base)) σ 22 [(0, .ref (base + 85)), (1, .ref (base + 6)), (2, .int x2), (3, .int x3), (4, .int x4)] [] := by
  intro n
  induction n with
  | zero =>
    intro σ x2 x3 x4 h
    cases h
  | succ n ih =>
    intro σ x2 x3 x4 h
    rw [f_X1_survey_85_6_L22] at h
    refine g_iload (pc' := 24) C dX1_survey_22 4 rfl rfl ?_
    refine g_bipush (pc' := 26) (v := 24) C dX1_survey_24 (by decide) rfl ?_
    refine g_icmp_gt (pc' := 29) (tgt := 118) C dX1_survey_26 (by decide) rfl (fun hc => ?_) (fun hc => ?_)
    · rw [if_pos hc] at h
      exact g_vret C hr dX1_survey_118 h
    · rw [if_neg hc] at h
      refine g_aload_n (pc' := 30) C dX1_survey_29 0 rfl rfl ?_
      refine gg_X1_9 (pc' := 33) (o := 85) (r := 86) C rfl rfl dX1_survey_30 rfl ?_
      refine g_iconst (pc' := 34) (v := 0) C dX1_survey_33 (by decide) rfl ?_
      obtain ⟨q7, h8, h⟩ := bind_some h
      refine g_callSv (pc' := 37) (res := q7) C [.ref (base + 86), .int 0] cY_J7_fill_53178 mv_J7_fill_53178 mm_X1_25 ⟨Nat.le_trans (by decide) hR.1, Nat.le_trans (by decide) hR.2⟩ rfl (Nat.le_of_ble_eq_true rfl) rfl dX1_survey_34 (c_J7_fill_53178_86 l base D cA σ 0 q7 h8) rfl ?_
      refine g_aload_n (pc' := 38) C dX1_survey_37 0 rfl rfl ?_
      refine g_aload_n (pc' := 39) C dX1_survey_38 1 rfl rfl ?_
      refine g_iload (pc' := 41) C dX1_survey_39 4 rfl rfl ?_
      obtain ⟨q9, h10, h⟩ := bind_some h
      refine g_callVv (pc' := 44) (res := q9) C [.ref (base + 6), .int x4] cY_X1_fold rfl (o := 85) (by decide) rfl mv_X1_fold mm_X1_31 ⟨Nat.le_trans (by decide) hR.1, Nat.le_trans (by decide) hR.2⟩ rfl (Nat.le_of_ble_eq_true rfl) rfl dX1_survey_41 (c_X1_fold_85_6 l base D cA q7 x4 q9 h10) rfl ?_
      refine g_iconst (pc' := 45) (v := 1) C dX1_survey_44 (by decide) rfl ?_
      refine g_istore (pc' := 47) (lv' := [(5, .int 1), (0, .ref (base + 85)), (1, .ref (base + 6)), (2, .int x2), (3, .int x3), (4, .int x4)]) C dX1_survey_45 (by decide) rfl rfl ?_
      exact g_sub C [1, 2, 3, 4, 5, 0] rfl (w_X1_survey_85_6_L47 C hr hR (f_X1_survey_85_6_L22 n) ih _ _ _ _ _ _ h)
noncomputable def f_X1_survey_85_6 (σ : cr_S) (a2 : Int32) (a3 : Int32) : Option (cr_S) :=
  cr_let (sF σ 85 2 0) (fun s1 => cr_let (sF s1 85 3 (-4)) (fun s3 => Option.bind (f_J7_fill_53178_87 s3 0) (fun q5 => f_X1_survey_85_6_L22 cr_fuel q5 a2 a3 2)))
set_option maxRecDepth 100000 in
set_option maxHeartbeats 4000000 in
theorem w_X1_survey_85_6 (C : cr_C p l e R s m args below meth c sfC 97 base D cA cX1_survey 6 RX1) (hr : meth.sig.returnType = none) (hR : 1 ≤ R.frames ∧ 27 ≤ R.locals) {res : cr_S} (σ : cr_S) (a2 : Int32) (a3 : Int32) (h : f_X1_survey_85_6 σ a2 a3 = some res) : cr_W p l e R s m args below meth c sfC 97 base D cA 6 (MQ below (cr_Qv sfC 97 base D cA res) args s 0 0 (cr_A 97 base)) σ 0 [(0, .ref (base + 85)), (1, .ref (base + 6)), (2, .int a2), (3, .int a3)] [] := by
  unfold f_X1_survey_85_6 at h
  refine g_aload_n (pc' := 1) C dX1_survey_0 0 rfl rfl ?_
  refine g_iconst (pc' := 2) (v := 0) C dX1_survey_1 (by decide) rfl ?_
  obtain ⟨s1, e2, h⟩ := let_some h
  refine gp_X1_18 (pc' := 5) (o := 85) C rfl dX1_survey_2 rfl e2 ?_
  refine g_aload_n (pc' := 6) C dX1_survey_5 0 rfl rfl ?_
  refine g_bipush (pc' := 8) (v := (-4)) C dX1_survey_6 (by decide) rfl ?_
  obtain ⟨s3, e4, h⟩ := let_some h
  refine gp_X1_22 (pc' := 11) (o := 85) C rfl dX1_survey_8 rfl e4 ?_
  refine g_aload_n (pc' := 12) C dX1_survey_11 0 rfl rfl ?_
  refine gg_X1_15 (pc' := 15) (o := 85) (r := 87) C rfl rfl dX1_survey_12 rfl ?_
  refine g_iconst (pc' := 16) (v := 0) C dX1_survey_15 (by decide) rfl ?_
  obtain ⟨q5, h6, h⟩ := bind_some h
  refine g_callSv (pc' := 19) (res := q5) C [.ref (base + 87), .int 0] cY_J7_fill_53178 mv_J7_fill_53178 mm_X1_25 ⟨Nat.le_trans (by decide) hR.1, Nat.le_trans (by decide) hR.2⟩ rfl (Nat.le_of_ble_eq_true rfl) rfl dX1_survey_16 (c_J7_fill_53178_87 l base D cA s3 0 q5 h6) rfl ?_
  refine g_iconst (pc' := 20) (v := 2) C dX1_survey_19 (by decide) rfl ?_
  refine g_istore (pc' := 22) (lv' := [(4, .int 2), (0, .ref (base + 85)), (1, .ref (base + 6)), (2, .int a2), (3, .int a3)]) C dX1_survey_20 (by decide) rfl rfl ?_
  exact g_sub C [1, 2, 3, 4, 0] rfl (w_X1_survey_85_6_L22 C hr hR _ _ _ _ _ h)
theorem c_X1_survey_85_6 (l : Launch) (base : Nat) (D : va_G) (cA : Nat → ClassId) (σ : cr_S) (a2 : Int32) (a3 : Int32) (res : cr_S) (h : f_X1_survey_85_6 σ a2 a3 = some res) : cr_M l yX1_survey cX1_survey 6 none 1 27 sfC 97 base D cA [.ref (base + 85), .ref (base + 6), .int a2, .int a3] σ (cr_Qv sfC 97 base D cA res) := by
  refine cr_enter [.ref (base + 85), .ref (base + 6), .int a2, .int a3] [(0, .ref (base + 85)), (1, .ref (base + 6)), (2, .int a2), (3, .int a3)] (by decide) (Nat.le_of_ble_eq_true rfl) rfl ?_
  intro p e R s m below meth c C hr hR
  exact w_X1_survey_85_6 C hr hR σ a2 a3 h
noncomputable def f_X10_fits (σ : cr_S) (a1 : Int32) : Option (cr_S × Int32) :=
  Option.bind (f_X10_isWithin σ a1 0 1) (fun q1 => (if q1.2 = 0 then some (q1.1, (-1)) else Option.bind (f_X1_survey_85_6 q1.1 0 0) (fun q3 => some (q3, if a1 = 0 then rF q3 85 2 else rF q3 85 3))))
set_option maxRecDepth 100000 in
set_option maxHeartbeats 4000000 in
theorem w_X10_fits (C : cr_C p l e R s m args below meth c sfC 97 base D cA cX10_fits 2 RX10) (hr : meth.sig.returnType = some .int) (hR : 2 ≤ R.frames ∧ 52 ≤ R.locals) {res : cr_S × Int32} (σ : cr_S) (a1 : Int32) (h : f_X10_fits σ a1 = some res) : cr_W p l e R s m args below meth c sfC 97 base D cA 2 (MQ below (cr_Qi sfC 97 base D cA res) args s 0 0 (cr_A 97 base)) σ 0 [(0, .ref (base + 0)), (1, .int a1)] [] := by
  unfold f_X10_fits at h
  refine g_iload_n (pc' := 1) C dX10_fits_0 1 rfl rfl ?_
  refine g_iconst (pc' := 2) (v := 0) C dX10_fits_1 (by decide) rfl ?_
  refine g_iconst (pc' := 3) (v := 1) C dX10_fits_2 (by decide) rfl ?_
  obtain ⟨q1, h2, h⟩ := bind_some h
  refine g_callSi (pc' := 6) (res := q1) C [.int a1, .int 0, .int 1] cY_X10_isWithin mv_X10_isWithin mm_X10_54 ⟨Nat.le_trans (by decide) hR.1, Nat.le_trans (by decide) hR.2⟩ rfl (Nat.le_of_ble_eq_true rfl) rfl dX10_fits_3 (c_X10_isWithin l base D cA σ a1 0 1 q1 h2) rfl ?_
  refine g_if_ne (pc' := 9) (tgt := 11) C dX10_fits_6 (by decide) rfl (fun hc => ?_) (fun hc => ?_)
  · rw [if_neg hc] at h
    refine g_aload_n (pc' := 12) C dX10_fits_11 0 rfl rfl ?_
    refine gg_X10_43 (pc' := 15) (o := 0) (r := 85) C rfl rfl dX10_fits_12 rfl ?_
    refine g_aload_n (pc' := 16) C dX10_fits_15 0 rfl rfl ?_
    refine gg_X10_12 (pc' := 19) (o := 0) (r := 1) C rfl rfl dX10_fits_16 rfl ?_
    refine gg_X10_170 (pc' := 22) (o := 1) (r := 6) C rfl rfl dX10_fits_19 rfl ?_
    refine g_iconst (pc' := 23) (v := 0) C dX10_fits_22 (by decide) rfl ?_
    refine g_iconst (pc' := 24) (v := 0) C dX10_fits_23 (by decide) rfl ?_
    obtain ⟨q3, h4, h⟩ := bind_some h
    refine g_callVv (pc' := 27) (res := q3) C [.ref (base + 6), .int 0, .int 0] cY_X1_survey rfl (o := 85) (by decide) rfl mv_X1_survey mm_X10_265 ⟨Nat.le_trans (by decide) hR.1, Nat.le_trans (by decide) hR.2⟩ rfl (Nat.le_of_ble_eq_true rfl) rfl dX10_fits_24 (c_X1_survey_85_6 l base D cA q1.1 0 0 q3 h4) rfl ?_
    refine g_iload_n (pc' := 28) C dX10_fits_27 1 rfl rfl ?_
    refine g_iteI (σ := q3) (pj := 48) (lv := [(0, .ref (base + 0)), (1, .int a1)]) (st := []) (cd := a1 = 0) (a := rF q3 85 2) (b := rF q3 85 3) C ?_ (fun kt kf => ?_)
    · exact g_iret C hr dX10_fits_48 h
    · refine g_if_ne (pc' := 31) (tgt := 41) C dX10_fits_28 (by decide) rfl (fun hc => ?_) (fun hc => ?_)
      · refine g_aload_n (pc' := 42) C dX10_fits_41 0 rfl rfl ?_
        refine gg_X10_43 (pc' := 45) (o := 0) (r := 85) C rfl rfl dX10_fits_42 rfl ?_
        refine gg_X10_272 (pc' := 48) (o := 85) C rfl dX10_fits_45 rfl ?_
        exact kf hc
      · refine g_aload_n (pc' := 32) C dX10_fits_31 0 rfl rfl ?_
        refine gg_X10_43 (pc' := 35) (o := 0) (r := 85) C rfl rfl dX10_fits_32 rfl ?_
        refine gg_X10_269 (pc' := 38) (o := 85) C rfl dX10_fits_35 rfl ?_
        refine g_goto (tgt := 48) C dX10_fits_38 (by decide) ?_
        exact kt hc
  · rw [if_pos hc] at h
    refine g_iconst (pc' := 10) (v := (-1)) C dX10_fits_9 (by decide) rfl ?_
    exact g_iret C hr dX10_fits_10 h
theorem c_X10_fits (l : Launch) (base : Nat) (D : va_G) (cA : Nat → ClassId) (σ : cr_S) (a1 : Int32) (res : cr_S × Int32) (h : f_X10_fits σ a1 = some res) : cr_M l yX10_fits cX10_fits 2 (some .int) 2 52 sfC 97 base D cA [.ref (base + 0), .int a1] σ (cr_Qi sfC 97 base D cA res) := by
  refine cr_enter [.ref (base + 0), .int a1] [(0, .ref (base + 0)), (1, .int a1)] (by decide) (Nat.le_of_ble_eq_true rfl) rfl ?_
  intro p e R s m below meth c C hr hR
  exact w_X10_fits C hr hR σ a1 h
noncomputable def f_X10_foretell (σ : cr_S) (a1 : Int32) : Option (cr_S × Int32) :=
  Option.bind (f_X10_isWithin σ a1 0 9999) (fun q1 => (if q1.2 = 0 then some (q1.1, (-1)) else Option.bind (f_X1_survey_85_6 q1.1 a1 1) (fun q3 => (if (rF q3 85 2) = 0 then some (q3, (-4)) else cr_let (rA q3 87 0) (fun v5 => (if v5 = (rF q3 85 2) then some (q3, 1) else some (q3, if v5 = 0 then 0 else 2)))))))
set_option maxRecDepth 100000 in
set_option maxHeartbeats 4000000 in
theorem w_X10_foretell (C : cr_C p l e R s m args below meth c sfC 97 base D cA cX10_foretell 3 RX10) (hr : meth.sig.returnType = some .int) (hR : 2 ≤ R.frames ∧ 52 ≤ R.locals) {res : cr_S × Int32} (σ : cr_S) (a1 : Int32) (h : f_X10_foretell σ a1 = some res) : cr_W p l e R s m args below meth c sfC 97 base D cA 3 (MQ below (cr_Qi sfC 97 base D cA res) args s 0 0 (cr_A 97 base)) σ 0 [(0, .ref (base + 0)), (1, .int a1)] [] := by
  unfold f_X10_foretell at h
  refine g_iload_n (pc' := 1) C dX10_foretell_0 1 rfl rfl ?_
  refine g_iconst (pc' := 2) (v := 0) C dX10_foretell_1 (by decide) rfl ?_
  refine g_sipush (pc' := 5) (v := 9999) C dX10_foretell_2 (by decide) rfl ?_
  obtain ⟨q1, h2, h⟩ := bind_some h
  refine g_callSi (pc' := 8) (res := q1) C [.int a1, .int 0, .int 9999] cY_X10_isWithin mv_X10_isWithin mm_X10_54 ⟨Nat.le_trans (by decide) hR.1, Nat.le_trans (by decide) hR.2⟩ rfl (Nat.le_of_ble_eq_true rfl) rfl dX10_foretell_5 (c_X10_isWithin l base D cA σ a1 0 9999 q1 h2) rfl ?_
  refine g_if_ne (pc' := 11) (tgt := 13) C dX10_foretell_8 (by decide) rfl (fun hc => ?_) (fun hc => ?_)
  · rw [if_neg hc] at h
    refine g_aload_n (pc' := 14) C dX10_foretell_13 0 rfl rfl ?_
    refine gg_X10_43 (pc' := 17) (o := 0) (r := 85) C rfl rfl dX10_foretell_14 rfl ?_
    refine g_aload_n (pc' := 18) C dX10_foretell_17 0 rfl rfl ?_
    refine gg_X10_12 (pc' := 21) (o := 0) (r := 1) C rfl rfl dX10_foretell_18 rfl ?_
    refine gg_X10_170 (pc' := 24) (o := 1) (r := 6) C rfl rfl dX10_foretell_21 rfl ?_
    refine g_iload_n (pc' := 25) C dX10_foretell_24 1 rfl rfl ?_
    refine g_iconst (pc' := 26) (v := 1) C dX10_foretell_25 (by decide) rfl ?_
    obtain ⟨q3, h4, h⟩ := bind_some h
    refine g_callVv (pc' := 29) (res := q3) C [.ref (base + 6), .int a1, .int 1] cY_X1_survey rfl (o := 85) (by decide) rfl mv_X1_survey mm_X10_265 ⟨Nat.le_trans (by decide) hR.1, Nat.le_trans (by decide) hR.2⟩ rfl (Nat.le_of_ble_eq_true rfl) rfl dX10_foretell_26 (c_X1_survey_85_6 l base D cA q1.1 a1 1 q3 h4) rfl ?_
    refine g_aload_n (pc' := 30) C dX10_foretell_29 0 rfl rfl ?_
    refine gg_X10_43 (pc' := 33) (o := 0) (r := 85) C rfl rfl dX10_foretell_30 rfl ?_
    refine gg_X10_269 (pc' := 36) (o := 85) C rfl dX10_foretell_33 rfl ?_
    refine g_if_ne (pc' := 39) (tgt := 42) C dX10_foretell_36 (by decide) rfl (fun hc => ?_) (fun hc => ?_)
    · rw [if_neg hc] at h
      refine g_aload_n (pc' := 43) C dX10_foretell_42 0 rfl rfl ?_
      refine gg_X10_43 (pc' := 46) (o := 0) (r := 85) C rfl rfl dX10_foretell_43 rfl ?_
      refine gg_X10_275 (pc' := 49) (o := 85) (r := 87) C rfl rfl dX10_foretell_46 rfl ?_
      refine g_iconst (pc' := 50) (v := 0) C dX10_foretell_49 (by decide) rfl ?_
      refine g_iald (pc' := 51) C (o := 87) (by decide) rfl (inb_d (by decide)) dX10_foretell_50 rfl ?_
      obtain ⟨v5, e6, h⟩ := let_some h
      refine g_nameI e6 ?_
      refine g_istore_n (pc' := 52) (lv' := [(2, .int v5), (0, .ref (base + 0)), (1, .int a1)]) C dX10_foretell_51 rfl (by decide) rfl rfl ?_
      refine g_iload_n (pc' := 53) C dX10_foretell_52 0 rfl rfl ?_
      refine g_aload_n (pc' := 54) C dX10_foretell_53 1 rfl rfl ?_
      refine gg_X10_43 (pc' := 57) (o := 0) (r := 85) C rfl rfl dX10_foretell_54 rfl ?_
      refine gg_X10_269 (pc' := 60) (o := 85) C rfl dX10_foretell_57 rfl ?_
      refine g_icmp_ne (pc' := 63) (tgt := 65) C dX10_foretell_60 (by decide) rfl (fun hc => ?_) (fun hc => ?_)
      · rw [if_neg hc] at h
        refine g_iload_n (pc' := 66) C dX10_foretell_65 0 rfl rfl ?_
        refine g_iteI (σ := q3) (pj := 74) (lv := [(2, .int v5), (0, .ref (base + 0)), (1, .int a1)]) (st := []) (cd := v5 = 0) (a := 0) (b := 2) C ?_ (fun kt kf => ?_)
        · exact g_iret C hr dX10_foretell_74 h
        · refine g_if_ne (pc' := 69) (tgt := 73) C dX10_foretell_66 (by decide) rfl (fun hc => ?_) (fun hc => ?_)
          · refine g_iconst (pc' := 74) (v := 2) C dX10_foretell_73 (by decide) rfl ?_
            exact kf hc
          · refine g_iconst (pc' := 70) (v := 0) C dX10_foretell_69 (by decide) rfl ?_
            refine g_goto (tgt := 74) C dX10_foretell_70 (by decide) ?_
            exact kt hc
      · rw [if_pos hc] at h
        refine g_iconst (pc' := 64) (v := 1) C dX10_foretell_63 (by decide) rfl ?_
        exact g_iret C hr dX10_foretell_64 h
    · rw [if_pos hc] at h
      refine g_bipush (pc' := 41) (v := (-4)) C dX10_foretell_39 (by decide) rfl ?_
      exact g_iret C hr dX10_foretell_41 h
  · rw [if_pos hc] at h
    refine g_iconst (pc' := 12) (v := (-1)) C dX10_foretell_11 (by decide) rfl ?_
    exact g_iret C hr dX10_foretell_12 h
theorem c_X10_foretell (l : Launch) (base : Nat) (D : va_G) (cA : Nat → ClassId) (σ : cr_S) (a1 : Int32) (res : cr_S × Int32) (h : f_X10_foretell σ a1 = some res) : cr_M l yX10_foretell cX10_foretell 3 (some .int) 2 52 sfC 97 base D cA [.ref (base + 0), .int a1] σ (cr_Qi sfC 97 base D cA res) := by
  refine cr_enter [.ref (base + 0), .int a1] [(0, .ref (base + 0)), (1, .int a1)] (by decide) (Nat.le_of_ble_eq_true rfl) rfl ?_
  intro p e R s m below meth c C hr hR
  exact w_X10_foretell C hr hR σ a1 h
noncomputable def f_X1_leftAtWorst_85 (σ : cr_S) (a1 : Int32) : Option (cr_S × Int32) :=
  chk (inb a1 60) (chk (inb a1 60) (some (σ, if (rA σ 87 a1) < ((rF σ 85 2) - (rA σ 87 a1)) then (rF σ 85 2) - (rA σ 87 a1) else rA σ 87 a1)))
set_option maxRecDepth 100000 in
set_option maxHeartbeats 4000000 in
theorem w_X1_leftAtWorst_85 (C : cr_C p l e R s m args below meth c sfC 97 base D cA cX1_leftAtWorst 2 RX1) (hr : meth.sig.returnType = some .int) (hR : 1 ≤ R.frames ∧ 21 ≤ R.locals) {res : cr_S × Int32} (σ : cr_S) (a1 : Int32) (h : f_X1_leftAtWorst_85 σ a1 = some res) : cr_W p l e R s m args below meth c sfC 97 base D cA 2 (MQ below (cr_Qi sfC 97 base D cA res) args s 0 0 (cr_A 97 base)) σ 0 [(0, .ref (base + 85)), (1, .int a1)] [] := by
  unfold f_X1_leftAtWorst_85 at h
  refine g_aload_n (pc' := 1) C dX1_leftAtWorst_0 0 rfl rfl ?_
  refine gg_X1_15 (pc' := 4) (o := 85) (r := 87) C rfl rfl dX1_leftAtWorst_1 rfl ?_
  refine g_iload_n (pc' := 5) C dX1_leftAtWorst_4 1 rfl rfl ?_
  obtain ⟨h1, h⟩ := chk_some h
  refine g_iald (pc' := 6) C (o := 87) (by decide) rfl (inb_d h1) dX1_leftAtWorst_5 rfl ?_
  refine g_aload_n (pc' := 7) C dX1_leftAtWorst_6 0 rfl rfl ?_
  refine gg_X1_18 (pc' := 10) (o := 85) C rfl dX1_leftAtWorst_7 rfl ?_
  refine g_aload_n (pc' := 11) C dX1_leftAtWorst_10 0 rfl rfl ?_
  refine gg_X1_15 (pc' := 14) (o := 85) (r := 87) C rfl rfl dX1_leftAtWorst_11 rfl ?_
  refine g_iload_n (pc' := 15) C dX1_leftAtWorst_14 1 rfl rfl ?_
  obtain ⟨h2, h⟩ := chk_some h
  refine g_iald (pc' := 16) C (o := 87) (by decide) rfl (inb_d h2) dX1_leftAtWorst_15 rfl ?_
  refine g_isub (pc' := 17) C dX1_leftAtWorst_16 rfl ?_
  refine g_mmax (pc' := 20) C mm_X1_56 ⟨Nat.le_trans (by decide) hR.1, Nat.le_trans (by decide) hR.2⟩ (Nat.le_of_ble_eq_true rfl) dX1_leftAtWorst_17 rfl ?_
  exact g_iret C hr dX1_leftAtWorst_20 h
theorem c_X1_leftAtWorst_85 (l : Launch) (base : Nat) (D : va_G) (cA : Nat → ClassId) (σ : cr_S) (a1 : Int32) (res : cr_S × Int32) (h : f_X1_leftAtWorst_85 σ a1 = some res) : cr_M l yX1_leftAtWorst cX1_leftAtWorst 2 (some .int) 1 21 sfC 97 base D cA [.ref (base + 85), .int a1] σ (cr_Qi sfC 97 base D cA res) := by
  refine cr_enter [.ref (base + 85), .int a1] [(0, .ref (base + 85)), (1, .int a1)] (by decide) (Nat.le_of_ble_eq_true rfl) rfl ?_
  intro p e R s m below meth c C hr hR
  exact w_X1_leftAtWorst_85 C hr hR σ a1 h
noncomputable def f_X10_next_B93  (σ : cr_S) (x1 : Int32) (x2 : Int32) (x3 : Int32) : Option (cr_S × Int32) :=
  (if x2 = 0 then some (σ, x1 + x3) else Option.bind (f_X1_leftAtWorst_85 σ x3) (fun q7 => some (q7.1, q7.2)))
set_option maxRecDepth 100000 in
set_option maxHeartbeats 4000000 in
theorem w_X10_next_B93 (C : cr_C p l e R s m args below meth c sfC 97 base D cA cX10_next 5 RX10) (hr : meth.sig.returnType = some .int) (hR : 2 ≤ R.frames ∧ 52 ≤ R.locals) {res : cr_S × Int32}  (σ : cr_S) (x1 : Int32) (x2 : Int32) (x3 : Int32) (h : f_X10_next_B93 σ x1 x2 x3 = some res) : cr_W p l e R s m args below meth c sfC 97 base D cA 5 (MQ below (cr_Qi sfC 97 base D cA res) args s 0 0 (cr_A 97 base)) σ 93 [(0, .ref (base + 0)), (1, .int x1), (2, .int x2), (3, .int x3)] [] := by
  unfold f_X10_next_B93 at h
  refine g_iload_n (pc' := 94) C dX10_next_93 2 rfl rfl ?_
  refine g_if_ne (pc' := 97) (tgt := 103) C dX10_next_94 (by decide) rfl (fun hc => ?_) (fun hc => ?_)
  · rw [if_neg hc] at h
    refine g_aload_n (pc' := 104) C dX10_next_103 0 rfl rfl ?_
    refine gg_X10_43 (pc' := 107) (o := 0) (r := 85) C rfl rfl dX10_next_104 rfl ?_
    refine g_iload_n (pc' := 108) C dX10_next_107 3 rfl rfl ?_
    obtain ⟨q7, h8, h⟩ := bind_some h
    refine g_callVi (pc' := 111) (res := q7) C [.int x3] cY_X1_leftAtWorst rfl (o := 85) (by decide) rfl mv_X1_leftAtWorst mm_X10_278 ⟨Nat.le_trans (by decide) hR.1, Nat.le_trans (by decide) hR.2⟩ rfl (Nat.le_of_ble_eq_true rfl) rfl dX10_next_108 (c_X1_leftAtWorst_85 l base D cA σ x3 q7 h8) rfl ?_
    exact g_iret C hr dX10_next_111 h
  · rw [if_pos hc] at h
    refine g_iload_n (pc' := 98) C dX10_next_97 1 rfl rfl ?_
    refine g_iload_n (pc' := 99) C dX10_next_98 3 rfl rfl ?_
    refine g_iadd (pc' := 100) C dX10_next_99 rfl ?_
    refine g_goto (tgt := 111) C dX10_next_100 (by decide) ?_
    exact g_iret C hr dX10_next_111 h
noncomputable def f_X10_next_B87 (r57 : cr_S → Int32 → Int32 → Int32 → Int32 → Option (cr_S × Int32)) (σ : cr_S) (x1 : Int32) (x2 : Int32) (x3 : Int32) (x4 : Int32) : Option (cr_S × Int32) :=
  cr_let (x4 + 1) (fun v13 => r57 σ x1 x2 x3 v13)
set_option maxRecDepth 100000 in
set_option maxHeartbeats 4000000 in
theorem w_X10_next_B87 (C : cr_C p l e R s m args below meth c sfC 97 base D cA cX10_next 5 RX10) (hr : meth.sig.returnType = some .int) (hR : 2 ≤ R.frames ∧ 52 ≤ R.locals) {res : cr_S × Int32} (r57 : cr_S → Int32 → Int32 → Int32 → Int32 → Option (cr_S × Int32)) (hr57 : ∀ (σ : cr_S) (x1 : Int32) (x2 : Int32) (x3 : Int32) (x4 : Int32), r57 σ x1 x2 x3 x4 = some res → cr_W p l e R s m args below meth c sfC 97 base D cA 5 (MQ below (cr_Qi sfC 97 base D cA res) args s 0 0 (cr_A 97 base)) σ 57 [(0, .ref (base + 0)), (1, .int x1), (2, .int x2), (3, .int x3), (4, .int x4)] []) (σ : cr_S) (x1 : Int32) (x2 : Int32) (x3 : Int32) (x4 : Int32) (h : f_X10_next_B87 r57 σ x1 x2 x3 x4 = some res) : cr_W p l e R s m args below meth c sfC 97 base D cA 5 (MQ below (cr_Qi sfC 97 base D cA res) args s 0 0 (cr_A 97 base)) σ 87 [(0, .ref (base + 0)), (1, .int x1), (2, .int x2), (3, .int x3), (4, .int x4)] [] := by
  unfold f_X10_next_B87 at h
  obtain ⟨v13, e14, h⟩ := let_some h
  refine g_iinc (pc' := 90) (v := v13) (lv' := [(4, .int v13), (0, .ref (base + 0)), (1, .int x1), (2, .int x2), (3, .int x3)]) C dX10_next_87 4 rfl (by rw [e14]; rfl) (by decide) rfl rfl ?_
  refine g_goto (tgt := 57) C dX10_next_90 (by decide) ?_
  exact g_sub C [1, 2, 3, 4, 0] rfl (hr57 _ _ _ _ _ h)
noncomputable def f_X10_next_L57  : Nat → cr_S → Int32 → Int32 → Int32 → Int32 → Option (cr_S × Int32)
  | 0, _, _, _, _, _ => none
  | n + 1, σ, x1, x2, x3, x4 =>
    (if 60 ≤ x4 then f_X10_next_B93 σ x1 x2 x3 else Option.bind (f_X1_leftAtWorst_85 σ x4) (fun q9 => Option.bind (f_X1_leftAtWorst_85 q9.1 x3) (fun q11 => (if q11.2 ≤ q9.2 then f_X10_next_B87 (f_X10_next_L57 n) q11.1 x1 x2 x3 x4 else f_X10_next_B87 (f_X10_next_L57 n) q11.1 x1 x2 x4 x4))))
set_option maxRecDepth 100000 in
set_option maxHeartbeats 4000000 in
theorem w_X10_next_L57 (C : cr_C p l e R s m args below meth c sfC 97 base D cA cX10_next 5 RX10) (hr : meth.sig.returnType = some .int) (hR : 2 ≤ R.frames ∧ 52 ≤ R.locals) {res : cr_S × Int32}  : ∀ (n : Nat) (σ : cr_S) (x1 : Int32) (x2 : Int32) (x3 : Int32) (x4 : Int32), f_X10_next_L57 n σ x1 x2 x3 x4 = some res → cr_W p l e R s m args below meth c sfC 97 base D cA 5 (MQ below (cr_Qi sfC 97 base D cA res) args s 0 0 (cr_A 97 base)) σ 57 [(0, .ref (base + 0)), (1, .int x1), (2, .int x2), (3, .int x3), (4, .int x4)] [] := by
  intro n
  induction n with
  | zero =>
    intro σ x1 x2 x3 x4 h
    cases h
  | succ n ih =>
    intro σ x1 x2 x3 x4 h
    rw [f_X10_next_L57] at h
    refine g_iload (pc' := 59) C dX10_next_57 4 rfl rfl ?_
    refine g_bipush (pc' := 61) (v := 60) C dX10_next_59 (by decide) rfl ?_
    refine g_icmp_ge (pc' := 64) (tgt := 93) C dX10_next_61 (by decide) rfl (fun hc => ?_) (fun hc => ?_)
    · rw [if_pos hc] at h
      exact g_sub C [0, 1, 2, 3] rfl (w_X10_next_B93 C hr hR _ _ _ _ h)
    · rw [if_neg hc] at h
      refine g_aload_n (pc' := 65) C dX10_next_64 0 rfl rfl ?_
      refine gg_X10_43 (pc' := 68) (o := 0) (r := 85) C rfl rfl dX10_next_65 rfl ?_
      refine g_iload (pc' := 70) C dX10_next_68 4 rfl rfl ?_
      obtain ⟨q9, h10, h⟩ := bind_some h
      refine g_callVi (pc' := 73) (res := q9) C [.int x4] cY_X1_leftAtWorst rfl (o := 85) (by decide) rfl mv_X1_leftAtWorst mm_X10_278 ⟨Nat.le_trans (by decide) hR.1, Nat.le_trans (by decide) hR.2⟩ rfl (Nat.le_of_ble_eq_true rfl) rfl dX10_next_70 (c_X1_leftAtWorst_85 l base D cA σ x4 q9 h10) rfl ?_
      refine g_aload_n (pc' := 74) C dX10_next_73 0 rfl rfl ?_
      refine gg_X10_43 (pc' := 77) (o := 0) (r := 85) C rfl rfl dX10_next_74 rfl ?_
      refine g_iload_n (pc' := 78) C dX10_next_77 3 rfl rfl ?_
      obtain ⟨q11, h12, h⟩ := bind_some h
      refine g_callVi (pc' := 81) (res := q11) C [.int x3] cY_X1_leftAtWorst rfl (o := 85) (by decide) rfl mv_X1_leftAtWorst mm_X10_278 ⟨Nat.le_trans (by decide) hR.1, Nat.le_trans (by decide) hR.2⟩ rfl (Nat.le_of_ble_eq_true rfl) rfl dX10_next_78 (c_X1_leftAtWorst_85 l base D cA q9.1 x3 q11 h12) rfl ?_
      refine g_icmp_ge (pc' := 84) (tgt := 87) C dX10_next_81 (by decide) rfl (fun hc => ?_) (fun hc => ?_)
      · rw [if_pos hc] at h
        exact g_sub C [0, 1, 2, 3, 4] rfl (w_X10_next_B87 C hr hR (f_X10_next_L57 n) ih _ _ _ _ _ h)
      · rw [if_neg hc] at h
        refine g_iload (pc' := 86) C dX10_next_84 4 rfl rfl ?_
        refine g_istore_n (pc' := 87) (lv' := [(3, .int x4), (0, .ref (base + 0)), (1, .int x1), (2, .int x2), (4, .int x4)]) C dX10_next_86 rfl (by decide) rfl rfl ?_
        exact g_sub C [1, 2, 3, 0, 4] rfl (w_X10_next_B87 C hr hR (f_X10_next_L57 n) ih _ _ _ _ _ h)
noncomputable def f_X10_next (σ : cr_S) (a1 : Int32) (a2 : Int32) : Option (cr_S × Int32) :=
  Option.bind (f_X10_isWithin σ a1 0 9999) (fun q1 => (if q1.2 = 0 then some (q1.1, (-1)) else Option.bind (f_X10_isWithin q1.1 a2 0 1) (fun q3 => (if q3.2 = 0 then some (q3.1, (-1)) else Option.bind (f_X1_survey_85_6 q3.1 a1 60) (fun q5 => (if (rF q5 85 2) = 0 then some (q5, (-4)) else f_X10_next_L57 cr_fuel q5 a1 a2 0 1))))))
set_option maxRecDepth 100000 in
set_option maxHeartbeats 4000000 in
theorem w_X10_next (C : cr_C p l e R s m args below meth c sfC 97 base D cA cX10_next 5 RX10) (hr : meth.sig.returnType = some .int) (hR : 2 ≤ R.frames ∧ 52 ≤ R.locals) {res : cr_S × Int32} (σ : cr_S) (a1 : Int32) (a2 : Int32) (h : f_X10_next σ a1 a2 = some res) : cr_W p l e R s m args below meth c sfC 97 base D cA 5 (MQ below (cr_Qi sfC 97 base D cA res) args s 0 0 (cr_A 97 base)) σ 0 [(0, .ref (base + 0)), (1, .int a1), (2, .int a2)] [] := by
  unfold f_X10_next at h
  refine g_iload_n (pc' := 1) C dX10_next_0 1 rfl rfl ?_
  refine g_iconst (pc' := 2) (v := 0) C dX10_next_1 (by decide) rfl ?_
  refine g_sipush (pc' := 5) (v := 9999) C dX10_next_2 (by decide) rfl ?_
  obtain ⟨q1, h2, h⟩ := bind_some h
  refine g_callSi (pc' := 8) (res := q1) C [.int a1, .int 0, .int 9999] cY_X10_isWithin mv_X10_isWithin mm_X10_54 ⟨Nat.le_trans (by decide) hR.1, Nat.le_trans (by decide) hR.2⟩ rfl (Nat.le_of_ble_eq_true rfl) rfl dX10_next_5 (c_X10_isWithin l base D cA σ a1 0 9999 q1 h2) rfl ?_
  refine g_if_eq (pc' := 11) (tgt := 20) C dX10_next_8 (by decide) rfl (fun hc => ?_) (fun hc => ?_)
  · rw [if_pos hc] at h
    refine g_iconst (pc' := 21) (v := (-1)) C dX10_next_20 (by decide) rfl ?_
    exact g_iret C hr dX10_next_21 h
  · rw [if_neg hc] at h
    refine g_iload_n (pc' := 12) C dX10_next_11 2 rfl rfl ?_
    refine g_iconst (pc' := 13) (v := 0) C dX10_next_12 (by decide) rfl ?_
    refine g_iconst (pc' := 14) (v := 1) C dX10_next_13 (by decide) rfl ?_
    obtain ⟨q3, h4, h⟩ := bind_some h
    refine g_callSi (pc' := 17) (res := q3) C [.int a2, .int 0, .int 1] cY_X10_isWithin mv_X10_isWithin mm_X10_54 ⟨Nat.le_trans (by decide) hR.1, Nat.le_trans (by decide) hR.2⟩ rfl (Nat.le_of_ble_eq_true rfl) rfl dX10_next_14 (c_X10_isWithin l base D cA q1.1 a2 0 1 q3 h4) rfl ?_
    refine g_if_ne (pc' := 20) (tgt := 22) C dX10_next_17 (by decide) rfl (fun hc => ?_) (fun hc => ?_)
    · rw [if_neg hc] at h
      refine g_aload_n (pc' := 23) C dX10_next_22 0 rfl rfl ?_
      refine gg_X10_43 (pc' := 26) (o := 0) (r := 85) C rfl rfl dX10_next_23 rfl ?_
      refine g_aload_n (pc' := 27) C dX10_next_26 0 rfl rfl ?_
      refine gg_X10_12 (pc' := 30) (o := 0) (r := 1) C rfl rfl dX10_next_27 rfl ?_
      refine gg_X10_170 (pc' := 33) (o := 1) (r := 6) C rfl rfl dX10_next_30 rfl ?_
      refine g_iload_n (pc' := 34) C dX10_next_33 1 rfl rfl ?_
      refine g_bipush (pc' := 36) (v := 60) C dX10_next_34 (by decide) rfl ?_
      obtain ⟨q5, h6, h⟩ := bind_some h
      refine g_callVv (pc' := 39) (res := q5) C [.ref (base + 6), .int a1, .int 60] cY_X1_survey rfl (o := 85) (by decide) rfl mv_X1_survey mm_X10_265 ⟨Nat.le_trans (by decide) hR.1, Nat.le_trans (by decide) hR.2⟩ rfl (Nat.le_of_ble_eq_true rfl) rfl dX10_next_36 (c_X1_survey_85_6 l base D cA q3.1 a1 60 q5 h6) rfl ?_
      refine g_aload_n (pc' := 40) C dX10_next_39 0 rfl rfl ?_
      refine gg_X10_43 (pc' := 43) (o := 0) (r := 85) C rfl rfl dX10_next_40 rfl ?_
      refine gg_X10_269 (pc' := 46) (o := 85) C rfl dX10_next_43 rfl ?_
      refine g_if_ne (pc' := 49) (tgt := 52) C dX10_next_46 (by decide) rfl (fun hc => ?_) (fun hc => ?_)
      · rw [if_neg hc] at h
        refine g_iconst (pc' := 53) (v := 0) C dX10_next_52 (by decide) rfl ?_
        refine g_istore_n (pc' := 54) (lv' := [(3, .int 0), (0, .ref (base + 0)), (1, .int a1), (2, .int a2)]) C dX10_next_53 rfl (by decide) rfl rfl ?_
        refine g_iconst (pc' := 55) (v := 1) C dX10_next_54 (by decide) rfl ?_
        refine g_istore (pc' := 57) (lv' := [(4, .int 1), (3, .int 0), (0, .ref (base + 0)), (1, .int a1), (2, .int a2)]) C dX10_next_55 (by decide) rfl rfl ?_
        exact g_sub C [2, 3, 4, 1, 0] rfl (w_X10_next_L57 C hr hR _ _ _ _ _ _ h)
      · rw [if_pos hc] at h
        refine g_bipush (pc' := 51) (v := (-4)) C dX10_next_49 (by decide) rfl ?_
        exact g_iret C hr dX10_next_51 h
    · rw [if_pos hc] at h
      refine g_iconst (pc' := 21) (v := (-1)) C dX10_next_20 (by decide) rfl ?_
      exact g_iret C hr dX10_next_21 h
theorem c_X10_next (l : Launch) (base : Nat) (D : va_G) (cA : Nat → ClassId) (σ : cr_S) (a1 : Int32) (a2 : Int32) (res : cr_S × Int32) (h : f_X10_next σ a1 a2 = some res) : cr_M l yX10_next cX10_next 5 (some .int) 2 52 sfC 97 base D cA [.ref (base + 0), .int a1, .int a2] σ (cr_Qi sfC 97 base D cA res) := by
  refine cr_enter [.ref (base + 0), .int a1, .int a2] [(0, .ref (base + 0)), (1, .int a1), (2, .int a2)] (by decide) (Nat.le_of_ble_eq_true rfl) rfl ?_
  intro p e R s m below meth c C hr hR
  exact w_X10_next C hr hR σ a1 a2 h
noncomputable def f_X9_takePairsAndShips_28_2_3_B72  (σ : cr_S) (x2 : Int32) (x4 : Int32) : Option (cr_S) :=
  cr_let (sF σ 28 5 x2) (fun s1 => cr_let (sF s1 28 6 x4) (fun s3 => some s3))
set_option maxRecDepth 100000 in
set_option maxHeartbeats 4000000 in
theorem w_X9_takePairsAndShips_28_2_3_B72 (C : cr_C p l e R s m args below meth c sfC 97 base D cA cX9_takePairsAndShips 6 RX9) (hr : meth.sig.returnType = none) (hR : 2 ≤ R.frames ∧ 45 ≤ R.locals) {res : cr_S}  (σ : cr_S) (x2 : Int32) (x4 : Int32) (h : f_X9_takePairsAndShips_28_2_3_B72 σ x2 x4 = some res) : cr_W p l e R s m args below meth c sfC 97 base D cA 6 (MQ below (cr_Qv sfC 97 base D cA res) args s 0 0 (cr_A 97 base)) σ 72 [(0, .ref (base + 28)), (2, .int x2), (4, .int x4)] [] := by
  unfold f_X9_takePairsAndShips_28_2_3_B72 at h
  refine g_aload_n (pc' := 73) C dX9_takePairsAndShips_72 0 rfl rfl ?_
  refine g_iload_n (pc' := 74) C dX9_takePairsAndShips_73 1 rfl rfl ?_
  obtain ⟨s1, e2, h⟩ := let_some h
  refine gp_X9_47 (pc' := 77) (o := 28) C rfl dX9_takePairsAndShips_74 rfl e2 ?_
  refine g_aload_n (pc' := 78) C dX9_takePairsAndShips_77 0 rfl rfl ?_
  refine g_iload (pc' := 80) C dX9_takePairsAndShips_78 2 rfl rfl ?_
  obtain ⟨s3, e4, h⟩ := let_some h
  refine gp_X9_50 (pc' := 83) (o := 28) C rfl dX9_takePairsAndShips_80 rfl e4 ?_
  exact g_vret C hr dX9_takePairsAndShips_83 h
noncomputable def f_X9_takePairsAndShips_28_2_3_L39  : Nat → cr_S → Int32 → Int32 → Int32 → Option (cr_S)
  | 0, _, _, _, _ => none
  | n + 1, σ, x2, x4, x5 =>
    (if x4 ≤ x5 then f_X9_takePairsAndShips_28_2_3_B72 σ x2 x4 else (if 5 ≤ x5 then f_X9_takePairsAndShips_28_2_3_B72 σ x2 x4 else chk (inb x5 5) (chk (inb x5 5) (Option.bind (f_X6_take σ (42 + x5.toNatClampNeg) (15 + x5.toNatClampNeg)) (fun q7 => chk (kC (42 + x5.toNatClampNeg) = 6) (cr_let (x5 + 1) (fun v10 => f_X9_takePairsAndShips_28_2_3_L39 n q7 x2 x4 v10)))))))
set_option maxRecDepth 100000 in
set_option maxHeartbeats 4000000 in
theorem w_X9_takePairsAndShips_28_2_3_L39 (C : cr_C p l e R s m args below meth c sfC 97 base D cA cX9_takePairsAndShips 6 RX9) (hr : meth.sig.returnType = none) (hR : 2 ≤ R.frames ∧ 45 ≤ R.locals) {res : cr_S}  : ∀ (n : Nat) (σ : cr_S) (x2 : Int32) (x4 : Int32) (x5 : Int32), f_X9_takePairsAndShips_28_2_3_L39 n σ x2 x4 x5 = some res → cr_W p l e R s m args below meth c sfC 97 base D cA 6 (MQ below (cr_Qv sfC 97 base D cA res) args s 0 0 (cr_A 97 base)) σ 39 [(0, .ref (base + 28)), (2, .int x2), (3, .ref (base + 3)), (4, .int x4), (5, .int x5)] [] := by
  intro n
  induction n with
  | zero =>
    intro σ x2 x4 x5 h
    cases h
  | succ n ih =>
    intro σ x2 x4 x5 h
    rw [f_X9_takePairsAndShips_28_2_3_L39] at h
    refine g_iload (pc' := 41) C dX9_takePairsAndShips_39 4 rfl rfl ?_
    refine g_iload (pc' := 43) C dX9_takePairsAndShips_41 3 rfl rfl ?_
    refine g_icmp_ge (pc' := 46) (tgt := 72) C dX9_takePairsAndShips_43 (by decide) rfl (fun hc => ?_) (fun hc => ?_)
    · rw [if_pos hc] at h
      exact g_sub C [0, 1, 3] rfl (w_X9_takePairsAndShips_28_2_3_B72 C hr hR _ _ _ h)
    · rw [if_neg hc] at h
      refine g_iload (pc' := 48) C dX9_takePairsAndShips_46 4 rfl rfl ?_
      refine g_iconst (pc' := 49) (v := 5) C dX9_takePairsAndShips_48 (by decide) rfl ?_
      refine g_icmp_ge (pc' := 52) (tgt := 72) C dX9_takePairsAndShips_49 (by decide) rfl (fun hc => ?_) (fun hc => ?_)
      · rw [if_pos hc] at h
        exact g_sub C [0, 1, 3] rfl (w_X9_takePairsAndShips_28_2_3_B72 C hr hR _ _ _ h)
      · rw [if_neg hc] at h
        refine g_aload_n (pc' := 53) C dX9_takePairsAndShips_52 0 rfl rfl ?_
        refine gg_X9_19 (pc' := 56) (o := 28) (r := 30) C rfl rfl dX9_takePairsAndShips_53 rfl ?_
        refine g_iload (pc' := 58) C dX9_takePairsAndShips_56 4 rfl rfl ?_
        obtain ⟨h5, h⟩ := chk_some h
        refine g_aald (pc' := 59) C (o := 30) (by decide) rfl (cn := "ClashRocks$Ship") rfl (inb_d h5) dX9_takePairsAndShips_58 rfl ?_
        refine g_aload_n (pc' := 60) C dX9_takePairsAndShips_59 2 rfl rfl ?_
        refine g_iload (pc' := 62) C dX9_takePairsAndShips_60 4 rfl rfl ?_
        obtain ⟨h6, h⟩ := chk_some h
        refine g_aald (pc' := 63) C (o := 3) (by decide) rfl (cn := "ClashRocks$Ship") rfl (inb_d h6) dX9_takePairsAndShips_62 rfl ?_
        obtain ⟨q7, h8, h⟩ := bind_some h
        obtain ⟨h9, h⟩ := chk_some h
        refine g_callVv (pc' := 66) (res := q7) C [.ref (base + (15 + x5.toNatClampNeg))] cY_X6_take rfl (o := 42 + x5.toNatClampNeg) (kC_lt h9 (by decide)) (sfC_6 h9) mv_X6_take mm_X9_80 ⟨Nat.le_trans (by decide) hR.1, Nat.le_trans (by decide) hR.2⟩ rfl (Nat.le_of_ble_eq_true rfl) rfl dX9_takePairsAndShips_63 (c_X6_take l base D cA σ (42 + x5.toNatClampNeg) (15 + x5.toNatClampNeg) q7 h8) rfl ?_
        obtain ⟨v10, e11, h⟩ := let_some h
        refine g_iinc (pc' := 69) (v := v10) (lv' := [(5, .int v10), (0, .ref (base + 28)), (2, .int x2), (3, .ref (base + 3)), (4, .int x4)]) C dX9_takePairsAndShips_66 4 rfl (by rw [e11]; rfl) (by decide) rfl rfl ?_
        refine g_goto (tgt := 39) C dX9_takePairsAndShips_69 (by decide) ?_
        exact g_sub C [1, 2, 3, 4, 0] rfl (ih _ _ _ _ h)
noncomputable def f_X9_takePairsAndShips_28_2_3_B36  (σ : cr_S) (x2 : Int32) (x4 : Int32) : Option (cr_S) :=
  f_X9_takePairsAndShips_28_2_3_L39 cr_fuel σ x2 x4 0
set_option maxRecDepth 100000 in
set_option maxHeartbeats 4000000 in
theorem w_X9_takePairsAndShips_28_2_3_B36 (C : cr_C p l e R s m args below meth c sfC 97 base D cA cX9_takePairsAndShips 6 RX9) (hr : meth.sig.returnType = none) (hR : 2 ≤ R.frames ∧ 45 ≤ R.locals) {res : cr_S}  (σ : cr_S) (x2 : Int32) (x4 : Int32) (h : f_X9_takePairsAndShips_28_2_3_B36 σ x2 x4 = some res) : cr_W p l e R s m args below meth c sfC 97 base D cA 6 (MQ below (cr_Qv sfC 97 base D cA res) args s 0 0 (cr_A 97 base)) σ 36 [(0, .ref (base + 28)), (2, .int x2), (3, .ref (base + 3)), (4, .int x4)] [] := by
  unfold f_X9_takePairsAndShips_28_2_3_B36 at h
  refine g_iconst (pc' := 37) (v := 0) C dX9_takePairsAndShips_36 (by decide) rfl ?_
  refine g_istore (pc' := 39) (lv' := [(5, .int 0), (0, .ref (base + 28)), (2, .int x2), (3, .ref (base + 3)), (4, .int x4)]) C dX9_takePairsAndShips_37 (by decide) rfl rfl ?_
  exact g_sub C [1, 2, 3, 4, 0] rfl (w_X9_takePairsAndShips_28_2_3_L39 C hr hR _ _ _ _ _ h)
noncomputable def f_X9_takePairsAndShips_28_2_3_L3  : Nat → cr_S → Int32 → Int32 → Int32 → Option (cr_S)
  | 0, _, _, _, _ => none
  | n + 1, σ, x2, x4, x5 =>
    (if x2 ≤ x5 then f_X9_takePairsAndShips_28_2_3_B36 σ x2 x4 else (if 6 ≤ x5 then f_X9_takePairsAndShips_28_2_3_B36 σ x2 x4 else chk (inb x5 6) (chk (inb x5 6) (Option.bind (f_X3_take σ (36 + x5.toNatClampNeg) (9 + x5.toNatClampNeg)) (fun q14 => chk (kC (36 + x5.toNatClampNeg) = 3) (cr_let (x5 + 1) (fun v17 => f_X9_takePairsAndShips_28_2_3_L3 n q14 x2 x4 v17)))))))
set_option maxRecDepth 100000 in
set_option maxHeartbeats 4000000 in
theorem w_X9_takePairsAndShips_28_2_3_L3 (C : cr_C p l e R s m args below meth c sfC 97 base D cA cX9_takePairsAndShips 6 RX9) (hr : meth.sig.returnType = none) (hR : 2 ≤ R.frames ∧ 45 ≤ R.locals) {res : cr_S}  : ∀ (n : Nat) (σ : cr_S) (x2 : Int32) (x4 : Int32) (x5 : Int32), f_X9_takePairsAndShips_28_2_3_L3 n σ x2 x4 x5 = some res → cr_W p l e R s m args below meth c sfC 97 base D cA 6 (MQ below (cr_Qv sfC 97 base D cA res) args s 0 0 (cr_A 97 base)) σ 3 [(0, .ref (base + 28)), (1, .ref (base + 2)), (2, .int x2), (3, .ref (base + 3)), (4, .int x4), (5, .int x5)] [] := by
  intro n
  induction n with
  | zero =>
    intro σ x2 x4 x5 h
    cases h
  | succ n ih =>
    intro σ x2 x4 x5 h
    rw [f_X9_takePairsAndShips_28_2_3_L3] at h
    refine g_iload (pc' := 5) C dX9_takePairsAndShips_3 5 rfl rfl ?_
    refine g_iload_n (pc' := 6) C dX9_takePairsAndShips_5 2 rfl rfl ?_
    refine g_icmp_ge (pc' := 9) (tgt := 36) C dX9_takePairsAndShips_6 (by decide) rfl (fun hc => ?_) (fun hc => ?_)
    · rw [if_pos hc] at h
      exact g_sub C [0, 2, 3, 4] rfl (w_X9_takePairsAndShips_28_2_3_B36 C hr hR _ _ _ h)
    · rw [if_neg hc] at h
      refine g_iload (pc' := 11) C dX9_takePairsAndShips_9 5 rfl rfl ?_
      refine g_bipush (pc' := 13) (v := 6) C dX9_takePairsAndShips_11 (by decide) rfl ?_
      refine g_icmp_ge (pc' := 16) (tgt := 36) C dX9_takePairsAndShips_13 (by decide) rfl (fun hc => ?_) (fun hc => ?_)
      · rw [if_pos hc] at h
        exact g_sub C [0, 2, 3, 4] rfl (w_X9_takePairsAndShips_28_2_3_B36 C hr hR _ _ _ h)
      · rw [if_neg hc] at h
        refine g_aload_n (pc' := 17) C dX9_takePairsAndShips_16 0 rfl rfl ?_
        refine gg_X9_11 (pc' := 20) (o := 28) (r := 29) C rfl rfl dX9_takePairsAndShips_17 rfl ?_
        refine g_iload (pc' := 22) C dX9_takePairsAndShips_20 5 rfl rfl ?_
        obtain ⟨h12, h⟩ := chk_some h
        refine g_aald (pc' := 23) C (o := 29) (by decide) rfl (cn := "ClashRocks$Pair") rfl (inb_d h12) dX9_takePairsAndShips_22 rfl ?_
        refine g_aload_n (pc' := 24) C dX9_takePairsAndShips_23 1 rfl rfl ?_
        refine g_iload (pc' := 26) C dX9_takePairsAndShips_24 5 rfl rfl ?_
        obtain ⟨h13, h⟩ := chk_some h
        refine g_aald (pc' := 27) C (o := 2) (by decide) rfl (cn := "ClashRocks$Pair") rfl (inb_d h13) dX9_takePairsAndShips_26 rfl ?_
        obtain ⟨q14, h15, h⟩ := bind_some h
        obtain ⟨h16, h⟩ := chk_some h
        refine g_callVv (pc' := 30) (res := q14) C [.ref (base + (9 + x5.toNatClampNeg))] cY_X3_take rfl (o := 36 + x5.toNatClampNeg) (kC_lt h16 (by decide)) (sfC_3 h16) mv_X3_take mm_X9_77 ⟨Nat.le_trans (by decide) hR.1, Nat.le_trans (by decide) hR.2⟩ rfl (Nat.le_of_ble_eq_true rfl) rfl dX9_takePairsAndShips_27 (c_X3_take l base D cA σ (36 + x5.toNatClampNeg) (9 + x5.toNatClampNeg) q14 h15) rfl ?_
        obtain ⟨v17, e18, h⟩ := let_some h
        refine g_iinc (pc' := 33) (v := v17) (lv' := [(5, .int v17), (0, .ref (base + 28)), (1, .ref (base + 2)), (2, .int x2), (3, .ref (base + 3)), (4, .int x4)]) C dX9_takePairsAndShips_30 5 rfl (by rw [e18]; rfl) (by decide) rfl rfl ?_
        refine g_goto (tgt := 3) C dX9_takePairsAndShips_33 (by decide) ?_
        exact g_sub C [1, 2, 3, 4, 5, 0] rfl (ih _ _ _ _ h)
noncomputable def f_X9_takePairsAndShips_28_2_3 (σ : cr_S) (a2 : Int32) (a4 : Int32) : Option (cr_S) :=
  f_X9_takePairsAndShips_28_2_3_L3 cr_fuel σ a2 a4 0
set_option maxRecDepth 100000 in
set_option maxHeartbeats 4000000 in
theorem w_X9_takePairsAndShips_28_2_3 (C : cr_C p l e R s m args below meth c sfC 97 base D cA cX9_takePairsAndShips 6 RX9) (hr : meth.sig.returnType = none) (hR : 2 ≤ R.frames ∧ 45 ≤ R.locals) {res : cr_S} (σ : cr_S) (a2 : Int32) (a4 : Int32) (h : f_X9_takePairsAndShips_28_2_3 σ a2 a4 = some res) : cr_W p l e R s m args below meth c sfC 97 base D cA 6 (MQ below (cr_Qv sfC 97 base D cA res) args s 0 0 (cr_A 97 base)) σ 0 [(0, .ref (base + 28)), (1, .ref (base + 2)), (2, .int a2), (3, .ref (base + 3)), (4, .int a4)] [] := by
  unfold f_X9_takePairsAndShips_28_2_3 at h
  refine g_iconst (pc' := 1) (v := 0) C dX9_takePairsAndShips_0 (by decide) rfl ?_
  refine g_istore (pc' := 3) (lv' := [(5, .int 0), (0, .ref (base + 28)), (1, .ref (base + 2)), (2, .int a2), (3, .ref (base + 3)), (4, .int a4)]) C dX9_takePairsAndShips_1 (by decide) rfl rfl ?_
  exact g_sub C [1, 2, 3, 4, 5, 0] rfl (w_X9_takePairsAndShips_28_2_3_L3 C hr hR _ _ _ _ _ h)
theorem c_X9_takePairsAndShips_28_2_3 (l : Launch) (base : Nat) (D : va_G) (cA : Nat → ClassId) (σ : cr_S) (a2 : Int32) (a4 : Int32) (res : cr_S) (h : f_X9_takePairsAndShips_28_2_3 σ a2 a4 = some res) : cr_M l yX9_takePairsAndShips cX9_takePairsAndShips 6 none 2 45 sfC 97 base D cA [.ref (base + 28), .ref (base + 2), .int a2, .ref (base + 3), .int a4] σ (cr_Qv sfC 97 base D cA res) := by
  refine cr_enter [.ref (base + 28), .ref (base + 2), .int a2, .ref (base + 3), .int a4] [(0, .ref (base + 28)), (1, .ref (base + 2)), (2, .int a2), (3, .ref (base + 3)), (4, .int a4)] (by decide) (Nat.le_of_ble_eq_true rfl) rfl ?_
  intro p e R s m below meth c C hr hR
  exact w_X9_takePairsAndShips_28_2_3 C hr hR σ a2 a4 h
end

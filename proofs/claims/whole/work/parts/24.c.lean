section
variable {p : Program} {l : Launch} {e : Env} {R : Room} {s : State} {m : MethodId} {args : Array Value} {below : List Frame} {meth : Method} {c : Code} {base : Nat} {D : va_G} {cA : Nat → ClassId}
noncomputable def f_X3_firstShut_L3  : Nat → cr_S → Nat → Int32 → Int32 → Int32 → Option (cr_S × Int32)
  | 0, _, _, _, _, _ => none
  | n + 1, σ, x0, x2, x3, x4 =>
    (if x2 ≤ x4 then some (σ, x2) else Option.bind (f_X3_isOpenAt σ x0 x4 x3) (fun q1 => chk (kC x0 = 3) ((if q1.2 = 0 then some (q1.1, x4) else cr_let (x4 + 1) (fun v4 => f_X3_firstShut_L3 n q1.1 x0 x2 x3 v4)))))
set_option maxRecDepth 100000 in
set_option maxHeartbeats 4000000 in
theorem w_X3_firstShut_L3 (C : cr_C p l e R s m args below meth c sfC 97 base D cA cX3_firstShut 5 RX3) (hr : meth.sig.returnType = some .int) (hR : 2 ≤ R.frames ∧ 44 ≤ R.locals) {res : cr_S × Int32}  : ∀ (n : Nat) (σ : cr_S) (x0 : Nat) (x2 : Int32) (x3 : Int32) (x4 : Int32), f_X3_firstShut_L3 n σ x0 x2 x3 x4 = some res → cr_W p l e R s m args below meth c sfC 97 base D cA 5 (MQ below (cr_Qi sfC 97 base D cA res) args s 0 0 (cr_A 97 base)) σ 3 [(0, .ref (base + x0)), (2, .int x2), (3, .int x3), (4, .int x4)] [] := by
  intro n
  induction n with
  | zero =>
    intro σ x0 x2 x3 x4 h
    cases h
  | succ n ih =>
    intro σ x0 x2 x3 x4 h
    rw [f_X3_firstShut_L3] at h
    refine g_iload (pc' := 5) C dX3_firstShut_3 3 rfl rfl ?_
    refine g_iload_n (pc' := 6) C dX3_firstShut_5 1 rfl rfl ?_
    refine g_icmp_ge (pc' := 9) (tgt := 28) C dX3_firstShut_6 (by decide) rfl (fun hc => ?_) (fun hc => ?_)
    · rw [if_pos hc] at h
      refine g_iload_n (pc' := 29) C dX3_firstShut_28 1 rfl rfl ?_
      exact g_iret C hr dX3_firstShut_29 h
    · rw [if_neg hc] at h
      refine g_aload_n (pc' := 10) C dX3_firstShut_9 0 rfl rfl ?_
      refine g_iload (pc' := 12) C dX3_firstShut_10 3 rfl rfl ?_
      refine g_iload_n (pc' := 13) C dX3_firstShut_12 2 rfl rfl ?_
      obtain ⟨q1, h2, h⟩ := bind_some h
      obtain ⟨h3, h⟩ := chk_some h
      refine g_callVi (pc' := 16) (res := q1) C [.int x4, .int x3] cY_X3_isOpenAt rfl (o := x0) (kC_lt h3 (by decide)) (sfC_3 h3) mv_X3_isOpenAt mm_X3_31 ⟨Nat.le_trans (by decide) hR.1, Nat.le_trans (by decide) hR.2⟩ rfl (Nat.le_of_ble_eq_true rfl) rfl dX3_firstShut_13 (c_X3_isOpenAt l base D cA σ x0 x4 x3 q1 h2) rfl ?_
      refine g_if_ne (pc' := 19) (tgt := 22) C dX3_firstShut_16 (by decide) rfl (fun hc => ?_) (fun hc => ?_)
      · rw [if_neg hc] at h
        obtain ⟨v4, e5, h⟩ := let_some h
        refine g_iinc (pc' := 25) (v := v4) (lv' := [(4, .int v4), (0, .ref (base + x0)), (2, .int x2), (3, .int x3)]) C dX3_firstShut_22 3 rfl (by rw [e5]; rfl) (by decide) rfl rfl ?_
        refine g_goto (tgt := 3) C dX3_firstShut_25 (by decide) ?_
        exact g_sub C [1, 2, 3, 0] rfl (ih _ _ _ _ _ h)
      · rw [if_pos hc] at h
        refine g_iload (pc' := 21) C dX3_firstShut_19 3 rfl rfl ?_
        exact g_iret C hr dX3_firstShut_21 h
noncomputable def f_X3_firstShut (σ : cr_S) (o0 : Nat) (a1 : Int32) (a2 : Int32) (a3 : Int32) : Option (cr_S × Int32) :=
  f_X3_firstShut_L3 cr_fuel σ o0 a2 a3 a1
set_option maxRecDepth 100000 in
set_option maxHeartbeats 4000000 in
theorem w_X3_firstShut (C : cr_C p l e R s m args below meth c sfC 97 base D cA cX3_firstShut 5 RX3) (hr : meth.sig.returnType = some .int) (hR : 2 ≤ R.frames ∧ 44 ≤ R.locals) {res : cr_S × Int32} (σ : cr_S) (o0 : Nat) (a1 : Int32) (a2 : Int32) (a3 : Int32) (h : f_X3_firstShut σ o0 a1 a2 a3 = some res) : cr_W p l e R s m args below meth c sfC 97 base D cA 5 (MQ below (cr_Qi sfC 97 base D cA res) args s 0 0 (cr_A 97 base)) σ 0 [(0, .ref (base + o0)), (1, .int a1), (2, .int a2), (3, .int a3)] [] := by
  unfold f_X3_firstShut at h
  refine g_iload_n (pc' := 1) C dX3_firstShut_0 1 rfl rfl ?_
  refine g_istore (pc' := 3) (lv' := [(4, .int a1), (0, .ref (base + o0)), (1, .int a1), (2, .int a2), (3, .int a3)]) C dX3_firstShut_1 (by decide) rfl rfl ?_
  exact g_sub C [1, 3, 4, 0] rfl (w_X3_firstShut_L3 C hr hR _ _ _ _ _ _ h)
theorem c_X3_firstShut (l : Launch) (base : Nat) (D : va_G) (cA : Nat → ClassId) (σ : cr_S) (o0 : Nat) (a1 : Int32) (a2 : Int32) (a3 : Int32) (res : cr_S × Int32) (h : f_X3_firstShut σ o0 a1 a2 a3 = some res) : cr_M l yX3_firstShut cX3_firstShut 5 (some .int) 2 44 sfC 97 base D cA [.ref (base + o0), .int a1, .int a2, .int a3] σ (cr_Qi sfC 97 base D cA res) := by
  refine cr_enter [.ref (base + o0), .int a1, .int a2, .int a3] [(0, .ref (base + o0)), (1, .int a1), (2, .int a2), (3, .int a3)] (by decide) (Nat.le_of_ble_eq_true rfl) rfl ?_
  intro p e R s m below meth c C hr hR
  exact w_X3_firstShut C hr hR σ o0 a1 a2 a3 h
noncomputable def f_X0_goBetween_70 (σ : cr_S) (o1 : Nat) (o2 : Nat) (a3 : Int32) (a4 : Int32) : Option (cr_S × Int32) :=
  chk (kC o1 = 3) (Option.bind (f_X10_secondsFor σ (rF σ o1 1) a4) (fun q2 => cr_let (a3 + q2.2) (fun v4 => Option.bind (f_X6_span q2.1 o2) (fun q6 => chk (kC o2 = 6) (Option.bind (f_X10_secondsFor q6.1 q6.2 a4) (fun q9 => cr_let (v4 + q9.2) (fun v11 => chk (kC o1 = 3) (Option.bind (f_X3_firstShut q9.1 o1 v4 v11 (rF q9.1 o1 4)) (fun q14 => chk (kC o1 = 3) (cr_let q14.2 (fun v17 => (if (v11 - 1) ≤ v17 then cr_let (sF q14.1 70 5 v11) (fun s19 => some (s19, if v17 = v11 then 0 else 1)) else cr_let (sF q14.1 70 5 v17) (fun s21 => some (s21, 2))))))))))))))
set_option maxRecDepth 100000 in
set_option maxHeartbeats 4000000 in
theorem w_X0_goBetween_70 (C : cr_C p l e R s m args below meth c sfC 97 base D cA cX0_goBetween 8 RX0) (hr : meth.sig.returnType = some .int) (hR : 3 ≤ R.frames ∧ 68 ≤ R.locals) {res : cr_S × Int32} (σ : cr_S) (o1 : Nat) (o2 : Nat) (a3 : Int32) (a4 : Int32) (h : f_X0_goBetween_70 σ o1 o2 a3 a4 = some res) : cr_W p l e R s m args below meth c sfC 97 base D cA 8 (MQ below (cr_Qi sfC 97 base D cA res) args s 0 0 (cr_A 97 base)) σ 0 [(0, .ref (base + 70)), (1, .ref (base + o1)), (2, .ref (base + o2)), (3, .int a3), (4, .int a4)] [] := by
  unfold f_X0_goBetween_70 at h
  refine g_iload_n (pc' := 1) C dX0_goBetween_0 3 rfl rfl ?_
  refine g_aload_n (pc' := 2) C dX0_goBetween_1 1 rfl rfl ?_
  obtain ⟨h1, h⟩ := chk_some h
  refine gg_X0_25 (pc' := 5) (o := o1) C h1 dX0_goBetween_2 rfl ?_
  refine g_iload (pc' := 7) C dX0_goBetween_5 4 rfl rfl ?_
  obtain ⟨q2, h3, h⟩ := bind_some h
  refine g_callNi (pc' := 10) (res := q2) C [.int (rF σ o1 1), .int a4] cY_X10_secondsFor mv_X10_secondsFor mn_X0_30 ⟨Nat.le_trans (by decide) hR.1, Nat.le_trans (by decide) hR.2⟩ rfl (Nat.le_of_ble_eq_true rfl) rfl dX0_goBetween_7 (c_X10_secondsFor l base D cA σ (rF σ o1 1) a4 q2 h3) rfl ?_
  refine g_iadd (pc' := 11) C dX0_goBetween_10 rfl ?_
  obtain ⟨v4, e5, h⟩ := let_some h
  refine g_nameI e5 ?_
  refine g_istore (pc' := 13) (lv' := [(5, .int v4), (0, .ref (base + 70)), (1, .ref (base + o1)), (2, .ref (base + o2)), (3, .int a3), (4, .int a4)]) C dX0_goBetween_11 (by decide) rfl rfl ?_
  refine g_iload (pc' := 15) C dX0_goBetween_13 0 rfl rfl ?_
  refine g_aload_n (pc' := 16) C dX0_goBetween_15 3 rfl rfl ?_
  obtain ⟨q6, h7, h⟩ := bind_some h
  obtain ⟨h8, h⟩ := chk_some h
  refine g_callVi (pc' := 19) (res := q6) C [] cY_X6_span rfl (o := o2) (kC_lt h8 (by decide)) (sfC_6 h8) mv_X6_span mm_X0_34 ⟨Nat.le_trans (by decide) hR.1, Nat.le_trans (by decide) hR.2⟩ rfl (Nat.le_of_ble_eq_true rfl) rfl dX0_goBetween_16 (c_X6_span l base D cA q2.1 o2 q6 h7) rfl ?_
  refine g_iload (pc' := 21) C dX0_goBetween_19 5 rfl rfl ?_
  obtain ⟨q9, h10, h⟩ := bind_some h
  refine g_callNi (pc' := 24) (res := q9) C [.int q6.2, .int a4] cY_X10_secondsFor mv_X10_secondsFor mn_X0_30 ⟨Nat.le_trans (by decide) hR.1, Nat.le_trans (by decide) hR.2⟩ rfl (Nat.le_of_ble_eq_true rfl) rfl dX0_goBetween_21 (c_X10_secondsFor l base D cA q6.1 q6.2 a4 q9 h10) rfl ?_
  refine g_iadd (pc' := 25) C dX0_goBetween_24 rfl ?_
  obtain ⟨v11, e12, h⟩ := let_some h
  refine g_nameI e12 ?_
  refine g_istore (pc' := 27) (lv' := [(6, .int v11), (5, .int v4), (0, .ref (base + 70)), (1, .ref (base + o1)), (2, .ref (base + o2)), (3, .int a3), (4, .int a4)]) C dX0_goBetween_25 (by decide) rfl rfl ?_
  refine g_aload_n (pc' := 28) C dX0_goBetween_27 3 rfl rfl ?_
  refine g_iload (pc' := 30) C dX0_goBetween_28 1 rfl rfl ?_
  refine g_iload (pc' := 32) C dX0_goBetween_30 0 rfl rfl ?_
  refine g_aload_n (pc' := 33) C dX0_goBetween_32 3 rfl rfl ?_
  obtain ⟨h13, h⟩ := chk_some h
  refine gg_X0_40 (pc' := 36) (o := o1) C h13 dX0_goBetween_33 rfl ?_
  obtain ⟨q14, h15, h⟩ := bind_some h
  obtain ⟨h16, h⟩ := chk_some h
  refine g_callVi (pc' := 39) (res := q14) C [.int v4, .int v11, .int (rF q9.1 o1 4)] cY_X3_firstShut rfl (o := o1) (kC_lt h16 (by decide)) (sfC_3 h16) mv_X3_firstShut mm_X0_43 ⟨Nat.le_trans (by decide) hR.1, Nat.le_trans (by decide) hR.2⟩ rfl (Nat.le_of_ble_eq_true rfl) rfl dX0_goBetween_36 (c_X3_firstShut l base D cA q9.1 o1 v4 v11 (rF q9.1 o1 4) q14 h15) rfl ?_
  obtain ⟨v17, e18, h⟩ := let_some h
  refine g_nameI e18 ?_
  refine g_istore (pc' := 41) (lv' := [(7, .int v17), (6, .int v11), (5, .int v4), (0, .ref (base + 70)), (1, .ref (base + o1)), (2, .ref (base + o2)), (3, .int a3), (4, .int a4)]) C dX0_goBetween_39 (by decide) rfl rfl ?_
  refine g_iload (pc' := 43) C dX0_goBetween_41 0 rfl rfl ?_
  refine g_iload (pc' := 45) C dX0_goBetween_43 1 rfl rfl ?_
  refine g_iconst (pc' := 46) (v := 1) C dX0_goBetween_45 (by decide) rfl ?_
  refine g_isub (pc' := 47) C dX0_goBetween_46 rfl ?_
  refine g_icmp_ge (pc' := 50) (tgt := 58) C dX0_goBetween_47 (by decide) rfl (fun hc => ?_) (fun hc => ?_)
  · rw [if_pos hc] at h
    refine g_aload_n (pc' := 59) C dX0_goBetween_58 3 rfl rfl ?_
    refine g_iload (pc' := 61) C dX0_goBetween_59 1 rfl rfl ?_
    obtain ⟨s19, e20, h⟩ := let_some h
    refine gp_X0_47 (pc' := 64) (o := 70) C rfl dX0_goBetween_61 rfl e20 ?_
    refine g_iload (pc' := 66) C dX0_goBetween_64 0 rfl rfl ?_
    refine g_iload (pc' := 68) C dX0_goBetween_66 1 rfl rfl ?_
    refine g_iteI (σ := s19) (pj := 76) (lv := [(7, .int v17), (6, .int v11), (5, .int v4), (0, .ref (base + 70)), (1, .ref (base + o1)), (2, .ref (base + o2)), (3, .int a3), (4, .int a4)]) (st := []) (cd := v17 = v11) (a := 0) (b := 1) C ?_ (fun kt kf => ?_)
    · exact g_iret C hr dX0_goBetween_76 h
    · refine g_icmp_ne (pc' := 71) (tgt := 75) C dX0_goBetween_68 (by decide) rfl (fun hc => ?_) (fun hc => ?_)
      · refine g_iconst (pc' := 76) (v := 1) C dX0_goBetween_75 (by decide) rfl ?_
        exact kf hc
      · refine g_iconst (pc' := 72) (v := 0) C dX0_goBetween_71 (by decide) rfl ?_
        refine g_goto (tgt := 76) C dX0_goBetween_72 (by decide) ?_
        exact kt hc
  · rw [if_neg hc] at h
    refine g_aload_n (pc' := 51) C dX0_goBetween_50 3 rfl rfl ?_
    refine g_iload (pc' := 53) C dX0_goBetween_51 0 rfl rfl ?_
    obtain ⟨s21, e22, h⟩ := let_some h
    refine gp_X0_47 (pc' := 56) (o := 70) C rfl dX0_goBetween_53 rfl e22 ?_
    refine g_iconst (pc' := 57) (v := 2) C dX0_goBetween_56 (by decide) rfl ?_
    exact g_iret C hr dX0_goBetween_57 h
theorem c_X0_goBetween_70 (l : Launch) (base : Nat) (D : va_G) (cA : Nat → ClassId) (σ : cr_S) (o1 : Nat) (o2 : Nat) (a3 : Int32) (a4 : Int32) (res : cr_S × Int32) (h : f_X0_goBetween_70 σ o1 o2 a3 a4 = some res) : cr_M l yX0_goBetween cX0_goBetween 8 (some .int) 3 68 sfC 97 base D cA [.ref (base + 70), .ref (base + o1), .ref (base + o2), .int a3, .int a4] σ (cr_Qi sfC 97 base D cA res) := by
  refine cr_enter [.ref (base + 70), .ref (base + o1), .ref (base + o2), .int a3, .int a4] [(0, .ref (base + 70)), (1, .ref (base + o1)), (2, .ref (base + o2)), (3, .int a3), (4, .int a4)] (by decide) (Nat.le_of_ble_eq_true rfl) rfl ?_
  intro p e R s m below meth c C hr hR
  exact w_X0_goBetween_70 C hr hR σ o1 o2 a3 a4 h
noncomputable def f_X10_pass_B164  (σ : cr_S) (x4 : Int32) (t0 : Int32) (t1 : Int32) : Option (cr_S × Int32) :=
  cr_let (sF σ 4 3 (t1 + t0)) (fun s25 => some (s25, x4))
set_option maxRecDepth 100000 in
set_option maxHeartbeats 4000000 in
theorem w_X10_pass_B164 (C : cr_C p l e R s m args below meth c sfC 97 base D cA cX10_pass 5 RX10) (hr : meth.sig.returnType = some .int) (hR : 4 ≤ R.frames ∧ 95 ≤ R.locals) {res : cr_S × Int32}  (σ : cr_S) (x4 : Int32) (t0 : Int32) (t1 : Int32) (h : f_X10_pass_B164 σ x4 t0 t1 = some res) : cr_W p l e R s m args below meth c sfC 97 base D cA 5 (MQ below (cr_Qi sfC 97 base D cA res) args s 0 0 (cr_A 97 base)) σ 164 [(4, .int x4)] [.int t0, .int t1, .ref (base + 4)] := by
  unfold f_X10_pass_B164 at h
  refine g_iadd (pc' := 165) C dX10_pass_164 rfl ?_
  obtain ⟨s25, e26, h⟩ := let_some h
  refine gp_X10_164 (pc' := 168) (o := 4) C rfl dX10_pass_165 rfl e26 ?_
  refine g_iload (pc' := 170) C dX10_pass_168 0 rfl rfl ?_
  exact g_iret C hr dX10_pass_170 h
noncomputable def f_X10_pass (σ : cr_S) (a1 : Int32) : Option (cr_S × Int32) :=
  Option.bind (f_X10_isShip σ (rF σ 4 1)) (fun q1 => (if q1.2 = 0 then some (q1.1, (-2)) else Option.bind (f_X10_isPair q1.1 (rF q1.1 4 2)) (fun q3 => (if q3.2 = 0 then some (q3.1, (-2)) else chk (inb (rF q3.1 4 1) 5) (Option.bind (f_X6_low q3.1 (15 + (rF q3.1 4 1).toNatClampNeg)) (fun q6 => chk (kC (15 + (rF q3.1 4 1).toNatClampNeg) = 6) (Option.bind (f_X6_high q6.1 (15 + (rF q3.1 4 1).toNatClampNeg)) (fun q9 => chk (kC (15 + (rF q3.1 4 1).toNatClampNeg) = 6) (Option.bind (f_X10_isWithin q9.1 a1 q6.2 q9.2) (fun q12 => (if q12.2 = 0 then some (q12.1, (-1)) else chk (inb (rF q12.1 4 2) 6) (Option.bind (f_X0_goBetween_70 q12.1 (9 + (rF q12.1 4 2).toNatClampNeg) (15 + (rF q3.1 4 1).toNatClampNeg) (rF q12.1 4 0) a1) (fun q15 => cr_let q15.2 (fun v17 => (if (rF q15.1 70 5) ≤ 9999 then Option.bind (f_X9_remember_1 q15.1) (fun q19 => cr_let (sF q19 4 0 (rF q19 70 5)) (fun s21 => (if v17 = 2 then cr_let (sF s21 4 1 (-1)) (fun s27 => some (s27, v17)) else cr_let (sF s21 4 2 ((rF s21 4 2) + 1)) (fun s23 => f_X10_pass_B164 s23 v17 (if v17 = 1 then 1 else 0) (rF s23 4 3))))) else some (q15.1, (-3)))))))))))))))))
set_option maxRecDepth 100000 in
set_option maxHeartbeats 4000000 in
theorem w_X10_pass (C : cr_C p l e R s m args below meth c sfC 97 base D cA cX10_pass 5 RX10) (hr : meth.sig.returnType = some .int) (hR : 4 ≤ R.frames ∧ 95 ≤ R.locals) {res : cr_S × Int32} (σ : cr_S) (a1 : Int32) (h : f_X10_pass σ a1 = some res) : cr_W p l e R s m args below meth c sfC 97 base D cA 5 (MQ below (cr_Qi sfC 97 base D cA res) args s 0 0 (cr_A 97 base)) σ 0 [(0, .ref (base + 0)), (1, .int a1)] [] := by
  unfold f_X10_pass at h
  refine g_aload_n (pc' := 1) C dX10_pass_0 0 rfl rfl ?_
  refine gg_X10_12 (pc' := 4) (o := 0) (r := 1) C rfl rfl dX10_pass_1 rfl ?_
  refine gg_X10_149 (pc' := 7) (o := 1) (r := 4) C rfl rfl dX10_pass_4 rfl ?_
  refine g_astore_n (pc' := 8) (lv' := [(2, .ref (base + 4)), (0, .ref (base + 0)), (1, .int a1)]) C dX10_pass_7 rfl (by decide) rfl rfl ?_
  refine g_aload_n (pc' := 9) C dX10_pass_8 1 rfl rfl ?_
  refine g_aload_n (pc' := 10) C dX10_pass_9 0 rfl rfl ?_
  refine gg_X10_158 (pc' := 13) (o := 4) C rfl dX10_pass_10 rfl ?_
  obtain ⟨q1, h2, h⟩ := bind_some h
  refine g_callVi (pc' := 16) (res := q1) C [.int (rF σ 4 1)] cY_X10_isShip rfl (o := 0) (by decide) rfl mv_X10_isShip mm_X10_103 ⟨Nat.le_trans (by decide) hR.1, Nat.le_trans (by decide) hR.2⟩ rfl (Nat.le_of_ble_eq_true rfl) rfl dX10_pass_13 (c_X10_isShip l base D cA σ (rF σ 4 1) q1 h2) rfl ?_
  refine g_if_eq (pc' := 19) (tgt := 30) C dX10_pass_16 (by decide) rfl (fun hc => ?_) (fun hc => ?_)
  · rw [if_pos hc] at h
    refine g_bipush (pc' := 32) (v := (-2)) C dX10_pass_30 (by decide) rfl ?_
    exact g_iret C hr dX10_pass_32 h
  · rw [if_neg hc] at h
    refine g_aload_n (pc' := 20) C dX10_pass_19 1 rfl rfl ?_
    refine g_aload_n (pc' := 21) C dX10_pass_20 0 rfl rfl ?_
    refine gg_X10_161 (pc' := 24) (o := 4) C rfl dX10_pass_21 rfl ?_
    obtain ⟨q3, h4, h⟩ := bind_some h
    refine g_callVi (pc' := 27) (res := q3) C [.int (rF q1.1 4 2)] cY_X10_isPair rfl (o := 0) (by decide) rfl mv_X10_isPair mm_X10_72 ⟨Nat.le_trans (by decide) hR.1, Nat.le_trans (by decide) hR.2⟩ rfl (Nat.le_of_ble_eq_true rfl) rfl dX10_pass_24 (c_X10_isPair l base D cA q1.1 (rF q1.1 4 2) q3 h4) rfl ?_
    refine g_if_ne (pc' := 30) (tgt := 33) C dX10_pass_27 (by decide) rfl (fun hc => ?_) (fun hc => ?_)
    · rw [if_neg hc] at h
      refine g_aload_n (pc' := 34) C dX10_pass_33 1 rfl rfl ?_
      refine gg_X10_12 (pc' := 37) (o := 0) (r := 1) C rfl rfl dX10_pass_34 rfl ?_
      refine gg_X10_85 (pc' := 40) (o := 1) (r := 3) C rfl rfl dX10_pass_37 rfl ?_
      refine g_aload_n (pc' := 41) C dX10_pass_40 0 rfl rfl ?_
      refine gg_X10_158 (pc' := 44) (o := 4) C rfl dX10_pass_41 rfl ?_
      obtain ⟨h5, h⟩ := chk_some h
      refine g_aald (pc' := 45) C (o := 3) (by decide) rfl (cn := "ClashRocks$Ship") rfl (inb_d h5) dX10_pass_44 rfl ?_
      refine g_astore_n (pc' := 46) (lv' := [(3, .ref (base + (15 + (rF q3.1 4 1).toNatClampNeg))), (2, .ref (base + 4)), (0, .ref (base + 0)), (1, .int a1)]) C dX10_pass_45 rfl (by decide) rfl rfl ?_
      refine g_iload_n (pc' := 47) C dX10_pass_46 3 rfl rfl ?_
      refine g_aload_n (pc' := 48) C dX10_pass_47 0 rfl rfl ?_
      obtain ⟨q6, h7, h⟩ := bind_some h
      obtain ⟨h8, h⟩ := chk_some h
      refine g_callVi (pc' := 51) (res := q6) C [] cY_X6_low rfl (o := 15 + (rF q3.1 4 1).toNatClampNeg) (kC_lt h8 (by decide)) (sfC_6 h8) mv_X6_low mm_X10_113 ⟨Nat.le_trans (by decide) hR.1, Nat.le_trans (by decide) hR.2⟩ rfl (Nat.le_of_ble_eq_true rfl) rfl dX10_pass_48 (c_X6_low l base D cA q3.1 (15 + (rF q3.1 4 1).toNatClampNeg) q6 h7) rfl ?_
      refine g_aload_n (pc' := 52) C dX10_pass_51 0 rfl rfl ?_
      obtain ⟨q9, h10, h⟩ := bind_some h
      obtain ⟨h11, h⟩ := chk_some h
      refine g_callVi (pc' := 55) (res := q9) C [] cY_X6_high rfl (o := 15 + (rF q3.1 4 1).toNatClampNeg) (kC_lt h11 (by decide)) (sfC_6 h11) mv_X6_high mm_X10_117 ⟨Nat.le_trans (by decide) hR.1, Nat.le_trans (by decide) hR.2⟩ rfl (Nat.le_of_ble_eq_true rfl) rfl dX10_pass_52 (c_X6_high l base D cA q6.1 (15 + (rF q3.1 4 1).toNatClampNeg) q9 h10) rfl ?_
      obtain ⟨q12, h13, h⟩ := bind_some h
      refine g_callSi (pc' := 58) (res := q12) C [.int a1, .int q6.2, .int q9.2] cY_X10_isWithin mv_X10_isWithin mm_X10_54 ⟨Nat.le_trans (by decide) hR.1, Nat.le_trans (by decide) hR.2⟩ rfl (Nat.le_of_ble_eq_true rfl) rfl dX10_pass_55 (c_X10_isWithin l base D cA q9.1 a1 q6.2 q9.2 q12 h13) rfl ?_
      refine g_if_ne (pc' := 61) (tgt := 63) C dX10_pass_58 (by decide) rfl (fun hc => ?_) (fun hc => ?_)
      · rw [if_neg hc] at h
        refine g_aload_n (pc' := 64) C dX10_pass_63 2 rfl rfl ?_
        refine gg_X10_29 (pc' := 67) (o := 0) (r := 70) C rfl rfl dX10_pass_64 rfl ?_
        refine g_aload_n (pc' := 68) C dX10_pass_67 2 rfl rfl ?_
        refine gg_X10_12 (pc' := 71) (o := 0) (r := 1) C rfl rfl dX10_pass_68 rfl ?_
        refine gg_X10_62 (pc' := 74) (o := 1) (r := 2) C rfl rfl dX10_pass_71 rfl ?_
        refine g_aload_n (pc' := 75) C dX10_pass_74 1 rfl rfl ?_
        refine gg_X10_161 (pc' := 78) (o := 4) C rfl dX10_pass_75 rfl ?_
        obtain ⟨h14, h⟩ := chk_some h
        refine g_aald (pc' := 79) C (o := 2) (by decide) rfl (cn := "ClashRocks$Pair") rfl (inb_d h14) dX10_pass_78 rfl ?_
        refine g_aload_n (pc' := 80) C dX10_pass_79 0 rfl rfl ?_
        refine g_aload_n (pc' := 81) C dX10_pass_80 1 rfl rfl ?_
        refine gg_X10_153 (pc' := 84) (o := 4) C rfl dX10_pass_81 rfl ?_
        refine g_iload_n (pc' := 85) C dX10_pass_84 3 rfl rfl ?_
        obtain ⟨q15, h16, h⟩ := bind_some h
        refine g_callVi (pc' := 88) (res := q15) C [.ref (base + (9 + (rF q12.1 4 2).toNatClampNeg)), .ref (base + (15 + (rF q3.1 4 1).toNatClampNeg)), .int (rF q12.1 4 0), .int a1] cY_X0_goBetween rfl (o := 70) (by decide) rfl mv_X0_goBetween mm_X10_184 ⟨Nat.le_trans (by decide) hR.1, Nat.le_trans (by decide) hR.2⟩ rfl (Nat.le_of_ble_eq_true rfl) rfl dX10_pass_85 (c_X0_goBetween_70 l base D cA q12.1 (9 + (rF q12.1 4 2).toNatClampNeg) (15 + (rF q3.1 4 1).toNatClampNeg) (rF q12.1 4 0) a1 q15 h16) rfl ?_
        obtain ⟨v17, e18, h⟩ := let_some h
        refine g_nameI e18 ?_
        refine g_istore (pc' := 90) (lv' := [(4, .int v17), (3, .ref (base + (15 + (rF q3.1 4 1).toNatClampNeg))), (2, .ref (base + 4)), (0, .ref (base + 0)), (1, .int a1)]) C dX10_pass_88 (by decide) rfl rfl ?_
        refine g_aload_n (pc' := 91) C dX10_pass_90 3 rfl rfl ?_
        refine gg_X10_29 (pc' := 94) (o := 0) (r := 70) C rfl rfl dX10_pass_91 rfl ?_
        refine gg_X10_188 (pc' := 97) (o := 70) C rfl dX10_pass_94 rfl ?_
        refine g_sipush (pc' := 100) (v := 9999) C dX10_pass_97 (by decide) rfl ?_
        refine g_icmp_le (pc' := 103) (tgt := 106) C dX10_pass_100 (by decide) rfl (fun hc => ?_) (fun hc => ?_)
        · rw [if_pos hc] at h
          refine g_aload_n (pc' := 107) C dX10_pass_106 3 rfl rfl ?_
          refine gg_X10_12 (pc' := 110) (o := 0) (r := 1) C rfl rfl dX10_pass_107 rfl ?_
          obtain ⟨q19, h20, h⟩ := bind_some h
          refine g_callVv (pc' := 113) (res := q19) C [] cY_X9_remember rfl (o := 1) (by decide) rfl mv_X9_remember mm_X10_177 ⟨Nat.le_trans (by decide) hR.1, Nat.le_trans (by decide) hR.2⟩ rfl (Nat.le_of_ble_eq_true rfl) rfl dX10_pass_110 (c_X9_remember_1 l base D cA q15.1 q19 h20) rfl ?_
          refine g_aload_n (pc' := 114) C dX10_pass_113 2 rfl rfl ?_
          refine g_aload_n (pc' := 115) C dX10_pass_114 3 rfl rfl ?_
          refine gg_X10_29 (pc' := 118) (o := 0) (r := 70) C rfl rfl dX10_pass_115 rfl ?_
          refine gg_X10_188 (pc' := 121) (o := 70) C rfl dX10_pass_118 rfl ?_
          obtain ⟨s21, e22, h⟩ := let_some h
          refine gp_X10_153 (pc' := 124) (o := 4) C rfl dX10_pass_121 rfl e22 ?_
          refine g_iload (pc' := 126) C dX10_pass_124 0 rfl rfl ?_
          refine g_iconst (pc' := 127) (v := 2) C dX10_pass_126 (by decide) rfl ?_
          refine g_icmp_ne (pc' := 130) (tgt := 138) C dX10_pass_127 (by decide) rfl (fun hc => ?_) (fun hc => ?_)
          · rw [if_neg hc] at h
            refine g_aload_n (pc' := 139) C dX10_pass_138 2 rfl rfl ?_
            refine g_dup (pc' := 140) C dX10_pass_139 rfl rfl ?_
            refine gg_X10_161 (pc' := 143) (o := 4) C rfl dX10_pass_140 rfl ?_
            refine g_iconst (pc' := 144) (v := 1) C dX10_pass_143 (by decide) rfl ?_
            refine g_iadd (pc' := 145) C dX10_pass_144 rfl ?_
            obtain ⟨s23, e24, h⟩ := let_some h
            refine gp_X10_161 (pc' := 148) (o := 4) C rfl dX10_pass_145 rfl e24 ?_
            refine g_aload_n (pc' := 149) C dX10_pass_148 2 rfl rfl ?_
            refine g_dup (pc' := 150) C dX10_pass_149 rfl rfl ?_
            refine gg_X10_164 (pc' := 153) (o := 4) C rfl dX10_pass_150 rfl ?_
            refine g_iload (pc' := 155) C dX10_pass_153 0 rfl rfl ?_
            refine g_iconst (pc' := 156) (v := 1) C dX10_pass_155 (by decide) rfl ?_
            refine g_iteI (σ := s23) (pj := 164) (lv := [(4, .int v17), (3, .ref (base + (15 + (rF q3.1 4 1).toNatClampNeg))), (2, .ref (base + 4)), (0, .ref (base + 0)), (1, .int a1)]) (st := [.int (rF s23 4 3), .ref (base + 4)]) (cd := v17 = 1) (a := 1) (b := 0) C ?_ (fun kt kf => ?_)
            · exact g_sub C [0] rfl (w_X10_pass_B164 C hr hR _ _ _ _ h)
            · refine g_icmp_ne (pc' := 159) (tgt := 163) C dX10_pass_156 (by decide) rfl (fun hc => ?_) (fun hc => ?_)
              · refine g_iconst (pc' := 164) (v := 0) C dX10_pass_163 (by decide) rfl ?_
                exact kf hc
              · refine g_iconst (pc' := 160) (v := 1) C dX10_pass_159 (by decide) rfl ?_
                refine g_goto (tgt := 164) C dX10_pass_160 (by decide) ?_
                exact kt hc
          · rw [if_pos hc] at h
            refine g_aload_n (pc' := 131) C dX10_pass_130 2 rfl rfl ?_
            refine g_iconst (pc' := 132) (v := (-1)) C dX10_pass_131 (by decide) rfl ?_
            obtain ⟨s27, e28, h⟩ := let_some h
            refine gp_X10_158 (pc' := 135) (o := 4) C rfl dX10_pass_132 rfl e28 ?_
            refine g_goto (tgt := 168) C dX10_pass_135 (by decide) ?_
            refine g_iload (pc' := 170) C dX10_pass_168 0 rfl rfl ?_
            exact g_iret C hr dX10_pass_170 h
        · rw [if_neg hc] at h
          refine g_bipush (pc' := 105) (v := (-3)) C dX10_pass_103 (by decide) rfl ?_
          exact g_iret C hr dX10_pass_105 h
      · rw [if_pos hc] at h
        refine g_iconst (pc' := 62) (v := (-1)) C dX10_pass_61 (by decide) rfl ?_
        exact g_iret C hr dX10_pass_62 h
    · rw [if_pos hc] at h
      refine g_bipush (pc' := 32) (v := (-2)) C dX10_pass_30 (by decide) rfl ?_
      exact g_iret C hr dX10_pass_32 h
theorem c_X10_pass (l : Launch) (base : Nat) (D : va_G) (cA : Nat → ClassId) (σ : cr_S) (a1 : Int32) (res : cr_S × Int32) (h : f_X10_pass σ a1 = some res) : cr_M l yX10_pass cX10_pass 5 (some .int) 4 95 sfC 97 base D cA [.ref (base + 0), .int a1] σ (cr_Qi sfC 97 base D cA res) := by
  refine cr_enter [.ref (base + 0), .int a1] [(0, .ref (base + 0)), (1, .int a1)] (by decide) (Nat.le_of_ble_eq_true rfl) rfl ?_
  intro p e R s m below meth c C hr hR
  exact w_X10_pass C hr hR σ a1 h
noncomputable def f_X9_recall_1 (σ : cr_S) : Option (cr_S × Int32) :=
  (if 0 < (rF σ 1 7) then cr_let (sF σ 1 7 ((rF σ 1 7) - 1)) (fun s1 => chk (inb (rF s1 1 7) 8) (Option.bind (f_X8_take s1 4 (20 + (rF s1 1 7).toNatClampNeg)) (fun q4 => some (q4, 1)))) else some (σ, 0))
set_option maxRecDepth 100000 in
set_option maxHeartbeats 4000000 in
theorem w_X9_recall_1 (C : cr_C p l e R s m args below meth c sfC 97 base D cA cX9_recall 1 RX9) (hr : meth.sig.returnType = some .boolean) (hR : 1 ≤ R.frames ∧ 21 ≤ R.locals) {res : cr_S × Int32} (σ : cr_S) (h : f_X9_recall_1 σ = some res) : cr_W p l e R s m args below meth c sfC 97 base D cA 1 (MQ below (cr_Qi sfC 97 base D cA res) args s 0 0 (cr_A 97 base)) σ 0 [(0, .ref (base + 1))] [] := by
  unfold f_X9_recall_1 at h
  refine g_aload_n (pc' := 1) C dX9_recall_0 0 rfl rfl ?_
  refine gg_X9_61 (pc' := 4) (o := 1) C rfl dX9_recall_1 rfl ?_
  refine g_if_gt (pc' := 7) (tgt := 9) C dX9_recall_4 (by decide) rfl (fun hc => ?_) (fun hc => ?_)
  · rw [if_pos hc] at h
    refine g_aload_n (pc' := 10) C dX9_recall_9 0 rfl rfl ?_
    refine g_dup (pc' := 11) C dX9_recall_10 rfl rfl ?_
    refine gg_X9_61 (pc' := 14) (o := 1) C rfl dX9_recall_11 rfl ?_
    refine g_iconst (pc' := 15) (v := 1) C dX9_recall_14 (by decide) rfl ?_
    refine g_isub (pc' := 16) C dX9_recall_15 rfl ?_
    obtain ⟨s1, e2, h⟩ := let_some h
    refine gp_X9_61 (pc' := 19) (o := 1) C rfl dX9_recall_16 rfl e2 ?_
    refine g_aload_n (pc' := 20) C dX9_recall_19 0 rfl rfl ?_
    refine gg_X9_26 (pc' := 23) (o := 1) (r := 4) C rfl rfl dX9_recall_20 rfl ?_
    refine g_aload_n (pc' := 24) C dX9_recall_23 0 rfl rfl ?_
    refine gg_X9_30 (pc' := 27) (o := 1) (r := 5) C rfl rfl dX9_recall_24 rfl ?_
    refine g_aload_n (pc' := 28) C dX9_recall_27 0 rfl rfl ?_
    refine gg_X9_61 (pc' := 31) (o := 1) C rfl dX9_recall_28 rfl ?_
    obtain ⟨h3, h⟩ := chk_some h
    refine g_aald (pc' := 32) C (o := 5) (by decide) rfl (cn := "ClashRocks$Voyage") rfl (inb_d h3) dX9_recall_31 rfl ?_
    obtain ⟨q4, h5, h⟩ := bind_some h
    refine g_callVv (pc' := 35) (res := q4) C [.ref (base + (20 + (rF s1 1 7).toNatClampNeg))] cY_X8_take rfl (o := 4) (by decide) rfl mv_X8_take mm_X9_57 ⟨Nat.le_trans (by decide) hR.1, Nat.le_trans (by decide) hR.2⟩ rfl (Nat.le_of_ble_eq_true rfl) rfl dX9_recall_32 (c_X8_take l base D cA s1 4 (20 + (rF s1 1 7).toNatClampNeg) q4 h5) rfl ?_
    refine g_iconst (pc' := 36) (v := 1) C dX9_recall_35 (by decide) rfl ?_
    exact g_zret C hr rfl dX9_recall_36 h
  · rw [if_neg hc] at h
    refine g_iconst (pc' := 8) (v := 0) C dX9_recall_7 (by decide) rfl ?_
    exact g_zret C hr rfl dX9_recall_8 h
theorem c_X9_recall_1 (l : Launch) (base : Nat) (D : va_G) (cA : Nat → ClassId) (σ : cr_S) (res : cr_S × Int32) (h : f_X9_recall_1 σ = some res) : cr_M l yX9_recall cX9_recall 1 (some .boolean) 1 21 sfC 97 base D cA [.ref (base + 1)] σ (cr_Qi sfC 97 base D cA res) := by
  refine cr_enter [.ref (base + 1)] [(0, .ref (base + 1))] (by decide) (Nat.le_of_ble_eq_true rfl) rfl ?_
  intro p e R s m below meth c C hr hR
  exact w_X9_recall_1 C hr hR σ h
noncomputable def f_X10_undo (σ : cr_S) : Option (cr_S × Int32) :=
  Option.bind (f_X9_recall_1 σ) (fun q1 => some (q1.1, if q1.2 = 0 then (-4) else rF q1.1 1 7))
set_option maxRecDepth 100000 in
set_option maxHeartbeats 4000000 in
theorem w_X10_undo (C : cr_C p l e R s m args below meth c sfC 97 base D cA cX10_undo 1 RX10) (hr : meth.sig.returnType = some .int) (hR : 2 ≤ R.frames ∧ 41 ≤ R.locals) {res : cr_S × Int32} (σ : cr_S) (h : f_X10_undo σ = some res) : cr_W p l e R s m args below meth c sfC 97 base D cA 1 (MQ below (cr_Qi sfC 97 base D cA res) args s 0 0 (cr_A 97 base)) σ 0 [(0, .ref (base + 0))] [] := by
  unfold f_X10_undo at h
  refine g_aload_n (pc' := 1) C dX10_undo_0 0 rfl rfl ?_
  refine gg_X10_12 (pc' := 4) (o := 0) (r := 1) C rfl rfl dX10_undo_1 rfl ?_
  obtain ⟨q1, h2, h⟩ := bind_some h
  refine g_callVi (pc' := 7) (res := q1) C [] cY_X9_recall rfl (o := 1) (by decide) rfl mv_X9_recall mm_X10_191 ⟨Nat.le_trans (by decide) hR.1, Nat.le_trans (by decide) hR.2⟩ rfl (Nat.le_of_ble_eq_true rfl) rfl dX10_undo_4 (c_X9_recall_1 l base D cA σ q1 h2) rfl ?_
  refine g_iteI (σ := q1.1) (pj := 22) (lv := [(0, .ref (base + 0))]) (st := []) (cd := q1.2 = 0) (a := (-4)) (b := rF q1.1 1 7) C ?_ (fun kt kf => ?_)
  · exact g_iret C hr dX10_undo_22 h
  · refine g_if_eq (pc' := 10) (tgt := 20) C dX10_undo_7 (by decide) rfl (fun hc => ?_) (fun hc => ?_)
    · refine g_bipush (pc' := 22) (v := (-4)) C dX10_undo_20 (by decide) rfl ?_
      exact kt hc
    · refine g_aload_n (pc' := 11) C dX10_undo_10 0 rfl rfl ?_
      refine gg_X10_12 (pc' := 14) (o := 0) (r := 1) C rfl rfl dX10_undo_11 rfl ?_
      refine gg_X10_167 (pc' := 17) (o := 1) C rfl dX10_undo_14 rfl ?_
      refine g_goto (tgt := 22) C dX10_undo_17 (by decide) ?_
      exact kf hc
theorem c_X10_undo (l : Launch) (base : Nat) (D : va_G) (cA : Nat → ClassId) (σ : cr_S) (res : cr_S × Int32) (h : f_X10_undo σ = some res) : cr_M l yX10_undo cX10_undo 1 (some .int) 2 41 sfC 97 base D cA [.ref (base + 0)] σ (cr_Qi sfC 97 base D cA res) := by
  refine cr_enter [.ref (base + 0)] [(0, .ref (base + 0))] (by decide) (Nat.le_of_ble_eq_true rfl) rfl ?_
  intro p e R s m below meth c C hr hR
  exact w_X10_undo C hr hR σ h
noncomputable def f_X10_seed (σ : cr_S) (a1 : Int32) : Option (cr_S × Int32) :=
  (if 0 ≤ a1 then cr_let (rF σ 1 8) (fun v1 => cr_let (sF σ 1 8 a1) (fun s3 => some (s3, v1))) else some (σ, (-1)))
set_option maxRecDepth 100000 in
set_option maxHeartbeats 4000000 in
theorem w_X10_seed (C : cr_C p l e R s m args below meth c sfC 97 base D cA cX10_seed 3 RX10) (hr : meth.sig.returnType = some .int) (hR : 0 ≤ R.frames ∧ 0 ≤ R.locals) {res : cr_S × Int32} (σ : cr_S) (a1 : Int32) (h : f_X10_seed σ a1 = some res) : cr_W p l e R s m args below meth c sfC 97 base D cA 3 (MQ below (cr_Qi sfC 97 base D cA res) args s 0 0 (cr_A 97 base)) σ 0 [(0, .ref (base + 0)), (1, .int a1)] [] := by
  unfold f_X10_seed at h
  refine g_iload_n (pc' := 1) C dX10_seed_0 1 rfl rfl ?_
  refine g_if_ge (pc' := 4) (tgt := 6) C dX10_seed_1 (by decide) rfl (fun hc => ?_) (fun hc => ?_)
  · rw [if_pos hc] at h
    refine g_aload_n (pc' := 7) C dX10_seed_6 0 rfl rfl ?_
    refine gg_X10_12 (pc' := 10) (o := 0) (r := 1) C rfl rfl dX10_seed_7 rfl ?_
    refine gg_X10_194 (pc' := 13) (o := 1) C rfl dX10_seed_10 rfl ?_
    obtain ⟨v1, e2, h⟩ := let_some h
    refine g_nameI e2 ?_
    refine g_istore_n (pc' := 14) (lv' := [(2, .int v1), (0, .ref (base + 0)), (1, .int a1)]) C dX10_seed_13 rfl (by decide) rfl rfl ?_
    refine g_aload_n (pc' := 15) C dX10_seed_14 1 rfl rfl ?_
    refine gg_X10_12 (pc' := 18) (o := 0) (r := 1) C rfl rfl dX10_seed_15 rfl ?_
    refine g_iload_n (pc' := 19) C dX10_seed_18 2 rfl rfl ?_
    obtain ⟨s3, e4, h⟩ := let_some h
    refine gp_X10_194 (pc' := 22) (o := 1) C rfl dX10_seed_19 rfl e4 ?_
    refine g_iload_n (pc' := 23) C dX10_seed_22 0 rfl rfl ?_
    exact g_iret C hr dX10_seed_23 h
  · rw [if_neg hc] at h
    refine g_iconst (pc' := 5) (v := (-1)) C dX10_seed_4 (by decide) rfl ?_
    exact g_iret C hr dX10_seed_5 h
theorem c_X10_seed (l : Launch) (base : Nat) (D : va_G) (cA : Nat → ClassId) (σ : cr_S) (a1 : Int32) (res : cr_S × Int32) (h : f_X10_seed σ a1 = some res) : cr_M l yX10_seed cX10_seed 3 (some .int) 0 0 sfC 97 base D cA [.ref (base + 0), .int a1] σ (cr_Qi sfC 97 base D cA res) := by
  refine cr_enter [.ref (base + 0), .int a1] [(0, .ref (base + 0)), (1, .int a1)] (by decide) (Nat.le_of_ble_eq_true rfl) rfl ?_
  intro p e R s m below meth c C hr hR
  exact w_X10_seed C hr hR σ a1 h
noncomputable def f_X9_drawn_1 (σ : cr_S) : Option (cr_S × Int32) :=
  cr_let (sF σ 1 8 ((((rF σ 1 8) * 1103515245) + 12345) &&& 2147483647)) (fun s1 => some (s1, (rF s1 1 8) / 65536))
set_option maxRecDepth 100000 in
set_option maxHeartbeats 4000000 in
theorem w_X9_drawn_1 (C : cr_C p l e R s m args below meth c sfC 97 base D cA cX9_drawn 1 RX9) (hr : meth.sig.returnType = some .int) (hR : 0 ≤ R.frames ∧ 0 ≤ R.locals) {res : cr_S × Int32} (σ : cr_S) (h : f_X9_drawn_1 σ = some res) : cr_W p l e R s m args below meth c sfC 97 base D cA 1 (MQ below (cr_Qi sfC 97 base D cA res) args s 0 0 (cr_A 97 base)) σ 0 [(0, .ref (base + 1))] [] := by
  unfold f_X9_drawn_1 at h
  refine g_aload_n (pc' := 1) C dX9_drawn_0 0 rfl rfl ?_
  refine g_aload_n (pc' := 2) C dX9_drawn_1 0 rfl rfl ?_
  refine gg_X9_41 (pc' := 5) (o := 1) C rfl dX9_drawn_2 rfl ?_
  refine g_ldc (pc' := 7) (v := 1103515245) C dX9_drawn_5 mk_X9_83 rfl ?_
  refine g_imul (pc' := 8) C dX9_drawn_7 rfl ?_
  refine g_sipush (pc' := 11) (v := 12345) C dX9_drawn_8 (by decide) rfl ?_
  refine g_iadd (pc' := 12) C dX9_drawn_11 rfl ?_
  refine g_ldc (pc' := 14) (v := 2147483647) C dX9_drawn_12 mk_X9_84 rfl ?_
  refine g_iand (pc' := 15) C dX9_drawn_14 rfl ?_
  obtain ⟨s1, e2, h⟩ := let_some h
  refine gp_X9_41 (pc' := 18) (o := 1) C rfl dX9_drawn_15 rfl e2 ?_
  refine g_aload_n (pc' := 19) C dX9_drawn_18 0 rfl rfl ?_
  refine gg_X9_41 (pc' := 22) (o := 1) C rfl dX9_drawn_19 rfl ?_
  refine g_ldc (pc' := 24) (v := 65536) C dX9_drawn_22 mk_X9_85 rfl ?_
  refine g_idiv (pc' := 25) C dX9_drawn_24 (by decide) rfl ?_
  exact g_iret C hr dX9_drawn_25 h
theorem c_X9_drawn_1 (l : Launch) (base : Nat) (D : va_G) (cA : Nat → ClassId) (σ : cr_S) (res : cr_S × Int32) (h : f_X9_drawn_1 σ = some res) : cr_M l yX9_drawn cX9_drawn 1 (some .int) 0 0 sfC 97 base D cA [.ref (base + 1)] σ (cr_Qi sfC 97 base D cA res) := by
  refine cr_enter [.ref (base + 1)] [(0, .ref (base + 1))] (by decide) (Nat.le_of_ble_eq_true rfl) rfl ?_
  intro p e R s m below meth c C hr hR
  exact w_X9_drawn_1 C hr hR σ h
noncomputable def f_J7_fill_53178_71_L5  : Nat → cr_S → Int32 → Int32 → Int32 → Option (cr_S)
  | 0, _, _, _, _ => none
  | n + 1, σ, x1, x2, x3 =>
    (if x3 ≤ x2 then some σ else chk (inb x2 6) (cr_let (sA σ 71 x2 x1) (fun s2 => cr_let (x2 + 1) (fun v4 => f_J7_fill_53178_71_L5 n s2 x1 v4 x3))))
set_option maxRecDepth 100000 in
set_option maxHeartbeats 4000000 in
theorem w_J7_fill_53178_71_L5 (C : cr_C p l e R s m args below meth c sfC 97 base D cA cJ7_fill_53178 4 RJ7) (hr : meth.sig.returnType = none) (hR : 0 ≤ R.frames ∧ 0 ≤ R.locals) {res : cr_S}  : ∀ (n : Nat) (σ : cr_S) (x1 : Int32) (x2 : Int32) (x3 : Int32), f_J7_fill_53178_71_L5 n σ x1 x2 x3 = some res → cr_W p l e R s m args below meth c sfC 97 base D cA 4 (MQ below (cr_Qv sfC 97 base D cA res) args s 0 0 (cr_A 97 base)) σ 5 [(0, .ref (base + 71)), (1, .int x1), (2, .int x2), (3, .int x3)] [] := by
  intro n
  induction n with
  | zero =>
    intro σ x1 x2 x3 h
    cases h
  | succ n ih =>
    intro σ x1 x2 x3 h
    rw [f_J7_fill_53178_71_L5] at h
    refine g_iload_n (pc' := 6) C dJ7_fill_53178_5 2 rfl rfl ?_
    refine g_iload_n (pc' := 7) C dJ7_fill_53178_6 3 rfl rfl ?_
    refine g_icmp_ge (pc' := 10) (tgt := 20) C dJ7_fill_53178_7 (by decide) rfl (fun hc => ?_) (fun hc => ?_)
    · rw [if_pos hc] at h
      exact g_vret C hr dJ7_fill_53178_20 h
    · rw [if_neg hc] at h
      refine g_aload_n (pc' := 11) C dJ7_fill_53178_10 0 rfl rfl ?_
      refine g_iload_n (pc' := 12) C dJ7_fill_53178_11 2 rfl rfl ?_
      refine g_iload_n (pc' := 13) C dJ7_fill_53178_12 1 rfl rfl ?_
      obtain ⟨h1, h⟩ := chk_some h
      obtain ⟨s2, e3, h⟩ := let_some h
      refine g_iast (pc' := 14) C (o := 71) (by decide) rfl (inb_d h1) dJ7_fill_53178_13 rfl e3 ?_
      obtain ⟨v4, e5, h⟩ := let_some h
      refine g_iinc (pc' := 17) (v := v4) (lv' := [(2, .int v4), (0, .ref (base + 71)), (1, .int x1), (3, .int x3)]) C dJ7_fill_53178_14 2 rfl (by rw [e5]; rfl) (by decide) rfl rfl ?_
      refine g_goto (tgt := 5) C dJ7_fill_53178_17 (by decide) ?_
      exact g_sub C [1, 2, 0, 3] rfl (ih _ _ _ _ h)
noncomputable def f_J7_fill_53178_71 (σ : cr_S) (a1 : Int32) : Option (cr_S) :=
  f_J7_fill_53178_71_L5 cr_fuel σ a1 0 6
set_option maxRecDepth 100000 in
set_option maxHeartbeats 4000000 in
theorem w_J7_fill_53178_71 (C : cr_C p l e R s m args below meth c sfC 97 base D cA cJ7_fill_53178 4 RJ7) (hr : meth.sig.returnType = none) (hR : 0 ≤ R.frames ∧ 0 ≤ R.locals) {res : cr_S} (σ : cr_S) (a1 : Int32) (h : f_J7_fill_53178_71 σ a1 = some res) : cr_W p l e R s m args below meth c sfC 97 base D cA 4 (MQ below (cr_Qv sfC 97 base D cA res) args s 0 0 (cr_A 97 base)) σ 0 [(0, .ref (base + 71)), (1, .int a1)] [] := by
  unfold f_J7_fill_53178_71 at h
  refine g_iconst (pc' := 1) (v := 0) C dJ7_fill_53178_0 (by decide) rfl ?_
  refine g_istore_n (pc' := 2) (lv' := [(2, .int 0), (0, .ref (base + 71)), (1, .int a1)]) C dJ7_fill_53178_1 rfl (by decide) rfl rfl ?_
  refine g_aload_n (pc' := 3) C dJ7_fill_53178_2 1 rfl rfl ?_
  refine g_alenI (pc' := 4) (v := 6) C (o := 71) (by decide) rfl rfl (by decide) dJ7_fill_53178_3 rfl ?_
  refine g_istore_n (pc' := 5) (lv' := [(3, .int 6), (2, .int 0), (0, .ref (base + 71)), (1, .int a1)]) C dJ7_fill_53178_4 rfl (by decide) rfl rfl ?_
  exact g_sub C [2, 3, 1, 0] rfl (w_J7_fill_53178_71_L5 C hr hR _ _ _ _ _ h)
theorem c_J7_fill_53178_71 (l : Launch) (base : Nat) (D : va_G) (cA : Nat → ClassId) (σ : cr_S) (a1 : Int32) (res : cr_S) (h : f_J7_fill_53178_71 σ a1 = some res) : cr_M l yJ7_fill_53178 cJ7_fill_53178 4 none 0 0 sfC 97 base D cA [.ref (base + 71), .int a1] σ (cr_Qv sfC 97 base D cA res) := by
  refine cr_enter [.ref (base + 71), .int a1] [(0, .ref (base + 71)), (1, .int a1)] (by decide) (Nat.le_of_ble_eq_true rfl) rfl ?_
  intro p e R s m below meth c C hr hR
  exact w_J7_fill_53178_71 C hr hR σ a1 h
noncomputable def f_X0_go_70_1_B99 (r19 : cr_S → Nat → Int32 → Option (cr_S)) (σ : cr_S) (x2 : Nat) (x4 : Int32) (t0 : Int32) : Option (cr_S) :=
  cr_let (sF σ 70 3 t0) (fun s15 => cr_let (x4 + 1) (fun v17 => r19 s15 x2 v17))
set_option maxRecDepth 100000 in
set_option maxHeartbeats 4000000 in
theorem w_X0_go_70_1_B99 (C : cr_C p l e R s m args below meth c sfC 97 base D cA cX0_go 6 RX0) (hr : meth.sig.returnType = none) (hR : 4 ≤ R.frames ∧ 95 ≤ R.locals) {res : cr_S} (r19 : cr_S → Nat → Int32 → Option (cr_S)) (hr19 : ∀ (σ : cr_S) (x2 : Nat) (x4 : Int32), r19 σ x2 x4 = some res → cr_W p l e R s m args below meth c sfC 97 base D cA 6 (MQ below (cr_Qv sfC 97 base D cA res) args s 0 0 (cr_A 97 base)) σ 19 [(0, .ref (base + 70)), (1, .ref (base + 1)), (2, .ref (base + x2)), (4, .int x4)] []) (σ : cr_S) (x2 : Nat) (x4 : Int32) (t0 : Int32) (h : f_X0_go_70_1_B99 r19 σ x2 x4 t0 = some res) : cr_W p l e R s m args below meth c sfC 97 base D cA 6 (MQ below (cr_Qv sfC 97 base D cA res) args s 0 0 (cr_A 97 base)) σ 99 [(0, .ref (base + 70)), (1, .ref (base + 1)), (2, .ref (base + x2)), (4, .int x4)] [.int t0, .ref (base + 70)] := by
  unfold f_X0_go_70_1_B99 at h
  obtain ⟨s15, e16, h⟩ := let_some h
  refine gp_X0_21 (pc' := 102) (o := 70) C rfl dX0_go_99 rfl e16 ?_
  obtain ⟨v17, e18, h⟩ := let_some h
  refine g_iinc (pc' := 105) (v := v17) (lv' := [(4, .int v17), (0, .ref (base + 70)), (1, .ref (base + 1)), (2, .ref (base + x2))]) C dX0_go_102 3 rfl (by rw [e18]; rfl) (by decide) rfl rfl ?_
  refine g_goto (tgt := 19) C dX0_go_105 (by decide) ?_
  exact g_sub C [1, 2, 3, 0] rfl (hr19 _ _ _ h)
noncomputable def f_X0_go_70_1_B81 (r19 : cr_S → Nat → Int32 → Option (cr_S)) (σ : cr_S) (x2 : Nat) (x4 : Int32) (x5 : Int32) (t0 : Int32) (t1 : Int32) : Option (cr_S) :=
  cr_let (sF σ 70 4 (t1 ||| t0)) (fun s13 => f_X0_go_70_1_B99 r19 s13 x2 x4 (if x5 = 2 then x4 else (-4)))
set_option maxRecDepth 100000 in
set_option maxHeartbeats 4000000 in
theorem w_X0_go_70_1_B81 (C : cr_C p l e R s m args below meth c sfC 97 base D cA cX0_go 6 RX0) (hr : meth.sig.returnType = none) (hR : 4 ≤ R.frames ∧ 95 ≤ R.locals) {res : cr_S} (r19 : cr_S → Nat → Int32 → Option (cr_S)) (hr19 : ∀ (σ : cr_S) (x2 : Nat) (x4 : Int32), r19 σ x2 x4 = some res → cr_W p l e R s m args below meth c sfC 97 base D cA 6 (MQ below (cr_Qv sfC 97 base D cA res) args s 0 0 (cr_A 97 base)) σ 19 [(0, .ref (base + 70)), (1, .ref (base + 1)), (2, .ref (base + x2)), (4, .int x4)] []) (σ : cr_S) (x2 : Nat) (x4 : Int32) (x5 : Int32) (t0 : Int32) (t1 : Int32) (h : f_X0_go_70_1_B81 r19 σ x2 x4 x5 t0 t1 = some res) : cr_W p l e R s m args below meth c sfC 97 base D cA 6 (MQ below (cr_Qv sfC 97 base D cA res) args s 0 0 (cr_A 97 base)) σ 81 [(0, .ref (base + 70)), (1, .ref (base + 1)), (2, .ref (base + x2)), (4, .int x4), (5, .int x5)] [.int t0, .int t1, .ref (base + 70)] := by
  unfold f_X0_go_70_1_B81 at h
  refine g_ior (pc' := 82) C dX0_go_81 rfl ?_
  obtain ⟨s13, e14, h⟩ := let_some h
  refine gp_X0_50 (pc' := 85) (o := 70) C rfl dX0_go_82 rfl e14 ?_
  refine g_aload_n (pc' := 86) C dX0_go_85 0 rfl rfl ?_
  refine g_iload (pc' := 88) C dX0_go_86 4 rfl rfl ?_
  refine g_iconst (pc' := 89) (v := 2) C dX0_go_88 (by decide) rfl ?_
  refine g_iteI (σ := s13) (pj := 99) (lv := [(0, .ref (base + 70)), (1, .ref (base + 1)), (2, .ref (base + x2)), (4, .int x4), (5, .int x5)]) (st := [.ref (base + 70)]) (cd := x5 = 2) (a := x4) (b := (-4)) C ?_ (fun kt kf => ?_)
  · exact g_sub C [0, 1, 2, 3] rfl (w_X0_go_70_1_B99 C hr hR r19 hr19 _ _ _ _ h)
  · refine g_icmp_ne (pc' := 92) (tgt := 97) C dX0_go_89 (by decide) rfl (fun hc => ?_) (fun hc => ?_)
    · refine g_bipush (pc' := 99) (v := (-4)) C dX0_go_97 (by decide) rfl ?_
      exact kf hc
    · refine g_iload (pc' := 94) C dX0_go_92 3 rfl rfl ?_
      refine g_goto (tgt := 99) C dX0_go_94 (by decide) ?_
      exact kt hc
noncomputable def f_X0_go_70_1_L19  : Nat → cr_S → Nat → Int32 → Option (cr_S)
  | 0, _, _, _ => none
  | n + 1, σ, x2, x4 =>
    (if (rF σ 1 5) ≤ x4 then some σ else (if (rF σ 70 3) = (-4) then chk (inb x4 6) (chk (inb x4 6) (Option.bind (f_X0_goBetween_70 σ (9 + x4.toNatClampNeg) x2 (rF σ 70 5) (rA σ 71 x4)) (fun q9 => cr_let q9.2 (fun v11 => f_X0_go_70_1_B81 (f_X0_go_70_1_L19 n) q9.1 x2 x4 v11 (if v11 = 1 then 1 <<< (x4 &&& 31) else 0) (rF q9.1 70 4))))) else some σ))
set_option maxRecDepth 100000 in
set_option maxHeartbeats 4000000 in
theorem w_X0_go_70_1_L19 (C : cr_C p l e R s m args below meth c sfC 97 base D cA cX0_go 6 RX0) (hr : meth.sig.returnType = none) (hR : 4 ≤ R.frames ∧ 95 ≤ R.locals) {res : cr_S}  : ∀ (n : Nat) (σ : cr_S) (x2 : Nat) (x4 : Int32), f_X0_go_70_1_L19 n σ x2 x4 = some res → cr_W p l e R s m args below meth c sfC 97 base D cA 6 (MQ below (cr_Qv sfC 97 base D cA res) args s 0 0 (cr_A 97 base)) σ 19 [(0, .ref (base + 70)), (1, .ref (base + 1)), (2, .ref (base + x2)), (4, .int x4)] [] := by
  intro n
  induction n with
  | zero =>
    intro σ x2 x4 h
    cases h
  | succ n ih =>
    intro σ x2 x4 h
    rw [f_X0_go_70_1_L19] at h
    refine g_iload (pc' := 21) C dX0_go_19 3 rfl rfl ?_
    refine g_aload_n (pc' := 22) C dX0_go_21 1 rfl rfl ?_
    refine gg_X0_53 (pc' := 25) (o := 1) C rfl dX0_go_22 rfl ?_
    refine g_icmp_ge (pc' := 28) (tgt := 108) C dX0_go_25 (by decide) rfl (fun hc => ?_) (fun hc => ?_)
    · rw [if_pos hc] at h
      exact g_vret C hr dX0_go_108 h
    · rw [if_neg hc] at h
      refine g_aload_n (pc' := 29) C dX0_go_28 0 rfl rfl ?_
      refine gg_X0_21 (pc' := 32) (o := 70) C rfl dX0_go_29 rfl ?_
      refine g_bipush (pc' := 34) (v := (-4)) C dX0_go_32 (by decide) rfl ?_
      refine g_icmp_ne (pc' := 37) (tgt := 108) C dX0_go_34 (by decide) rfl (fun hc => ?_) (fun hc => ?_)
      · rw [if_neg hc] at h
        exact g_vret C hr dX0_go_108 h
      · rw [if_pos hc] at h
        refine g_aload_n (pc' := 38) C dX0_go_37 0 rfl rfl ?_
        refine g_aload_n (pc' := 39) C dX0_go_38 1 rfl rfl ?_
        refine gg_X0_58 (pc' := 42) (o := 1) (r := 2) C rfl rfl dX0_go_39 rfl ?_
        refine g_iload (pc' := 44) C dX0_go_42 3 rfl rfl ?_
        obtain ⟨h7, h⟩ := chk_some h
        refine g_aald (pc' := 45) C (o := 2) (by decide) rfl (cn := "ClashRocks$Pair") rfl (inb_d h7) dX0_go_44 rfl ?_
        refine g_aload_n (pc' := 46) C dX0_go_45 2 rfl rfl ?_
        refine g_aload_n (pc' := 47) C dX0_go_46 0 rfl rfl ?_
        refine gg_X0_47 (pc' := 50) (o := 70) C rfl dX0_go_47 rfl ?_
        refine g_aload_n (pc' := 51) C dX0_go_50 0 rfl rfl ?_
        refine gg_X0_9 (pc' := 54) (o := 70) (r := 71) C rfl rfl dX0_go_51 rfl ?_
        refine g_iload (pc' := 56) C dX0_go_54 3 rfl rfl ?_
        obtain ⟨h8, h⟩ := chk_some h
        refine g_iald (pc' := 57) C (o := 71) (by decide) rfl (inb_d h8) dX0_go_56 rfl ?_
        obtain ⟨q9, h10, h⟩ := bind_some h
        refine g_callVi (pc' := 60) (res := q9) C [.ref (base + (9 + x4.toNatClampNeg)), .ref (base + x2), .int (rF σ 70 5), .int (rA σ 71 x4)] cY_X0_goBetween rfl (o := 70) (by decide) rfl mv_X0_goBetween mm_X0_62 ⟨Nat.le_trans (by decide) hR.1, Nat.le_trans (by decide) hR.2⟩ rfl (Nat.le_of_ble_eq_true rfl) rfl dX0_go_57 (c_X0_goBetween_70 l base D cA σ (9 + x4.toNatClampNeg) x2 (rF σ 70 5) (rA σ 71 x4) q9 h10) rfl ?_
        obtain ⟨v11, e12, h⟩ := let_some h
        refine g_nameI e12 ?_
        refine g_istore (pc' := 62) (lv' := [(5, .int v11), (0, .ref (base + 70)), (1, .ref (base + 1)), (2, .ref (base + x2)), (4, .int x4)]) C dX0_go_60 (by decide) rfl rfl ?_
        refine g_aload_n (pc' := 63) C dX0_go_62 1 rfl rfl ?_
        refine g_dup (pc' := 64) C dX0_go_63 rfl rfl ?_
        refine gg_X0_50 (pc' := 67) (o := 70) C rfl dX0_go_64 rfl ?_
        refine g_iload (pc' := 69) C dX0_go_67 0 rfl rfl ?_
        refine g_iconst (pc' := 70) (v := 1) C dX0_go_69 (by decide) rfl ?_
        refine g_iteI (σ := q9.1) (pj := 81) (lv := [(5, .int v11), (0, .ref (base + 70)), (1, .ref (base + 1)), (2, .ref (base + x2)), (4, .int x4)]) (st := [.int (rF q9.1 70 4), .ref (base + 70)]) (cd := v11 = 1) (a := 1 <<< (x4 &&& 31)) (b := 0) C ?_ (fun kt kf => ?_)
        · exact g_sub C [1, 2, 3, 4, 0] rfl (w_X0_go_70_1_B81 C hr hR (f_X0_go_70_1_L19 n) ih _ _ _ _ _ _ h)
        · refine g_icmp_ne (pc' := 73) (tgt := 80) C dX0_go_70 (by decide) rfl (fun hc => ?_) (fun hc => ?_)
          · refine g_iconst (pc' := 81) (v := 0) C dX0_go_80 (by decide) rfl ?_
            exact kf hc
          · refine g_iconst (pc' := 74) (v := 1) C dX0_go_73 (by decide) rfl ?_
            refine g_iload (pc' := 76) C dX0_go_74 4 rfl rfl ?_
            refine g_ishl (pc' := 77) C dX0_go_76 rfl ?_
            refine g_goto (tgt := 81) C dX0_go_77 (by decide) ?_
            exact kt hc
noncomputable def f_X0_go_70_1 (σ : cr_S) (o2 : Nat) (a3 : Int32) : Option (cr_S) :=
  cr_let (sF σ 70 3 (-4)) (fun s1 => cr_let (sF s1 70 4 0) (fun s3 => cr_let (sF s3 70 5 a3) (fun s5 => f_X0_go_70_1_L19 cr_fuel s5 o2 0)))
set_option maxRecDepth 100000 in
set_option maxHeartbeats 4000000 in
theorem w_X0_go_70_1 (C : cr_C p l e R s m args below meth c sfC 97 base D cA cX0_go 6 RX0) (hr : meth.sig.returnType = none) (hR : 4 ≤ R.frames ∧ 95 ≤ R.locals) {res : cr_S} (σ : cr_S) (o2 : Nat) (a3 : Int32) (h : f_X0_go_70_1 σ o2 a3 = some res) : cr_W p l e R s m args below meth c sfC 97 base D cA 6 (MQ below (cr_Qv sfC 97 base D cA res) args s 0 0 (cr_A 97 base)) σ 0 [(0, .ref (base + 70)), (1, .ref (base + 1)), (2, .ref (base + o2)), (3, .int a3)] [] := by
  unfold f_X0_go_70_1 at h
  refine g_aload_n (pc' := 1) C dX0_go_0 0 rfl rfl ?_
  refine g_bipush (pc' := 3) (v := (-4)) C dX0_go_1 (by decide) rfl ?_
  obtain ⟨s1, e2, h⟩ := let_some h
  refine gp_X0_21 (pc' := 6) (o := 70) C rfl dX0_go_3 rfl e2 ?_
  refine g_aload_n (pc' := 7) C dX0_go_6 0 rfl rfl ?_
  refine g_iconst (pc' := 8) (v := 0) C dX0_go_7 (by decide) rfl ?_
  obtain ⟨s3, e4, h⟩ := let_some h
  refine gp_X0_50 (pc' := 11) (o := 70) C rfl dX0_go_8 rfl e4 ?_
  refine g_aload_n (pc' := 12) C dX0_go_11 0 rfl rfl ?_
  refine g_iload_n (pc' := 13) C dX0_go_12 3 rfl rfl ?_
  obtain ⟨s5, e6, h⟩ := let_some h
  refine gp_X0_47 (pc' := 16) (o := 70) C rfl dX0_go_13 rfl e6 ?_
  refine g_iconst (pc' := 17) (v := 0) C dX0_go_16 (by decide) rfl ?_
  refine g_istore (pc' := 19) (lv' := [(4, .int 0), (0, .ref (base + 70)), (1, .ref (base + 1)), (2, .ref (base + o2)), (3, .int a3)]) C dX0_go_17 (by decide) rfl rfl ?_
  exact g_sub C [1, 2, 3, 0] rfl (w_X0_go_70_1_L19 C hr hR _ _ _ _ h)
theorem c_X0_go_70_1 (l : Launch) (base : Nat) (D : va_G) (cA : Nat → ClassId) (σ : cr_S) (o2 : Nat) (a3 : Int32) (res : cr_S) (h : f_X0_go_70_1 σ o2 a3 = some res) : cr_M l yX0_go cX0_go 6 none 4 95 sfC 97 base D cA [.ref (base + 70), .ref (base + 1), .ref (base + o2), .int a3] σ (cr_Qv sfC 97 base D cA res) := by
  refine cr_enter [.ref (base + 70), .ref (base + 1), .ref (base + o2), .int a3] [(0, .ref (base + 70)), (1, .ref (base + 1)), (2, .ref (base + o2)), (3, .int a3)] (by decide) (Nat.le_of_ble_eq_true rfl) rfl ?_
  intro p e R s m below meth c C hr hR
  exact w_X0_go_70_1 C hr hR σ o2 a3 h
noncomputable def f_X10_goFull (σ : cr_S) (a1 : Int32) (a2 : Int32) : Option (cr_S) :=
  chk (inb a1 5) (Option.bind (f_X6_high σ (15 + a1.toNatClampNeg)) (fun q2 => chk (kC (15 + a1.toNatClampNeg) = 6) (Option.bind (f_J7_fill_53178_71 q2.1 q2.2) (fun q5 => Option.bind (f_X0_go_70_1 q5 (15 + a1.toNatClampNeg) a2) (fun q7 => some q7)))))
set_option maxRecDepth 100000 in
set_option maxHeartbeats 4000000 in
theorem w_X10_goFull (C : cr_C p l e R s m args below meth c sfC 97 base D cA cX10_goFull 4 RX10) (hr : meth.sig.returnType = none) (hR : 5 ≤ R.frames ∧ 120 ≤ R.locals) {res : cr_S} (σ : cr_S) (a1 : Int32) (a2 : Int32) (h : f_X10_goFull σ a1 a2 = some res) : cr_W p l e R s m args below meth c sfC 97 base D cA 4 (MQ below (cr_Qv sfC 97 base D cA res) args s 0 0 (cr_A 97 base)) σ 0 [(0, .ref (base + 0)), (1, .int a1), (2, .int a2)] [] := by
  unfold f_X10_goFull at h
  refine g_aload_n (pc' := 1) C dX10_goFull_0 0 rfl rfl ?_
  refine gg_X10_12 (pc' := 4) (o := 0) (r := 1) C rfl rfl dX10_goFull_1 rfl ?_
  refine gg_X10_85 (pc' := 7) (o := 1) (r := 3) C rfl rfl dX10_goFull_4 rfl ?_
  refine g_iload_n (pc' := 8) C dX10_goFull_7 1 rfl rfl ?_
  obtain ⟨h1, h⟩ := chk_some h
  refine g_aald (pc' := 9) C (o := 3) (by decide) rfl (cn := "ClashRocks$Ship") rfl (inb_d h1) dX10_goFull_8 rfl ?_
  refine g_astore_n (pc' := 10) (lv' := [(3, .ref (base + (15 + a1.toNatClampNeg))), (0, .ref (base + 0)), (1, .int a1), (2, .int a2)]) C dX10_goFull_9 rfl (by decide) rfl rfl ?_
  refine g_aload_n (pc' := 11) C dX10_goFull_10 1 rfl rfl ?_
  refine gg_X10_29 (pc' := 14) (o := 0) (r := 70) C rfl rfl dX10_goFull_11 rfl ?_
  refine gg_X10_299 (pc' := 17) (o := 70) (r := 71) C rfl rfl dX10_goFull_14 rfl ?_
  refine g_aload_n (pc' := 18) C dX10_goFull_17 0 rfl rfl ?_
  obtain ⟨q2, h3, h⟩ := bind_some h
  obtain ⟨h4, h⟩ := chk_some h
  refine g_callVi (pc' := 21) (res := q2) C [] cY_X6_high rfl (o := 15 + a1.toNatClampNeg) (kC_lt h4 (by decide)) (sfC_6 h4) mv_X6_high mm_X10_117 ⟨Nat.le_trans (by decide) hR.1, Nat.le_trans (by decide) hR.2⟩ rfl (Nat.le_of_ble_eq_true rfl) rfl dX10_goFull_18 (c_X6_high l base D cA σ (15 + a1.toNatClampNeg) q2 h3) rfl ?_
  obtain ⟨q5, h6, h⟩ := bind_some h
  refine g_callSv (pc' := 24) (res := q5) C [.ref (base + 71), .int q2.2] cY_J7_fill_53178 mv_J7_fill_53178 mm_X10_325 ⟨Nat.le_trans (by decide) hR.1, Nat.le_trans (by decide) hR.2⟩ rfl (Nat.le_of_ble_eq_true rfl) rfl dX10_goFull_21 (c_J7_fill_53178_71 l base D cA q2.1 q2.2 q5 h6) rfl ?_
  refine g_aload_n (pc' := 25) C dX10_goFull_24 1 rfl rfl ?_
  refine gg_X10_29 (pc' := 28) (o := 0) (r := 70) C rfl rfl dX10_goFull_25 rfl ?_
  refine g_aload_n (pc' := 29) C dX10_goFull_28 1 rfl rfl ?_
  refine gg_X10_12 (pc' := 32) (o := 0) (r := 1) C rfl rfl dX10_goFull_29 rfl ?_
  refine g_aload_n (pc' := 33) C dX10_goFull_32 0 rfl rfl ?_
  refine g_iload_n (pc' := 34) C dX10_goFull_33 3 rfl rfl ?_
  obtain ⟨q7, h8, h⟩ := bind_some h
  refine g_callVv (pc' := 37) (res := q7) C [.ref (base + 1), .ref (base + (15 + a1.toNatClampNeg)), .int a2] cY_X0_go rfl (o := 70) (by decide) rfl mv_X0_go mm_X10_300 ⟨Nat.le_trans (by decide) hR.1, Nat.le_trans (by decide) hR.2⟩ rfl (Nat.le_of_ble_eq_true rfl) rfl dX10_goFull_34 (c_X0_go_70_1 l base D cA q5 (15 + a1.toNatClampNeg) a2 q7 h8) rfl ?_
  exact g_vret C hr dX10_goFull_37 h
theorem c_X10_goFull (l : Launch) (base : Nat) (D : va_G) (cA : Nat → ClassId) (σ : cr_S) (a1 : Int32) (a2 : Int32) (res : cr_S) (h : f_X10_goFull σ a1 a2 = some res) : cr_M l yX10_goFull cX10_goFull 4 none 5 120 sfC 97 base D cA [.ref (base + 0), .int a1, .int a2] σ (cr_Qv sfC 97 base D cA res) := by
  refine cr_enter [.ref (base + 0), .int a1, .int a2] [(0, .ref (base + 0)), (1, .int a1), (2, .int a2)] (by decide) (Nat.le_of_ble_eq_true rfl) rfl ?_
  intro p e R s m below meth c C hr hR
  exact w_X10_goFull C hr hR σ a1 a2 h
noncomputable def f_X0_isClean_70 (σ : cr_S) : Option (cr_S × Int32) :=
  (if (rF σ 70 3) = (-4) then (if (rF σ 70 4) = 0 then some (σ, 1) else some (σ, 0)) else some (σ, 0))
set_option maxRecDepth 100000 in
set_option maxHeartbeats 4000000 in
theorem w_X0_isClean_70 (C : cr_C p l e R s m args below meth c sfC 97 base D cA cX0_isClean 1 RX0) (hr : meth.sig.returnType = some .boolean) (hR : 0 ≤ R.frames ∧ 0 ≤ R.locals) {res : cr_S × Int32} (σ : cr_S) (h : f_X0_isClean_70 σ = some res) : cr_W p l e R s m args below meth c sfC 97 base D cA 1 (MQ below (cr_Qi sfC 97 base D cA res) args s 0 0 (cr_A 97 base)) σ 0 [(0, .ref (base + 70))] [] := by
  unfold f_X0_isClean_70 at h
  refine g_aload_n (pc' := 1) C dX0_isClean_0 0 rfl rfl ?_
  refine gg_X0_21 (pc' := 4) (o := 70) C rfl dX0_isClean_1 rfl ?_
  refine g_bipush (pc' := 6) (v := (-4)) C dX0_isClean_4 (by decide) rfl ?_
  refine g_icmp_ne (pc' := 9) (tgt := 20) C dX0_isClean_6 (by decide) rfl (fun hc => ?_) (fun hc => ?_)
  · rw [if_neg hc] at h
    refine g_iconst (pc' := 21) (v := 0) C dX0_isClean_20 (by decide) rfl ?_
    exact g_zret C hr rfl dX0_isClean_21 h
  · rw [if_pos hc] at h
    refine g_aload_n (pc' := 10) C dX0_isClean_9 0 rfl rfl ?_
    refine gg_X0_50 (pc' := 13) (o := 70) C rfl dX0_isClean_10 rfl ?_
    refine g_if_ne (pc' := 16) (tgt := 20) C dX0_isClean_13 (by decide) rfl (fun hc => ?_) (fun hc => ?_)
    · rw [if_neg hc] at h
      refine g_iconst (pc' := 21) (v := 0) C dX0_isClean_20 (by decide) rfl ?_
      exact g_zret C hr rfl dX0_isClean_21 h
    · rw [if_pos hc] at h
      refine g_iconst (pc' := 17) (v := 1) C dX0_isClean_16 (by decide) rfl ?_
      refine g_goto (tgt := 21) C dX0_isClean_17 (by decide) ?_
      exact g_zret C hr rfl dX0_isClean_21 h
theorem c_X0_isClean_70 (l : Launch) (base : Nat) (D : va_G) (cA : Nat → ClassId) (σ : cr_S) (res : cr_S × Int32) (h : f_X0_isClean_70 σ = some res) : cr_M l yX0_isClean cX0_isClean 1 (some .boolean) 0 0 sfC 97 base D cA [.ref (base + 70)] σ (cr_Qi sfC 97 base D cA res) := by
  refine cr_enter [.ref (base + 70)] [(0, .ref (base + 70))] (by decide) (Nat.le_of_ble_eq_true rfl) rfl ?_
  intro p e R s m below meth c C hr hR
  exact w_X0_isClean_70 C hr hR σ h
noncomputable def f_X10_lots_B86 (r28 : cr_S → Int32 → Int32 → Int32 → Int32 → Int32 → Option (cr_S × Int32)) (σ : cr_S) (x1 : Int32) (x2 : Int32) (x3 : Int32) (x5 : Int32) (t0 : Int32) (t1 : Int32) : Option (cr_S × Int32) :=
  cr_let (t1 + t0) (fun v13 => cr_let (x5 + 1) (fun v15 => r28 σ x1 x2 x3 v13 v15))
set_option maxRecDepth 100000 in
set_option maxHeartbeats 4000000 in
theorem w_X10_lots_B86 (C : cr_C p l e R s m args below meth c sfC 97 base D cA cX10_lots 6 RX10) (hr : meth.sig.returnType = some .int) (hR : 6 ≤ R.frames ∧ 143 ≤ R.locals) {res : cr_S × Int32} (r28 : cr_S → Int32 → Int32 → Int32 → Int32 → Int32 → Option (cr_S × Int32)) (hr28 : ∀ (σ : cr_S) (x1 : Int32) (x2 : Int32) (x3 : Int32) (x4 : Int32) (x5 : Int32), r28 σ x1 x2 x3 x4 x5 = some res → cr_W p l e R s m args below meth c sfC 97 base D cA 6 (MQ below (cr_Qi sfC 97 base D cA res) args s 0 0 (cr_A 97 base)) σ 28 [(0, .ref (base + 0)), (1, .int x1), (2, .int x2), (3, .int x3), (4, .int x4), (5, .int x5)] []) (σ : cr_S) (x1 : Int32) (x2 : Int32) (x3 : Int32) (x5 : Int32) (t0 : Int32) (t1 : Int32) (h : f_X10_lots_B86 r28 σ x1 x2 x3 x5 t0 t1 = some res) : cr_W p l e R s m args below meth c sfC 97 base D cA 6 (MQ below (cr_Qi sfC 97 base D cA res) args s 0 0 (cr_A 97 base)) σ 86 [(0, .ref (base + 0)), (1, .int x1), (2, .int x2), (3, .int x3), (5, .int x5)] [.int t0, .int t1] := by
  unfold f_X10_lots_B86 at h
  refine g_iadd (pc' := 87) C dX10_lots_86 rfl ?_
  obtain ⟨v13, e14, h⟩ := let_some h
  refine g_nameI e14 ?_
  refine g_istore (pc' := 89) (lv' := [(4, .int v13), (0, .ref (base + 0)), (1, .int x1), (2, .int x2), (3, .int x3), (5, .int x5)]) C dX10_lots_87 (by decide) rfl rfl ?_
  obtain ⟨v15, e16, h⟩ := let_some h
  refine g_iinc (pc' := 92) (v := v15) (lv' := [(5, .int v15), (4, .int v13), (0, .ref (base + 0)), (1, .int x1), (2, .int x2), (3, .int x3)]) C dX10_lots_89 5 rfl (by rw [e16]; rfl) (by decide) rfl rfl ?_
  refine g_goto (tgt := 28) C dX10_lots_92 (by decide) ?_
  exact g_sub C [2, 3, 4, 5, 1, 0] rfl (hr28 _ _ _ _ _ _ h)
noncomputable def f_X10_lots_B65 (r28 : cr_S → Int32 → Int32 → Int32 → Int32 → Int32 → Option (cr_S × Int32)) (σ : cr_S) (x1 : Int32) (x2 : Int32) (x4 : Int32) (x5 : Int32) (t0 : Int32) (t1 : Int32) : Option (cr_S × Int32) :=
  cr_let (t1 + t0) (fun v11 => f_X10_lots_B86 r28 σ x1 x2 v11 x5 (if (rF σ 70 3) = (-4) then 0 else 1) x4)
set_option maxRecDepth 100000 in
set_option maxHeartbeats 4000000 in
theorem w_X10_lots_B65 (C : cr_C p l e R s m args below meth c sfC 97 base D cA cX10_lots 6 RX10) (hr : meth.sig.returnType = some .int) (hR : 6 ≤ R.frames ∧ 143 ≤ R.locals) {res : cr_S × Int32} (r28 : cr_S → Int32 → Int32 → Int32 → Int32 → Int32 → Option (cr_S × Int32)) (hr28 : ∀ (σ : cr_S) (x1 : Int32) (x2 : Int32) (x3 : Int32) (x4 : Int32) (x5 : Int32), r28 σ x1 x2 x3 x4 x5 = some res → cr_W p l e R s m args below meth c sfC 97 base D cA 6 (MQ below (cr_Qi sfC 97 base D cA res) args s 0 0 (cr_A 97 base)) σ 28 [(0, .ref (base + 0)), (1, .int x1), (2, .int x2), (3, .int x3), (4, .int x4), (5, .int x5)] []) (σ : cr_S) (x1 : Int32) (x2 : Int32) (x4 : Int32) (x5 : Int32) (t0 : Int32) (t1 : Int32) (h : f_X10_lots_B65 r28 σ x1 x2 x4 x5 t0 t1 = some res) : cr_W p l e R s m args below meth c sfC 97 base D cA 6 (MQ below (cr_Qi sfC 97 base D cA res) args s 0 0 (cr_A 97 base)) σ 65 [(0, .ref (base + 0)), (1, .int x1), (2, .int x2), (4, .int x4), (5, .int x5)] [.int t0, .int t1] := by
  unfold f_X10_lots_B65 at h
  refine g_iadd (pc' := 66) C dX10_lots_65 rfl ?_
  obtain ⟨v11, e12, h⟩ := let_some h
  refine g_nameI e12 ?_
  refine g_istore_n (pc' := 67) (lv' := [(3, .int v11), (0, .ref (base + 0)), (1, .int x1), (2, .int x2), (4, .int x4), (5, .int x5)]) C dX10_lots_66 rfl (by decide) rfl rfl ?_
  refine g_iload (pc' := 69) C dX10_lots_67 4 rfl rfl ?_
  refine g_aload_n (pc' := 70) C dX10_lots_69 1 rfl rfl ?_
  refine gg_X10_29 (pc' := 73) (o := 0) (r := 70) C rfl rfl dX10_lots_70 rfl ?_
  refine gg_X10_207 (pc' := 76) (o := 70) C rfl dX10_lots_73 rfl ?_
  refine g_bipush (pc' := 78) (v := (-4)) C dX10_lots_76 (by decide) rfl ?_
  refine g_iteI (σ := σ) (pj := 86) (lv := [(3, .int v11), (0, .ref (base + 0)), (1, .int x1), (2, .int x2), (4, .int x4), (5, .int x5)]) (st := [.int x4]) (cd := (rF σ 70 3) = (-4)) (a := 0) (b := 1) C ?_ (fun kt kf => ?_)
  · exact g_sub C [1, 2, 3, 0, 5] rfl (w_X10_lots_B86 C hr hR r28 hr28 _ _ _ _ _ _ _ h)
  · refine g_icmp_ne (pc' := 81) (tgt := 85) C dX10_lots_78 (by decide) rfl (fun hc => ?_) (fun hc => ?_)
    · refine g_iconst (pc' := 86) (v := 1) C dX10_lots_85 (by decide) rfl ?_
      exact kf hc
    · refine g_iconst (pc' := 82) (v := 0) C dX10_lots_81 (by decide) rfl ?_
      refine g_goto (tgt := 86) C dX10_lots_82 (by decide) ?_
      exact kt hc
noncomputable def f_X10_lots_L28  : Nat → cr_S → Int32 → Int32 → Int32 → Int32 → Int32 → Option (cr_S × Int32)
  | 0, _, _, _, _, _, _ => none
  | n + 1, σ, x1, x2, x3, x4, x5 =>
    (if x2 ≤ x5 then some (σ, x3 + (100 * x4)) else Option.bind (f_X9_drawn_1 σ) (fun q5 => Option.bind (f_X10_goFull q5.1 x1 (q5.2 - q5.2 / 60 * 60)) (fun q7 => Option.bind (f_X0_isClean_70 q7) (fun q9 => f_X10_lots_B65 (f_X10_lots_L28 n) q9.1 x1 x2 x4 x5 (if q9.2 = 0 then 0 else 1) x3))))
set_option maxRecDepth 100000 in
set_option maxHeartbeats 4000000 in
theorem w_X10_lots_L28 (C : cr_C p l e R s m args below meth c sfC 97 base D cA cX10_lots 6 RX10) (hr : meth.sig.returnType = some .int) (hR : 6 ≤ R.frames ∧ 143 ≤ R.locals) {res : cr_S × Int32}  : ∀ (n : Nat) (σ : cr_S) (x1 : Int32) (x2 : Int32) (x3 : Int32) (x4 : Int32) (x5 : Int32), f_X10_lots_L28 n σ x1 x2 x3 x4 x5 = some res → cr_W p l e R s m args below meth c sfC 97 base D cA 6 (MQ below (cr_Qi sfC 97 base D cA res) args s 0 0 (cr_A 97 base)) σ 28 [(0, .ref (base + 0)), (1, .int x1), (2, .int x2), (3, .int x3), (4, .int x4), (5, .int x5)] [] := by
  intro n
  induction n with
  | zero =>
    intro σ x1 x2 x3 x4 x5 h
    cases h
  | succ n ih =>
    intro σ x1 x2 x3 x4 x5 h
    rw [f_X10_lots_L28] at h
    refine g_iload (pc' := 30) C dX10_lots_28 5 rfl rfl ?_
    refine g_iload_n (pc' := 31) C dX10_lots_30 2 rfl rfl ?_
    refine g_icmp_ge (pc' := 34) (tgt := 95) C dX10_lots_31 (by decide) rfl (fun hc => ?_) (fun hc => ?_)
    · rw [if_pos hc] at h
      refine g_iload_n (pc' := 96) C dX10_lots_95 3 rfl rfl ?_
      refine g_bipush (pc' := 98) (v := 100) C dX10_lots_96 (by decide) rfl ?_
      refine g_iload (pc' := 100) C dX10_lots_98 4 rfl rfl ?_
      refine g_imul (pc' := 101) C dX10_lots_100 rfl ?_
      refine g_iadd (pc' := 102) C dX10_lots_101 rfl ?_
      exact g_iret C hr dX10_lots_102 h
    · rw [if_neg hc] at h
      refine g_aload_n (pc' := 35) C dX10_lots_34 0 rfl rfl ?_
      refine g_iload_n (pc' := 36) C dX10_lots_35 1 rfl rfl ?_
      refine g_aload_n (pc' := 37) C dX10_lots_36 0 rfl rfl ?_
      refine gg_X10_12 (pc' := 40) (o := 0) (r := 1) C rfl rfl dX10_lots_37 rfl ?_
      obtain ⟨q5, h6, h⟩ := bind_some h
      refine g_callVi (pc' := 43) (res := q5) C [] cY_X9_drawn rfl (o := 1) (by decide) rfl mv_X9_drawn mm_X10_197 ⟨Nat.le_trans (by decide) hR.1, Nat.le_trans (by decide) hR.2⟩ rfl (Nat.le_of_ble_eq_true rfl) rfl dX10_lots_40 (c_X9_drawn_1 l base D cA σ q5 h6) rfl ?_
      refine g_bipush (pc' := 45) (v := 60) C dX10_lots_43 (by decide) rfl ?_
      refine g_irem (pc' := 46) C dX10_lots_45 (by decide) rfl ?_
      obtain ⟨q7, h8, h⟩ := bind_some h
      refine g_callVv (pc' := 49) (res := q7) C [.int x1, .int (q5.2 - q5.2 / 60 * 60)] cY_X10_goFull rfl (o := 0) (by decide) rfl mv_X10_goFull mm_X10_200 ⟨Nat.le_trans (by decide) hR.1, Nat.le_trans (by decide) hR.2⟩ rfl (Nat.le_of_ble_eq_true rfl) rfl dX10_lots_46 (c_X10_goFull l base D cA q5.1 x1 (q5.2 - q5.2 / 60 * 60) q7 h8) rfl ?_
      refine g_iload_n (pc' := 50) C dX10_lots_49 3 rfl rfl ?_
      refine g_aload_n (pc' := 51) C dX10_lots_50 0 rfl rfl ?_
      refine gg_X10_29 (pc' := 54) (o := 0) (r := 70) C rfl rfl dX10_lots_51 rfl ?_
      obtain ⟨q9, h10, h⟩ := bind_some h
      refine g_callVi (pc' := 57) (res := q9) C [] cY_X0_isClean rfl (o := 70) (by decide) rfl mv_X0_isClean mm_X10_204 ⟨Nat.le_trans (by decide) hR.1, Nat.le_trans (by decide) hR.2⟩ rfl (Nat.le_of_ble_eq_true rfl) rfl dX10_lots_54 (c_X0_isClean_70 l base D cA q7 q9 h10) rfl ?_
      refine g_iteI (σ := q9.1) (pj := 65) (lv := [(0, .ref (base + 0)), (1, .int x1), (2, .int x2), (3, .int x3), (4, .int x4), (5, .int x5)]) (st := [.int x3]) (cd := q9.2 = 0) (a := 0) (b := 1) C ?_ (fun kt kf => ?_)
      · exact g_sub C [0, 1, 2, 4, 5] rfl (w_X10_lots_B65 C hr hR (f_X10_lots_L28 n) ih _ _ _ _ _ _ _ h)
      · refine g_if_eq (pc' := 60) (tgt := 64) C dX10_lots_57 (by decide) rfl (fun hc => ?_) (fun hc => ?_)
        · refine g_iconst (pc' := 65) (v := 0) C dX10_lots_64 (by decide) rfl ?_
          exact kt hc
        · refine g_iconst (pc' := 61) (v := 1) C dX10_lots_60 (by decide) rfl ?_
          refine g_goto (tgt := 65) C dX10_lots_61 (by decide) ?_
          exact kf hc
noncomputable def f_X10_lots (σ : cr_S) (a1 : Int32) (a2 : Int32) : Option (cr_S × Int32) :=
  Option.bind (f_X10_isShip σ a1) (fun q1 => (if q1.2 = 0 then some (q1.1, (-1)) else Option.bind (f_X10_isWithin q1.1 a2 1 99) (fun q3 => (if q3.2 = 0 then some (q3.1, (-1)) else f_X10_lots_L28 cr_fuel q3.1 a1 a2 0 0 0))))
set_option maxRecDepth 100000 in
set_option maxHeartbeats 4000000 in
theorem w_X10_lots (C : cr_C p l e R s m args below meth c sfC 97 base D cA cX10_lots 6 RX10) (hr : meth.sig.returnType = some .int) (hR : 6 ≤ R.frames ∧ 143 ≤ R.locals) {res : cr_S × Int32} (σ : cr_S) (a1 : Int32) (a2 : Int32) (h : f_X10_lots σ a1 a2 = some res) : cr_W p l e R s m args below meth c sfC 97 base D cA 6 (MQ below (cr_Qi sfC 97 base D cA res) args s 0 0 (cr_A 97 base)) σ 0 [(0, .ref (base + 0)), (1, .int a1), (2, .int a2)] [] := by
  unfold f_X10_lots at h
  refine g_aload_n (pc' := 1) C dX10_lots_0 0 rfl rfl ?_
  refine g_iload_n (pc' := 2) C dX10_lots_1 1 rfl rfl ?_
  obtain ⟨q1, h2, h⟩ := bind_some h
  refine g_callVi (pc' := 5) (res := q1) C [.int a1] cY_X10_isShip rfl (o := 0) (by decide) rfl mv_X10_isShip mm_X10_103 ⟨Nat.le_trans (by decide) hR.1, Nat.le_trans (by decide) hR.2⟩ rfl (Nat.le_of_ble_eq_true rfl) rfl dX10_lots_2 (c_X10_isShip l base D cA σ a1 q1 h2) rfl ?_
  refine g_if_eq (pc' := 8) (tgt := 18) C dX10_lots_5 (by decide) rfl (fun hc => ?_) (fun hc => ?_)
  · rw [if_pos hc] at h
    refine g_iconst (pc' := 19) (v := (-1)) C dX10_lots_18 (by decide) rfl ?_
    exact g_iret C hr dX10_lots_19 h
  · rw [if_neg hc] at h
    refine g_iload_n (pc' := 9) C dX10_lots_8 2 rfl rfl ?_
    refine g_iconst (pc' := 10) (v := 1) C dX10_lots_9 (by decide) rfl ?_
    refine g_bipush (pc' := 12) (v := 99) C dX10_lots_10 (by decide) rfl ?_
    obtain ⟨q3, h4, h⟩ := bind_some h
    refine g_callSi (pc' := 15) (res := q3) C [.int a2, .int 1, .int 99] cY_X10_isWithin mv_X10_isWithin mm_X10_54 ⟨Nat.le_trans (by decide) hR.1, Nat.le_trans (by decide) hR.2⟩ rfl (Nat.le_of_ble_eq_true rfl) rfl dX10_lots_12 (c_X10_isWithin l base D cA q1.1 a2 1 99 q3 h4) rfl ?_
    refine g_if_ne (pc' := 18) (tgt := 20) C dX10_lots_15 (by decide) rfl (fun hc => ?_) (fun hc => ?_)
    · rw [if_neg hc] at h
      refine g_iconst (pc' := 21) (v := 0) C dX10_lots_20 (by decide) rfl ?_
      refine g_istore_n (pc' := 22) (lv' := [(3, .int 0), (0, .ref (base + 0)), (1, .int a1), (2, .int a2)]) C dX10_lots_21 rfl (by decide) rfl rfl ?_
      refine g_iconst (pc' := 23) (v := 0) C dX10_lots_22 (by decide) rfl ?_
      refine g_istore (pc' := 25) (lv' := [(4, .int 0), (3, .int 0), (0, .ref (base + 0)), (1, .int a1), (2, .int a2)]) C dX10_lots_23 (by decide) rfl rfl ?_
      refine g_iconst (pc' := 26) (v := 0) C dX10_lots_25 (by decide) rfl ?_
      refine g_istore (pc' := 28) (lv' := [(5, .int 0), (4, .int 0), (3, .int 0), (0, .ref (base + 0)), (1, .int a1), (2, .int a2)]) C dX10_lots_26 (by decide) rfl rfl ?_
      exact g_sub C [3, 4, 5, 2, 1, 0] rfl (w_X10_lots_L28 C hr hR _ _ _ _ _ _ _ h)
    · rw [if_pos hc] at h
      refine g_iconst (pc' := 19) (v := (-1)) C dX10_lots_18 (by decide) rfl ?_
      exact g_iret C hr dX10_lots_19 h
theorem c_X10_lots (l : Launch) (base : Nat) (D : va_G) (cA : Nat → ClassId) (σ : cr_S) (a1 : Int32) (a2 : Int32) (res : cr_S × Int32) (h : f_X10_lots σ a1 a2 = some res) : cr_M l yX10_lots cX10_lots 6 (some .int) 6 143 sfC 97 base D cA [.ref (base + 0), .int a1, .int a2] σ (cr_Qi sfC 97 base D cA res) := by
  refine cr_enter [.ref (base + 0), .int a1, .int a2] [(0, .ref (base + 0)), (1, .int a1), (2, .int a2)] (by decide) (Nat.le_of_ble_eq_true rfl) rfl ?_
  intro p e R s m below meth c C hr hR
  exact w_X10_lots C hr hR σ a1 a2 h
noncomputable def f_X10_isBegin (σ : cr_S) (a1 : Int32) (a2 : Int32) : Option (cr_S × Int32) :=
  Option.bind (f_X10_isShip σ a1) (fun q1 => (if q1.2 = 0 then some (q1.1, 0) else Option.bind (f_X10_isWithin q1.1 a2 0 9999) (fun q3 => (if q3.2 = 0 then some (q3.1, 0) else some (q3.1, 1)))))
set_option maxRecDepth 100000 in
set_option maxHeartbeats 4000000 in
theorem w_X10_isBegin (C : cr_C p l e R s m args below meth c sfC 97 base D cA cX10_isBegin 3 RX10) (hr : meth.sig.returnType = some .boolean) (hR : 2 ≤ R.frames ∧ 43 ≤ R.locals) {res : cr_S × Int32} (σ : cr_S) (a1 : Int32) (a2 : Int32) (h : f_X10_isBegin σ a1 a2 = some res) : cr_W p l e R s m args below meth c sfC 97 base D cA 3 (MQ below (cr_Qi sfC 97 base D cA res) args s 0 0 (cr_A 97 base)) σ 0 [(0, .ref (base + 0)), (1, .int a1), (2, .int a2)] [] := by
  unfold f_X10_isBegin at h
  refine g_aload_n (pc' := 1) C dX10_isBegin_0 0 rfl rfl ?_
  refine g_iload_n (pc' := 2) C dX10_isBegin_1 1 rfl rfl ?_
  obtain ⟨q1, h2, h⟩ := bind_some h
  refine g_callVi (pc' := 5) (res := q1) C [.int a1] cY_X10_isShip rfl (o := 0) (by decide) rfl mv_X10_isShip mm_X10_103 ⟨Nat.le_trans (by decide) hR.1, Nat.le_trans (by decide) hR.2⟩ rfl (Nat.le_of_ble_eq_true rfl) rfl dX10_isBegin_2 (c_X10_isShip l base D cA σ a1 q1 h2) rfl ?_
  refine g_if_eq (pc' := 8) (tgt := 23) C dX10_isBegin_5 (by decide) rfl (fun hc => ?_) (fun hc => ?_)
  · rw [if_pos hc] at h
    refine g_iconst (pc' := 24) (v := 0) C dX10_isBegin_23 (by decide) rfl ?_
    exact g_zret C hr rfl dX10_isBegin_24 h
  · rw [if_neg hc] at h
    refine g_iload_n (pc' := 9) C dX10_isBegin_8 2 rfl rfl ?_
    refine g_iconst (pc' := 10) (v := 0) C dX10_isBegin_9 (by decide) rfl ?_
    refine g_sipush (pc' := 13) (v := 9999) C dX10_isBegin_10 (by decide) rfl ?_
    obtain ⟨q3, h4, h⟩ := bind_some h
    refine g_callSi (pc' := 16) (res := q3) C [.int a2, .int 0, .int 9999] cY_X10_isWithin mv_X10_isWithin mm_X10_54 ⟨Nat.le_trans (by decide) hR.1, Nat.le_trans (by decide) hR.2⟩ rfl (Nat.le_of_ble_eq_true rfl) rfl dX10_isBegin_13 (c_X10_isWithin l base D cA q1.1 a2 0 9999 q3 h4) rfl ?_
    refine g_if_eq (pc' := 19) (tgt := 23) C dX10_isBegin_16 (by decide) rfl (fun hc => ?_) (fun hc => ?_)
    · rw [if_pos hc] at h
      refine g_iconst (pc' := 24) (v := 0) C dX10_isBegin_23 (by decide) rfl ?_
      exact g_zret C hr rfl dX10_isBegin_24 h
    · rw [if_neg hc] at h
      refine g_iconst (pc' := 20) (v := 1) C dX10_isBegin_19 (by decide) rfl ?_
      refine g_goto (tgt := 24) C dX10_isBegin_20 (by decide) ?_
      exact g_zret C hr rfl dX10_isBegin_24 h
theorem c_X10_isBegin (l : Launch) (base : Nat) (D : va_G) (cA : Nat → ClassId) (σ : cr_S) (a1 : Int32) (a2 : Int32) (res : cr_S × Int32) (h : f_X10_isBegin σ a1 a2 = some res) : cr_M l yX10_isBegin cX10_isBegin 3 (some .boolean) 2 43 sfC 97 base D cA [.ref (base + 0), .int a1, .int a2] σ (cr_Qi sfC 97 base D cA res) := by
  refine cr_enter [.ref (base + 0), .int a1, .int a2] [(0, .ref (base + 0)), (1, .int a1), (2, .int a2)] (by decide) (Nat.le_of_ble_eq_true rfl) rfl ?_
  intro p e R s m below meth c C hr hR
  exact w_X10_isBegin C hr hR σ a1 a2 h
noncomputable def f_X5_measure_74_B49 (r12 : cr_S → Nat → Int32 → Int32 → Option (cr_S)) (σ : cr_S) (x1 : Nat) (x2 : Int32) (x4 : Int32) (t0 : Int32) (t1 : Int32) : Option (cr_S) :=
  chk (inb t1 347) (cr_let (sA σ 83 t1 t0) (fun s10 => cr_let (x4 + (-1)) (fun v12 => r12 s10 x1 x2 v12)))
set_option maxRecDepth 100000 in
set_option maxHeartbeats 4000000 in
theorem w_X5_measure_74_B49 (C : cr_C p l e R s m args below meth c sfC 97 base D cA cX5_measure 5 RX5) (hr : meth.sig.returnType = none) (hR : 3 ≤ R.frames ∧ 65 ≤ R.locals) {res : cr_S} (r12 : cr_S → Nat → Int32 → Int32 → Option (cr_S)) (hr12 : ∀ (σ : cr_S) (x1 : Nat) (x2 : Int32) (x4 : Int32), r12 σ x1 x2 x4 = some res → cr_W p l e R s m args below meth c sfC 97 base D cA 5 (MQ below (cr_Qv sfC 97 base D cA res) args s 0 0 (cr_A 97 base)) σ 12 [(0, .ref (base + 74)), (1, .ref (base + x1)), (2, .int x2), (4, .int x4)] []) (σ : cr_S) (x1 : Nat) (x2 : Int32) (x4 : Int32) (t0 : Int32) (t1 : Int32) (h : f_X5_measure_74_B49 r12 σ x1 x2 x4 t0 t1 = some res) : cr_W p l e R s m args below meth c sfC 97 base D cA 5 (MQ below (cr_Qv sfC 97 base D cA res) args s 0 0 (cr_A 97 base)) σ 49 [(0, .ref (base + 74)), (1, .ref (base + x1)), (2, .int x2), (4, .int x4)] [.int t0, .int t1, .ref (base + 83)] := by
  unfold f_X5_measure_74_B49 at h
  obtain ⟨h9, h⟩ := chk_some h
  obtain ⟨s10, e11, h⟩ := let_some h
  refine g_iast (pc' := 50) C (o := 83) (by decide) rfl (inb_d h9) dX5_measure_49 rfl e11 ?_
  obtain ⟨v12, e13, h⟩ := let_some h
  refine g_iinc (pc' := 53) (v := v12) (lv' := [(4, .int v12), (0, .ref (base + 74)), (1, .ref (base + x1)), (2, .int x2)]) C dX5_measure_50 3 rfl (by rw [e13]; rfl) (by decide) rfl rfl ?_
  refine g_goto (tgt := 12) C dX5_measure_53 (by decide) ?_
  exact g_sub C [1, 2, 3, 0] rfl (hr12 _ _ _ _ h)
noncomputable def f_X5_measure_74_L12  : Nat → cr_S → Nat → Int32 → Int32 → Option (cr_S)
  | 0, _, _, _, _ => none
  | n + 1, σ, x1, x2, x4 =>
    (if x4 < 0 then some σ else Option.bind (f_X3_isOpenNow σ x1 (x2 + x4)) (fun q6 => chk (kC x1 = 3) ((if q6.2 = 0 then f_X5_measure_74_B49 (f_X5_measure_74_L12 n) q6.1 x1 x2 x4 0 x4 else chk (inb (x4 + 1) 347) (f_X5_measure_74_B49 (f_X5_measure_74_L12 n) q6.1 x1 x2 x4 ((rA q6.1 83 (x4 + 1)) + 1) x4)))))
set_option maxRecDepth 100000 in
set_option maxHeartbeats 4000000 in
theorem w_X5_measure_74_L12 (C : cr_C p l e R s m args below meth c sfC 97 base D cA cX5_measure 5 RX5) (hr : meth.sig.returnType = none) (hR : 3 ≤ R.frames ∧ 65 ≤ R.locals) {res : cr_S}  : ∀ (n : Nat) (σ : cr_S) (x1 : Nat) (x2 : Int32) (x4 : Int32), f_X5_measure_74_L12 n σ x1 x2 x4 = some res → cr_W p l e R s m args below meth c sfC 97 base D cA 5 (MQ below (cr_Qv sfC 97 base D cA res) args s 0 0 (cr_A 97 base)) σ 12 [(0, .ref (base + 74)), (1, .ref (base + x1)), (2, .int x2), (4, .int x4)] [] := by
  intro n
  induction n with
  | zero =>
    intro σ x1 x2 x4 h
    cases h
  | succ n ih =>
    intro σ x1 x2 x4 h
    rw [f_X5_measure_74_L12] at h
    refine g_iload (pc' := 14) C dX5_measure_12 3 rfl rfl ?_
    refine g_if_lt (pc' := 17) (tgt := 56) C dX5_measure_14 (by decide) rfl (fun hc => ?_) (fun hc => ?_)
    · rw [if_pos hc] at h
      exact g_vret C hr dX5_measure_56 h
    · rw [if_neg hc] at h
      refine g_aload_n (pc' := 18) C dX5_measure_17 0 rfl rfl ?_
      refine gg_X5_16 (pc' := 21) (o := 74) (r := 83) C rfl rfl dX5_measure_18 rfl ?_
      refine g_iload (pc' := 23) C dX5_measure_21 3 rfl rfl ?_
      refine g_aload_n (pc' := 24) C dX5_measure_23 1 rfl rfl ?_
      refine g_iload_n (pc' := 25) C dX5_measure_24 2 rfl rfl ?_
      refine g_iload (pc' := 27) C dX5_measure_25 3 rfl rfl ?_
      refine g_iadd (pc' := 28) C dX5_measure_27 rfl ?_
      obtain ⟨q6, h7, h⟩ := bind_some h
      obtain ⟨h8, h⟩ := chk_some h
      refine g_callVi (pc' := 31) (res := q6) C [.int (x2 + x4)] cY_X3_isOpenNow rfl (o := x1) (kC_lt h8 (by decide)) (sfC_3 h8) mv_X3_isOpenNow mm_X5_52 ⟨Nat.le_trans (by decide) hR.1, Nat.le_trans (by decide) hR.2⟩ rfl (Nat.le_of_ble_eq_true rfl) rfl dX5_measure_28 (c_X3_isOpenNow l base D cA σ x1 (x2 + x4) q6 h7) rfl ?_
      refine g_if_eq (pc' := 34) (tgt := 48) C dX5_measure_31 (by decide) rfl (fun hc => ?_) (fun hc => ?_)
      · rw [if_pos hc] at h
        refine g_iconst (pc' := 49) (v := 0) C dX5_measure_48 (by decide) rfl ?_
        exact g_sub C [0, 1, 2, 3] rfl (w_X5_measure_74_B49 C hr hR (f_X5_measure_74_L12 n) ih _ _ _ _ _ _ h)
      · rw [if_neg hc] at h
        refine g_aload_n (pc' := 35) C dX5_measure_34 0 rfl rfl ?_
        refine gg_X5_16 (pc' := 38) (o := 74) (r := 83) C rfl rfl dX5_measure_35 rfl ?_
        refine g_iload (pc' := 40) C dX5_measure_38 3 rfl rfl ?_
        refine g_iconst (pc' := 41) (v := 1) C dX5_measure_40 (by decide) rfl ?_
        refine g_iadd (pc' := 42) C dX5_measure_41 rfl ?_
        obtain ⟨h14, h⟩ := chk_some h
        refine g_iald (pc' := 43) C (o := 83) (by decide) rfl (inb_d h14) dX5_measure_42 rfl ?_
        refine g_iconst (pc' := 44) (v := 1) C dX5_measure_43 (by decide) rfl ?_
        refine g_iadd (pc' := 45) C dX5_measure_44 rfl ?_
        refine g_goto (tgt := 49) C dX5_measure_45 (by decide) ?_
        exact g_sub C [0, 1, 2, 3] rfl (w_X5_measure_74_B49 C hr hR (f_X5_measure_74_L12 n) ih _ _ _ _ _ _ h)
noncomputable def f_X5_measure_74 (σ : cr_S) (o1 : Nat) (a2 : Int32) (a3 : Int32) : Option (cr_S) :=
  chk (inb a3 347) (cr_let (sA σ 83 a3 0) (fun s2 => cr_let (a3 - 1) (fun v4 => f_X5_measure_74_L12 cr_fuel s2 o1 a2 v4)))
set_option maxRecDepth 100000 in
set_option maxHeartbeats 4000000 in
theorem w_X5_measure_74 (C : cr_C p l e R s m args below meth c sfC 97 base D cA cX5_measure 5 RX5) (hr : meth.sig.returnType = none) (hR : 3 ≤ R.frames ∧ 65 ≤ R.locals) {res : cr_S} (σ : cr_S) (o1 : Nat) (a2 : Int32) (a3 : Int32) (h : f_X5_measure_74 σ o1 a2 a3 = some res) : cr_W p l e R s m args below meth c sfC 97 base D cA 5 (MQ below (cr_Qv sfC 97 base D cA res) args s 0 0 (cr_A 97 base)) σ 0 [(0, .ref (base + 74)), (1, .ref (base + o1)), (2, .int a2), (3, .int a3)] [] := by
  unfold f_X5_measure_74 at h
  refine g_aload_n (pc' := 1) C dX5_measure_0 0 rfl rfl ?_
  refine gg_X5_16 (pc' := 4) (o := 74) (r := 83) C rfl rfl dX5_measure_1 rfl ?_
  refine g_iload_n (pc' := 5) C dX5_measure_4 3 rfl rfl ?_
  refine g_iconst (pc' := 6) (v := 0) C dX5_measure_5 (by decide) rfl ?_
  obtain ⟨h1, h⟩ := chk_some h
  obtain ⟨s2, e3, h⟩ := let_some h
  refine g_iast (pc' := 7) C (o := 83) (by decide) rfl (inb_d h1) dX5_measure_6 rfl e3 ?_
  refine g_iload_n (pc' := 8) C dX5_measure_7 3 rfl rfl ?_
  refine g_iconst (pc' := 9) (v := 1) C dX5_measure_8 (by decide) rfl ?_
  refine g_isub (pc' := 10) C dX5_measure_9 rfl ?_
  obtain ⟨v4, e5, h⟩ := let_some h
  refine g_nameI e5 ?_
  refine g_istore (pc' := 12) (lv' := [(4, .int v4), (0, .ref (base + 74)), (1, .ref (base + o1)), (2, .int a2), (3, .int a3)]) C dX5_measure_10 (by decide) rfl rfl ?_
  exact g_sub C [1, 2, 3, 0] rfl (w_X5_measure_74_L12 C hr hR _ _ _ _ _ h)
theorem c_X5_measure_74 (l : Launch) (base : Nat) (D : va_G) (cA : Nat → ClassId) (σ : cr_S) (o1 : Nat) (a2 : Int32) (a3 : Int32) (res : cr_S) (h : f_X5_measure_74 σ o1 a2 a3 = some res) : cr_M l yX5_measure cX5_measure 5 none 3 65 sfC 97 base D cA [.ref (base + 74), .ref (base + o1), .int a2, .int a3] σ (cr_Qv sfC 97 base D cA res) := by
  refine cr_enter [.ref (base + 74), .ref (base + o1), .int a2, .int a3] [(0, .ref (base + 74)), (1, .ref (base + o1)), (2, .int a2), (3, .int a3)] (by decide) (Nat.le_of_ble_eq_true rfl) rfl ?_
  intro p e R s m below meth c C hr hR
  exact w_X5_measure_74 C hr hR σ o1 a2 a3 h
noncomputable def f_X5_behindBy_74 (σ : cr_S) (o1 : Nat) (o2 : Nat) (a3 : Int32) (a4 : Int32) : Option (cr_S × Int32) :=
  chk (kC o1 = 3) (Option.bind (f_X10_secondsFor σ (rF σ o1 1) a4) (fun q2 => cr_let (a3 + q2.2) (fun v4 => Option.bind (f_X6_span q2.1 o2) (fun q6 => chk (kC o2 = 6) (Option.bind (f_X10_secondsFor q6.1 q6.2 a4) (fun q9 => cr_let q9.2 (fun v11 => (if 346 ≤ (v4 + v11) then some (q9.1, 1000000) else chk (inb v4 347) ((if (rA q9.1 83 v4) < v11 then some (q9.1, 1000000) else some (q9.1, v4 + v11)))))))))))
set_option maxRecDepth 100000 in
set_option maxHeartbeats 4000000 in
theorem w_X5_behindBy_74 (C : cr_C p l e R s m args below meth c sfC 97 base D cA cX5_behindBy 7 RX5) (hr : meth.sig.returnType = some .int) (hR : 1 ≤ R.frames ∧ 21 ≤ R.locals) {res : cr_S × Int32} (σ : cr_S) (o1 : Nat) (o2 : Nat) (a3 : Int32) (a4 : Int32) (h : f_X5_behindBy_74 σ o1 o2 a3 a4 = some res) : cr_W p l e R s m args below meth c sfC 97 base D cA 7 (MQ below (cr_Qi sfC 97 base D cA res) args s 0 0 (cr_A 97 base)) σ 0 [(0, .ref (base + 74)), (1, .ref (base + o1)), (2, .ref (base + o2)), (3, .int a3), (4, .int a4)] [] := by
  unfold f_X5_behindBy_74 at h
  refine g_iload_n (pc' := 1) C dX5_behindBy_0 3 rfl rfl ?_
  refine g_aload_n (pc' := 2) C dX5_behindBy_1 1 rfl rfl ?_
  obtain ⟨h1, h⟩ := chk_some h
  refine gg_X5_58 (pc' := 5) (o := o1) C h1 dX5_behindBy_2 rfl ?_
  refine g_iload (pc' := 7) C dX5_behindBy_5 4 rfl rfl ?_
  obtain ⟨q2, h3, h⟩ := bind_some h
  refine g_callNi (pc' := 10) (res := q2) C [.int (rF σ o1 1), .int a4] cY_X10_secondsFor mv_X10_secondsFor mn_X5_61 ⟨Nat.le_trans (by decide) hR.1, Nat.le_trans (by decide) hR.2⟩ rfl (Nat.le_of_ble_eq_true rfl) rfl dX5_behindBy_7 (c_X10_secondsFor l base D cA σ (rF σ o1 1) a4 q2 h3) rfl ?_
  refine g_iadd (pc' := 11) C dX5_behindBy_10 rfl ?_
  obtain ⟨v4, e5, h⟩ := let_some h
  refine g_nameI e5 ?_
  refine g_istore (pc' := 13) (lv' := [(5, .int v4), (0, .ref (base + 74)), (1, .ref (base + o1)), (2, .ref (base + o2)), (3, .int a3), (4, .int a4)]) C dX5_behindBy_11 (by decide) rfl rfl ?_
  refine g_aload_n (pc' := 14) C dX5_behindBy_13 3 rfl rfl ?_
  obtain ⟨q6, h7, h⟩ := bind_some h
  obtain ⟨h8, h⟩ := chk_some h
  refine g_callVi (pc' := 17) (res := q6) C [] cY_X6_span rfl (o := o2) (kC_lt h8 (by decide)) (sfC_6 h8) mv_X6_span mm_X5_65 ⟨Nat.le_trans (by decide) hR.1, Nat.le_trans (by decide) hR.2⟩ rfl (Nat.le_of_ble_eq_true rfl) rfl dX5_behindBy_14 (c_X6_span l base D cA q2.1 o2 q6 h7) rfl ?_
  refine g_iload (pc' := 19) C dX5_behindBy_17 5 rfl rfl ?_
  obtain ⟨q9, h10, h⟩ := bind_some h
  refine g_callNi (pc' := 22) (res := q9) C [.int q6.2, .int a4] cY_X10_secondsFor mv_X10_secondsFor mn_X5_61 ⟨Nat.le_trans (by decide) hR.1, Nat.le_trans (by decide) hR.2⟩ rfl (Nat.le_of_ble_eq_true rfl) rfl dX5_behindBy_19 (c_X10_secondsFor l base D cA q6.1 q6.2 a4 q9 h10) rfl ?_
  obtain ⟨v11, e12, h⟩ := let_some h
  refine g_nameI e12 ?_
  refine g_istore (pc' := 24) (lv' := [(6, .int v11), (5, .int v4), (0, .ref (base + 74)), (1, .ref (base + o1)), (2, .ref (base + o2)), (3, .int a3), (4, .int a4)]) C dX5_behindBy_22 (by decide) rfl rfl ?_
  refine g_iload (pc' := 26) C dX5_behindBy_24 1 rfl rfl ?_
  refine g_iload (pc' := 28) C dX5_behindBy_26 0 rfl rfl ?_
  refine g_iadd (pc' := 29) C dX5_behindBy_28 rfl ?_
  refine g_sipush (pc' := 32) (v := 346) C dX5_behindBy_29 (by decide) rfl ?_
  refine g_icmp_ge (pc' := 35) (tgt := 55) C dX5_behindBy_32 (by decide) rfl (fun hc => ?_) (fun hc => ?_)
  · rw [if_pos hc] at h
    refine g_ldc (pc' := 57) (v := 1000000) C dX5_behindBy_55 mk_X5_41 rfl ?_
    exact g_iret C hr dX5_behindBy_57 h
  · rw [if_neg hc] at h
    refine g_aload_n (pc' := 36) C dX5_behindBy_35 2 rfl rfl ?_
    refine gg_X5_16 (pc' := 39) (o := 74) (r := 83) C rfl rfl dX5_behindBy_36 rfl ?_
    refine g_iload (pc' := 41) C dX5_behindBy_39 1 rfl rfl ?_
    obtain ⟨h13, h⟩ := chk_some h
    refine g_iald (pc' := 42) C (o := 83) (by decide) rfl (inb_d h13) dX5_behindBy_41 rfl ?_
    refine g_iload (pc' := 44) C dX5_behindBy_42 0 rfl rfl ?_
    refine g_icmp_lt (pc' := 47) (tgt := 55) C dX5_behindBy_44 (by decide) rfl (fun hc => ?_) (fun hc => ?_)
    · rw [if_pos hc] at h
      refine g_ldc (pc' := 57) (v := 1000000) C dX5_behindBy_55 mk_X5_41 rfl ?_
      exact g_iret C hr dX5_behindBy_57 h
    · rw [if_neg hc] at h
      refine g_iload (pc' := 49) C dX5_behindBy_47 1 rfl rfl ?_
      refine g_iload (pc' := 51) C dX5_behindBy_49 0 rfl rfl ?_
      refine g_iadd (pc' := 52) C dX5_behindBy_51 rfl ?_
      refine g_goto (tgt := 57) C dX5_behindBy_52 (by decide) ?_
      exact g_iret C hr dX5_behindBy_57 h
theorem c_X5_behindBy_74 (l : Launch) (base : Nat) (D : va_G) (cA : Nat → ClassId) (σ : cr_S) (o1 : Nat) (o2 : Nat) (a3 : Int32) (a4 : Int32) (res : cr_S × Int32) (h : f_X5_behindBy_74 σ o1 o2 a3 a4 = some res) : cr_M l yX5_behindBy cX5_behindBy 7 (some .int) 1 21 sfC 97 base D cA [.ref (base + 74), .ref (base + o1), .ref (base + o2), .int a3, .int a4] σ (cr_Qi sfC 97 base D cA res) := by
  refine cr_enter [.ref (base + 74), .ref (base + o1), .ref (base + o2), .int a3, .int a4] [(0, .ref (base + 74)), (1, .ref (base + o1)), (2, .ref (base + o2)), (3, .int a3), (4, .int a4)] (by decide) (Nat.le_of_ble_eq_true rfl) rfl ?_
  intro p e R s m below meth c C hr hR
  exact w_X5_behindBy_74 C hr hR σ o1 o2 a3 a4 h
noncomputable def f_X5_firstPace_74_B61  (σ : cr_S) (x2 : Nat) : Option (cr_S × Int32) :=
  Option.bind (f_X6_high σ x2) (fun q9 => chk (kC x2 = 6) (some (q9.1, q9.2)))
set_option maxRecDepth 100000 in
set_option maxHeartbeats 4000000 in
theorem w_X5_firstPace_74_B61 (C : cr_C p l e R s m args below meth c sfC 97 base D cA cX5_firstPace 7 RX5) (hr : meth.sig.returnType = some .int) (hR : 2 ≤ R.frames ∧ 47 ≤ R.locals) {res : cr_S × Int32}  (σ : cr_S) (x2 : Nat) (h : f_X5_firstPace_74_B61 σ x2 = some res) : cr_W p l e R s m args below meth c sfC 97 base D cA 7 (MQ below (cr_Qi sfC 97 base D cA res) args s 0 0 (cr_A 97 base)) σ 61 [(2, .ref (base + x2))] [] := by
  unfold f_X5_firstPace_74_B61 at h
  refine g_aload_n (pc' := 62) C dX5_firstPace_61 0 rfl rfl ?_
  obtain ⟨q9, h10, h⟩ := bind_some h
  obtain ⟨h11, h⟩ := chk_some h
  refine g_callVi (pc' := 65) (res := q9) C [] cY_X6_high rfl (o := x2) (kC_lt h11 (by decide)) (sfC_6 h11) mv_X6_high mm_X5_74 ⟨Nat.le_trans (by decide) hR.1, Nat.le_trans (by decide) hR.2⟩ rfl (Nat.le_of_ble_eq_true rfl) rfl dX5_firstPace_62 (c_X6_high l base D cA σ x2 q9 h10) rfl ?_
  exact g_iret C hr dX5_firstPace_65 h
noncomputable def f_X5_firstPace_74_B55 (r6 : cr_S → Nat → Nat → Int32 → Int32 → Int32 → Option (cr_S × Int32)) (σ : cr_S) (x1 : Nat) (x2 : Nat) (x3 : Int32) (x4 : Int32) (x5 : Int32) : Option (cr_S × Int32) :=
  cr_let (x5 + 1) (fun v16 => r6 σ x1 x2 x3 x4 v16)
set_option maxRecDepth 100000 in
set_option maxHeartbeats 4000000 in
theorem w_X5_firstPace_74_B55 (C : cr_C p l e R s m args below meth c sfC 97 base D cA cX5_firstPace 7 RX5) (hr : meth.sig.returnType = some .int) (hR : 2 ≤ R.frames ∧ 47 ≤ R.locals) {res : cr_S × Int32} (r6 : cr_S → Nat → Nat → Int32 → Int32 → Int32 → Option (cr_S × Int32)) (hr6 : ∀ (σ : cr_S) (x1 : Nat) (x2 : Nat) (x3 : Int32) (x4 : Int32) (x5 : Int32), r6 σ x1 x2 x3 x4 x5 = some res → cr_W p l e R s m args below meth c sfC 97 base D cA 7 (MQ below (cr_Qi sfC 97 base D cA res) args s 0 0 (cr_A 97 base)) σ 6 [(0, .ref (base + 74)), (1, .ref (base + x1)), (2, .ref (base + x2)), (3, .int x3), (4, .int x4), (5, .int x5)] []) (σ : cr_S) (x1 : Nat) (x2 : Nat) (x3 : Int32) (x4 : Int32) (x5 : Int32) (h : f_X5_firstPace_74_B55 r6 σ x1 x2 x3 x4 x5 = some res) : cr_W p l e R s m args below meth c sfC 97 base D cA 7 (MQ below (cr_Qi sfC 97 base D cA res) args s 0 0 (cr_A 97 base)) σ 55 [(0, .ref (base + 74)), (1, .ref (base + x1)), (2, .ref (base + x2)), (3, .int x3), (4, .int x4), (5, .int x5)] [] := by
  unfold f_X5_firstPace_74_B55 at h
  obtain ⟨v16, e17, h⟩ := let_some h
  refine g_iinc (pc' := 58) (v := v16) (lv' := [(5, .int v16), (0, .ref (base + 74)), (1, .ref (base + x1)), (2, .ref (base + x2)), (3, .int x3), (4, .int x4)]) C dX5_firstPace_55 5 rfl (by rw [e17]; rfl) (by decide) rfl rfl ?_
  refine g_goto (tgt := 6) C dX5_firstPace_58 (by decide) ?_
  exact g_sub C [1, 2, 3, 4, 5, 0] rfl (hr6 _ _ _ _ _ _ h)
noncomputable def f_X5_firstPace_74_L6  : Nat → cr_S → Nat → Nat → Int32 → Int32 → Int32 → Option (cr_S × Int32)
  | 0, _, _, _, _, _, _ => none
  | n + 1, σ, x1, x2, x3, x4, x5 =>
    Option.bind (f_X6_high σ x2) (fun q6 => chk (kC x2 = 6) ((if q6.2 ≤ x5 then f_X5_firstPace_74_B61 q6.1 x2 else Option.bind (f_X5_behindBy_74 q6.1 x1 x2 x4 x5) (fun q12 => cr_let q12.2 (fun v14 => (if v14 = 1000000 then f_X5_firstPace_74_B55 (f_X5_firstPace_74_L6 n) q12.1 x1 x2 x3 x4 x5 else chk (inb (x3 + 1) 7) (chk (kC (76 + (x3 + 1).toNatClampNeg) = 1346) (chk (inb v14 346) ((if (rA q12.1 (76 + (x3 + 1).toNatClampNeg) v14) = (rF q12.1 74 4) then some (q12.1, x5) else f_X5_firstPace_74_B55 (f_X5_firstPace_74_L6 n) q12.1 x1 x2 x3 x4 x5))))))))))
set_option maxRecDepth 100000 in
set_option maxHeartbeats 4000000 in
theorem w_X5_firstPace_74_L6 (C : cr_C p l e R s m args below meth c sfC 97 base D cA cX5_firstPace 7 RX5) (hr : meth.sig.returnType = some .int) (hR : 2 ≤ R.frames ∧ 47 ≤ R.locals) {res : cr_S × Int32}  : ∀ (n : Nat) (σ : cr_S) (x1 : Nat) (x2 : Nat) (x3 : Int32) (x4 : Int32) (x5 : Int32), f_X5_firstPace_74_L6 n σ x1 x2 x3 x4 x5 = some res → cr_W p l e R s m args below meth c sfC 97 base D cA 7 (MQ below (cr_Qi sfC 97 base D cA res) args s 0 0 (cr_A 97 base)) σ 6 [(0, .ref (base + 74)), (1, .ref (base + x1)), (2, .ref (base + x2)), (3, .int x3), (4, .int x4), (5, .int x5)] [] := by
  intro n
  induction n with
  | zero =>
    intro σ x1 x2 x3 x4 x5 h
    cases h
  | succ n ih =>
    intro σ x1 x2 x3 x4 x5 h
    rw [f_X5_firstPace_74_L6] at h
    refine g_iload (pc' := 8) C dX5_firstPace_6 5 rfl rfl ?_
    refine g_aload_n (pc' := 9) C dX5_firstPace_8 2 rfl rfl ?_
    obtain ⟨q6, h7, h⟩ := bind_some h
    obtain ⟨h8, h⟩ := chk_some h
    refine g_callVi (pc' := 12) (res := q6) C [] cY_X6_high rfl (o := x2) (kC_lt h8 (by decide)) (sfC_6 h8) mv_X6_high mm_X5_74 ⟨Nat.le_trans (by decide) hR.1, Nat.le_trans (by decide) hR.2⟩ rfl (Nat.le_of_ble_eq_true rfl) rfl dX5_firstPace_9 (c_X6_high l base D cA σ x2 q6 h7) rfl ?_
    refine g_icmp_ge (pc' := 15) (tgt := 61) C dX5_firstPace_12 (by decide) rfl (fun hc => ?_) (fun hc => ?_)
    · rw [if_pos hc] at h
      exact g_sub C [2] rfl (w_X5_firstPace_74_B61 C hr hR _ _ h)
    · rw [if_neg hc] at h
      refine g_aload_n (pc' := 16) C dX5_firstPace_15 0 rfl rfl ?_
      refine g_aload_n (pc' := 17) C dX5_firstPace_16 1 rfl rfl ?_
      refine g_aload_n (pc' := 18) C dX5_firstPace_17 2 rfl rfl ?_
      refine g_iload (pc' := 20) C dX5_firstPace_18 4 rfl rfl ?_
      refine g_iload (pc' := 22) C dX5_firstPace_20 5 rfl rfl ?_
      obtain ⟨q12, h13, h⟩ := bind_some h
      refine g_callVi (pc' := 25) (res := q12) C [.ref (base + x1), .ref (base + x2), .int x4, .int x5] cY_X5_behindBy rfl (o := 74) (by decide) rfl mv_X5_behindBy mm_X5_77 ⟨Nat.le_trans (by decide) hR.1, Nat.le_trans (by decide) hR.2⟩ rfl (Nat.le_of_ble_eq_true rfl) rfl dX5_firstPace_22 (c_X5_behindBy_74 l base D cA q6.1 x1 x2 x4 x5 q12 h13) rfl ?_
      obtain ⟨v14, e15, h⟩ := let_some h
      refine g_nameI e15 ?_
      refine g_istore (pc' := 27) (lv' := [(6, .int v14), (0, .ref (base + 74)), (1, .ref (base + x1)), (2, .ref (base + x2)), (3, .int x3), (4, .int x4), (5, .int x5)]) C dX5_firstPace_25 (by decide) rfl rfl ?_
      refine g_iload (pc' := 29) C dX5_firstPace_27 0 rfl rfl ?_
      refine g_ldc (pc' := 31) (v := 1000000) C dX5_firstPace_29 mk_X5_41 rfl ?_
      refine g_icmp_eq (pc' := 34) (tgt := 55) C dX5_firstPace_31 (by decide) rfl (fun hc => ?_) (fun hc => ?_)
      · rw [if_pos hc] at h
        exact g_sub C [1, 2, 3, 4, 5, 6] rfl (w_X5_firstPace_74_B55 C hr hR (f_X5_firstPace_74_L6 n) ih _ _ _ _ _ _ h)
      · rw [if_neg hc] at h
        refine g_aload_n (pc' := 35) C dX5_firstPace_34 1 rfl rfl ?_
        refine gg_X5_11 (pc' := 38) (o := 74) (r := 75) C rfl rfl dX5_firstPace_35 rfl ?_
        refine g_iload_n (pc' := 39) C dX5_firstPace_38 4 rfl rfl ?_
        refine g_iconst (pc' := 40) (v := 1) C dX5_firstPace_39 (by decide) rfl ?_
        refine g_iadd (pc' := 41) C dX5_firstPace_40 rfl ?_
        obtain ⟨h18, h⟩ := chk_some h
        refine g_aaldA (pc' := 42) C (o := 75) (by decide) rfl (inb_d h18) dX5_firstPace_41 rfl ?_
        refine g_iload (pc' := 44) C dX5_firstPace_42 0 rfl rfl ?_
        obtain ⟨h19, h⟩ := chk_some h
        obtain ⟨h20, h⟩ := chk_some h
        refine g_iald (pc' := 45) C (o := 76 + (x3 + 1).toNatClampNeg) (kC_lt h19 (by decide)) (sfC_1346 h19) (inb_d h20) dX5_firstPace_44 rfl ?_
        refine g_aload_n (pc' := 46) C dX5_firstPace_45 1 rfl rfl ?_
        refine gg_X5_42 (pc' := 49) (o := 74) C rfl dX5_firstPace_46 rfl ?_
        refine g_icmp_ne (pc' := 52) (tgt := 55) C dX5_firstPace_49 (by decide) rfl (fun hc => ?_) (fun hc => ?_)
        · rw [if_neg hc] at h
          exact g_sub C [1, 2, 3, 4, 5, 6] rfl (w_X5_firstPace_74_B55 C hr hR (f_X5_firstPace_74_L6 n) ih _ _ _ _ _ _ h)
        · rw [if_pos hc] at h
          refine g_iload (pc' := 54) C dX5_firstPace_52 6 rfl rfl ?_
          exact g_iret C hr dX5_firstPace_54 h
noncomputable def f_X5_firstPace_74 (σ : cr_S) (o1 : Nat) (o2 : Nat) (a3 : Int32) (a4 : Int32) : Option (cr_S × Int32) :=
  Option.bind (f_X6_low σ o2) (fun q1 => chk (kC o2 = 6) (cr_let q1.2 (fun v4 => f_X5_firstPace_74_L6 cr_fuel q1.1 o1 o2 a3 a4 v4)))
set_option maxRecDepth 100000 in
set_option maxHeartbeats 4000000 in
theorem w_X5_firstPace_74 (C : cr_C p l e R s m args below meth c sfC 97 base D cA cX5_firstPace 7 RX5) (hr : meth.sig.returnType = some .int) (hR : 2 ≤ R.frames ∧ 47 ≤ R.locals) {res : cr_S × Int32} (σ : cr_S) (o1 : Nat) (o2 : Nat) (a3 : Int32) (a4 : Int32) (h : f_X5_firstPace_74 σ o1 o2 a3 a4 = some res) : cr_W p l e R s m args below meth c sfC 97 base D cA 7 (MQ below (cr_Qi sfC 97 base D cA res) args s 0 0 (cr_A 97 base)) σ 0 [(0, .ref (base + 74)), (1, .ref (base + o1)), (2, .ref (base + o2)), (3, .int a3), (4, .int a4)] [] := by
  unfold f_X5_firstPace_74 at h
  refine g_aload_n (pc' := 1) C dX5_firstPace_0 2 rfl rfl ?_
  obtain ⟨q1, h2, h⟩ := bind_some h
  obtain ⟨h3, h⟩ := chk_some h
  refine g_callVi (pc' := 4) (res := q1) C [] cY_X6_low rfl (o := o2) (kC_lt h3 (by decide)) (sfC_6 h3) mv_X6_low mm_X5_71 ⟨Nat.le_trans (by decide) hR.1, Nat.le_trans (by decide) hR.2⟩ rfl (Nat.le_of_ble_eq_true rfl) rfl dX5_firstPace_1 (c_X6_low l base D cA σ o2 q1 h2) rfl ?_
  obtain ⟨v4, e5, h⟩ := let_some h
  refine g_nameI e5 ?_
  refine g_istore (pc' := 6) (lv' := [(5, .int v4), (0, .ref (base + 74)), (1, .ref (base + o1)), (2, .ref (base + o2)), (3, .int a3), (4, .int a4)]) C dX5_firstPace_4 (by decide) rfl rfl ?_
  exact g_sub C [1, 2, 3, 4, 5, 0] rfl (w_X5_firstPace_74_L6 C hr hR _ _ _ _ _ _ _ h)
theorem c_X5_firstPace_74 (l : Launch) (base : Nat) (D : va_G) (cA : Nat → ClassId) (σ : cr_S) (o1 : Nat) (o2 : Nat) (a3 : Int32) (a4 : Int32) (res : cr_S × Int32) (h : f_X5_firstPace_74 σ o1 o2 a3 a4 = some res) : cr_M l yX5_firstPace cX5_firstPace 7 (some .int) 2 47 sfC 97 base D cA [.ref (base + 74), .ref (base + o1), .ref (base + o2), .int a3, .int a4] σ (cr_Qi sfC 97 base D cA res) := by
  refine cr_enter [.ref (base + 74), .ref (base + o1), .ref (base + o2), .int a3, .int a4] [(0, .ref (base + 74)), (1, .ref (base + o1)), (2, .ref (base + o2)), (3, .int a3), (4, .int a4)] (by decide) (Nat.le_of_ble_eq_true rfl) rfl ?_
  intro p e R s m below meth c C hr hR
  exact w_X5_firstPace_74 C hr hR σ o1 o2 a3 a4 h
end

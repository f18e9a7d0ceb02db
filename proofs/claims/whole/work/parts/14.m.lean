section
variable {p : Program} {l : Launch} {e : Env} {R : Room} {s : State} {m : MethodId} {args : Array Value} {below : List Frame} {meth : Method} {c : Code} {base : Nat} {D : va_G} {cA : Nat → ClassId}
noncomputable def f_X11_common_L4  : Nat → cr_S → Int32 → Int32 → Option (cr_S × Int32)
  | 0, _, _, _ => none
  | n + 1, σ, x2, x3 =>
    (if x3 = 0 then some (σ, x2) else chk (¬ x3 = 0) (cr_let (x2 - x2 / x3 * x3) (fun v2 => f_X11_common_L4 n σ x3 v2)))
set_option maxRecDepth 100000 in
set_option maxHeartbeats 4000000 in
theorem w_X11_common_L4 (C : cr_C p l e R s m args below meth c sfM 17 base D cA cX11_common 5 RX11) (hr : meth.sig.returnType = some .int) (hR : 0 ≤ R.frames ∧ 0 ≤ R.locals) {res : cr_S × Int32}  : ∀ (n : Nat) (σ : cr_S) (x2 : Int32) (x3 : Int32), f_X11_common_L4 n σ x2 x3 = some res → cr_W p l e R s m args below meth c sfM 17 base D cA 5 (MQ below (cr_Qi sfM 17 base D cA res) args s 0 0 (cr_A 17 base)) σ 4 [(2, .int x2), (3, .int x3)] [] := by
  intro n
  induction n with
  | zero =>
    intro σ x2 x3 h
    cases h
  | succ n ih =>
    intro σ x2 x3 h
    rw [f_X11_common_L4] at h
    refine g_iload_n (pc' := 5) C dX11_common_4 1 rfl rfl ?_
    refine g_if_eq (pc' := 8) (tgt := 21) C dX11_common_5 (by decide) rfl (fun hc => ?_) (fun hc => ?_)
    · rw [if_pos hc] at h
      refine g_iload_n (pc' := 22) C dX11_common_21 0 rfl rfl ?_
      exact g_iret C hr dX11_common_22 h
    · rw [if_neg hc] at h
      refine g_iload_n (pc' := 9) C dX11_common_8 0 rfl rfl ?_
      refine g_iload_n (pc' := 10) C dX11_common_9 1 rfl rfl ?_
      obtain ⟨h1, h⟩ := chk_some h
      refine g_irem (pc' := 11) C dX11_common_10 h1 rfl ?_
      obtain ⟨v2, e3, h⟩ := let_some h
      refine g_nameI e3 ?_
      refine g_istore (pc' := 13) (lv' := [(4, .int v2), (2, .int x2), (3, .int x3)]) C dX11_common_11 (by decide) rfl rfl ?_
      refine g_iload_n (pc' := 14) C dX11_common_13 2 rfl rfl ?_
      refine g_istore_n (pc' := 15) (lv' := [(2, .int x3), (4, .int v2), (3, .int x3)]) C dX11_common_14 rfl (by decide) rfl rfl ?_
      refine g_iload (pc' := 17) C dX11_common_15 1 rfl rfl ?_
      refine g_istore_n (pc' := 18) (lv' := [(3, .int v2), (2, .int x3), (4, .int v2)]) C dX11_common_17 rfl (by decide) rfl rfl ?_
      refine g_goto (tgt := 4) C dX11_common_18 (by decide) ?_
      exact g_sub C [1, 0] rfl (ih _ _ _ h)
noncomputable def f_X11_common (σ : cr_S) (a0 : Int32) (a1 : Int32) : Option (cr_S × Int32) :=
  f_X11_common_L4 cr_fuel σ a0 a1
set_option maxRecDepth 100000 in
set_option maxHeartbeats 4000000 in
theorem w_X11_common (C : cr_C p l e R s m args below meth c sfM 17 base D cA cX11_common 5 RX11) (hr : meth.sig.returnType = some .int) (hR : 0 ≤ R.frames ∧ 0 ≤ R.locals) {res : cr_S × Int32} (σ : cr_S) (a0 : Int32) (a1 : Int32) (h : f_X11_common σ a0 a1 = some res) : cr_W p l e R s m args below meth c sfM 17 base D cA 5 (MQ below (cr_Qi sfM 17 base D cA res) args s 0 0 (cr_A 17 base)) σ 0 [(0, .int a0), (1, .int a1)] [] := by
  unfold f_X11_common at h
  refine g_iload_n (pc' := 1) C dX11_common_0 0 rfl rfl ?_
  refine g_istore_n (pc' := 2) (lv' := [(2, .int a0), (0, .int a0), (1, .int a1)]) C dX11_common_1 rfl (by decide) rfl rfl ?_
  refine g_iload_n (pc' := 3) C dX11_common_2 2 rfl rfl ?_
  refine g_istore_n (pc' := 4) (lv' := [(3, .int a1), (2, .int a0), (0, .int a0), (1, .int a1)]) C dX11_common_3 rfl (by decide) rfl rfl ?_
  exact g_sub C [1, 0] rfl (w_X11_common_L4 C hr hR _ _ _ _ h)
theorem c_X11_common (l : Launch) (base : Nat) (D : va_G) (cA : Nat → ClassId) (σ : cr_S) (a0 : Int32) (a1 : Int32) (res : cr_S × Int32) (h : f_X11_common σ a0 a1 = some res) : cr_M l yX11_common cX11_common 5 (some .int) 0 0 sfM 17 base D cA [.int a0, .int a1] σ (cr_Qi sfM 17 base D cA res) := by
  refine cr_enter [.int a0, .int a1] [(0, .int a0), (1, .int a1)] (by decide) (Nat.le_of_ble_eq_true rfl) rfl ?_
  intro p e R s m below meth c C hr hR
  exact w_X11_common C hr hR σ a0 a1 h
noncomputable def f_X11_fog (σ : cr_S) (a1 : Int32) (a2 : Int32) (a3 : Int32) : Option (cr_S × Int32) :=
  Option.bind (f_X11_isShip σ a1) (fun q1 => (if q1.2 = 0 then some (q1.1, (-1)) else Option.bind (f_X11_isSecond q1.1 a2) (fun q3 => (if q3.2 = 0 then some (q3.1, (-1)) else Option.bind (f_X11_in q3.1 (Int32.toInt64 a3) 0 1) (fun q5 => (if q5.2 = 0 then some (q5.1, (-1)) else Option.bind (f_X11_clears q5.1 a1 a2) (fun q7 => cr_let q7.2 (fun v9 => cr_let (1 <<< ((2 * (rF q7.1 0 0)) &&& 31)) (fun v11 => Option.bind (f_X11_common q7.1 v9 v11) (fun q13 => cr_let q13.2 (fun v15 => (if a3 = 0 then chk (¬ v15 = 0) (some (q13.1, v9 / v15)) else chk (¬ v15 = 0) (some (q13.1, v11 / v15))))))))))))))
set_option maxRecDepth 100000 in
set_option maxHeartbeats 4000000 in
theorem w_X11_fog (C : cr_C p l e R s m args below meth c sfM 17 base D cA cX11_fog 7 RX11) (hr : meth.sig.returnType = some .int) (hR : 4 ≤ R.frames ∧ 103 ≤ R.locals) {res : cr_S × Int32} (σ : cr_S) (a1 : Int32) (a2 : Int32) (a3 : Int32) (h : f_X11_fog σ a1 a2 a3 = some res) : cr_W p l e R s m args below meth c sfM 17 base D cA 7 (MQ below (cr_Qi sfM 17 base D cA res) args s 0 0 (cr_A 17 base)) σ 0 [(0, .ref (base + 0)), (1, .int a1), (2, .int a2), (3, .int a3)] [] := by
  unfold f_X11_fog at h
  refine g_aload_n (pc' := 1) C dX11_fog_0 0 rfl rfl ?_
  refine g_iload_n (pc' := 2) C dX11_fog_1 1 rfl rfl ?_
  obtain ⟨q1, h2, h⟩ := bind_some h
  refine g_callVi (pc' := 5) (res := q1) C [.int a1] cY_X11_isShip rfl (o := 0) (by decide) rfl mv_X11_isShip mm_X11_105 ⟨Nat.le_trans (by decide) hR.1, Nat.le_trans (by decide) hR.2⟩ rfl (Nat.le_of_ble_eq_true rfl) rfl dX11_fog_2 (c_X11_isShip l base D cA σ a1 q1 h2) rfl ?_
  refine g_if_eq (pc' := 8) (tgt := 25) C dX11_fog_5 (by decide) rfl (fun hc => ?_) (fun hc => ?_)
  · rw [if_pos hc] at h
    refine g_iconst (pc' := 26) (v := (-1)) C dX11_fog_25 (by decide) rfl ?_
    exact g_iret C hr dX11_fog_26 h
  · rw [if_neg hc] at h
    refine g_iload_n (pc' := 9) C dX11_fog_8 2 rfl rfl ?_
    obtain ⟨q3, h4, h⟩ := bind_some h
    refine g_callSi (pc' := 12) (res := q3) C [.int a2] cY_X11_isSecond mv_X11_isSecond mm_X11_222 ⟨Nat.le_trans (by decide) hR.1, Nat.le_trans (by decide) hR.2⟩ rfl (Nat.le_of_ble_eq_true rfl) rfl dX11_fog_9 (c_X11_isSecond l base D cA q1.1 a2 q3 h4) rfl ?_
    refine g_if_eq (pc' := 15) (tgt := 25) C dX11_fog_12 (by decide) rfl (fun hc => ?_) (fun hc => ?_)
    · rw [if_pos hc] at h
      refine g_iconst (pc' := 26) (v := (-1)) C dX11_fog_25 (by decide) rfl ?_
      exact g_iret C hr dX11_fog_26 h
    · rw [if_neg hc] at h
      refine g_iload_n (pc' := 16) C dX11_fog_15 3 rfl rfl ?_
      refine g_i2l (pc' := 17) C dX11_fog_16 rfl ?_
      refine g_lconst (pc' := 18) (v := 0) C dX11_fog_17 (by decide) rfl ?_
      refine g_lconst (pc' := 19) (v := 1) C dX11_fog_18 (by decide) rfl ?_
      obtain ⟨q5, h6, h⟩ := bind_some h
      refine g_callSi (pc' := 22) (res := q5) C [.long (Int32.toInt64 a3), .long 0, .long 1] cY_X11_in mv_X11_in mm_X11_66 ⟨Nat.le_trans (by decide) hR.1, Nat.le_trans (by decide) hR.2⟩ rfl (Nat.le_of_ble_eq_true rfl) rfl dX11_fog_19 (c_X11_in l base D cA q3.1 (Int32.toInt64 a3) 0 1 q5 h6) rfl ?_
      refine g_if_ne (pc' := 25) (tgt := 27) C dX11_fog_22 (by decide) rfl (fun hc => ?_) (fun hc => ?_)
      · rw [if_neg hc] at h
        refine g_aload_n (pc' := 28) C dX11_fog_27 0 rfl rfl ?_
        refine g_iload_n (pc' := 29) C dX11_fog_28 1 rfl rfl ?_
        refine g_iload_n (pc' := 30) C dX11_fog_29 2 rfl rfl ?_
        obtain ⟨q7, h8, h⟩ := bind_some h
        refine g_callVi (pc' := 33) (res := q7) C [.int a1, .int a2] cY_X11_clears rfl (o := 0) (by decide) rfl mv_X11_clears mm_X11_230 ⟨Nat.le_trans (by decide) hR.1, Nat.le_trans (by decide) hR.2⟩ rfl (Nat.le_of_ble_eq_true rfl) rfl dX11_fog_30 (c_X11_clears l base D cA q5.1 a1 a2 q7 h8) rfl ?_
        obtain ⟨v9, e10, h⟩ := let_some h
        refine g_nameI e10 ?_
        refine g_istore (pc' := 35) (lv' := [(4, .int v9), (0, .ref (base + 0)), (1, .int a1), (2, .int a2), (3, .int a3)]) C dX11_fog_33 (by decide) rfl rfl ?_
        refine g_iconst (pc' := 36) (v := 1) C dX11_fog_35 (by decide) rfl ?_
        refine g_iconst (pc' := 37) (v := 2) C dX11_fog_36 (by decide) rfl ?_
        refine g_aload_n (pc' := 38) C dX11_fog_37 1 rfl rfl ?_
        refine gg_X11_63 (pc' := 41) C dX11_fog_38 rfl ?_
        refine g_imul (pc' := 42) C dX11_fog_41 rfl ?_
        refine g_ishl (pc' := 43) C dX11_fog_42 rfl ?_
        obtain ⟨v11, e12, h⟩ := let_some h
        refine g_nameI e12 ?_
        refine g_istore (pc' := 45) (lv' := [(5, .int v11), (4, .int v9), (0, .ref (base + 0)), (1, .int a1), (2, .int a2), (3, .int a3)]) C dX11_fog_43 (by decide) rfl rfl ?_
        refine g_iload (pc' := 47) C dX11_fog_45 1 rfl rfl ?_
        refine g_iload (pc' := 49) C dX11_fog_47 0 rfl rfl ?_
        obtain ⟨q13, h14, h⟩ := bind_some h
        refine g_callSi (pc' := 52) (res := q13) C [.int v9, .int v11] cY_X11_common mv_X11_common mm_X11_233 ⟨Nat.le_trans (by decide) hR.1, Nat.le_trans (by decide) hR.2⟩ rfl (Nat.le_of_ble_eq_true rfl) rfl dX11_fog_49 (c_X11_common l base D cA q7.1 v9 v11 q13 h14) rfl ?_
        obtain ⟨v15, e16, h⟩ := let_some h
        refine g_nameI e16 ?_
        refine g_istore (pc' := 54) (lv' := [(6, .int v15), (5, .int v11), (4, .int v9), (0, .ref (base + 0)), (1, .int a1), (2, .int a2), (3, .int a3)]) C dX11_fog_52 (by decide) rfl rfl ?_
        refine g_iload_n (pc' := 55) C dX11_fog_54 6 rfl rfl ?_
        refine g_if_ne (pc' := 58) (tgt := 66) C dX11_fog_55 (by decide) rfl (fun hc => ?_) (fun hc => ?_)
        · rw [if_neg hc] at h
          refine g_iload (pc' := 68) C dX11_fog_66 1 rfl rfl ?_
          refine g_iload (pc' := 70) C dX11_fog_68 0 rfl rfl ?_
          obtain ⟨h17, h⟩ := chk_some h
          refine g_idiv (pc' := 71) C dX11_fog_70 h17 rfl ?_
          exact g_iret C hr dX11_fog_71 h
        · rw [if_pos hc] at h
          refine g_iload (pc' := 60) C dX11_fog_58 2 rfl rfl ?_
          refine g_iload (pc' := 62) C dX11_fog_60 0 rfl rfl ?_
          obtain ⟨h18, h⟩ := chk_some h
          refine g_idiv (pc' := 63) C dX11_fog_62 h18 rfl ?_
          refine g_goto (tgt := 71) C dX11_fog_63 (by decide) ?_
          exact g_iret C hr dX11_fog_71 h
      · rw [if_pos hc] at h
        refine g_iconst (pc' := 26) (v := (-1)) C dX11_fog_25 (by decide) rfl ?_
        exact g_iret C hr dX11_fog_26 h
theorem c_X11_fog (l : Launch) (base : Nat) (D : va_G) (cA : Nat → ClassId) (σ : cr_S) (a1 : Int32) (a2 : Int32) (a3 : Int32) (res : cr_S × Int32) (h : f_X11_fog σ a1 a2 a3 = some res) : cr_M l yX11_fog cX11_fog 7 (some .int) 4 103 sfM 17 base D cA [.ref (base + 0), .int a1, .int a2, .int a3] σ (cr_Qi sfM 17 base D cA res) := by
  refine cr_enter [.ref (base + 0), .int a1, .int a2, .int a3] [(0, .ref (base + 0)), (1, .int a1), (2, .int a2), (3, .int a3)] (by decide) (Nat.le_of_ble_eq_true rfl) rfl ?_
  intro p e R s m below meth c C hr hR
  exact w_X11_fog C hr hR σ a1 a2 a3 h
noncomputable def f_X11_sure_B71 (r25 : cr_S → Int32 → Int32 → Int32 → Int32 → Int32 → Option (cr_S × Int32)) (σ : cr_S) (x1 : Int32) (x2 : Int32) (x3 : Int32) (x5 : Int32) (t0 : Int32) : Option (cr_S × Int32) :=
  cr_let (x5 + 1) (fun v9 => r25 σ x1 x2 x3 t0 v9)
set_option maxRecDepth 100000 in
set_option maxHeartbeats 4000000 in
theorem w_X11_sure_B71 (C : cr_C p l e R s m args below meth c sfM 17 base D cA cX11_sure 7 RX11) (hr : meth.sig.returnType = some .int) (hR : 4 ≤ R.frames ∧ 103 ≤ R.locals) {res : cr_S × Int32} (r25 : cr_S → Int32 → Int32 → Int32 → Int32 → Int32 → Option (cr_S × Int32)) (hr25 : ∀ (σ : cr_S) (x1 : Int32) (x2 : Int32) (x3 : Int32) (x4 : Int32) (x5 : Int32), r25 σ x1 x2 x3 x4 x5 = some res → cr_W p l e R s m args below meth c sfM 17 base D cA 7 (MQ below (cr_Qi sfM 17 base D cA res) args s 0 0 (cr_A 17 base)) σ 25 [(0, .ref (base + 0)), (1, .int x1), (2, .int x2), (3, .int x3), (4, .int x4), (5, .int x5)] []) (σ : cr_S) (x1 : Int32) (x2 : Int32) (x3 : Int32) (x5 : Int32) (t0 : Int32) (h : f_X11_sure_B71 r25 σ x1 x2 x3 x5 t0 = some res) : cr_W p l e R s m args below meth c sfM 17 base D cA 7 (MQ below (cr_Qi sfM 17 base D cA res) args s 0 0 (cr_A 17 base)) σ 71 [(0, .ref (base + 0)), (1, .int x1), (2, .int x2), (3, .int x3), (5, .int x5)] [.int t0] := by
  unfold f_X11_sure_B71 at h
  refine g_istore (pc' := 73) (lv' := [(4, .int t0), (0, .ref (base + 0)), (1, .int x1), (2, .int x2), (3, .int x3), (5, .int x5)]) C dX11_sure_71 (by decide) rfl rfl ?_
  obtain ⟨v9, e10, h⟩ := let_some h
  refine g_iinc (pc' := 76) (v := v9) (lv' := [(5, .int v9), (4, .int t0), (0, .ref (base + 0)), (1, .int x1), (2, .int x2), (3, .int x3)]) C dX11_sure_73 5 rfl (by rw [e10]; rfl) (by decide) rfl rfl ?_
  refine g_goto (tgt := 25) C dX11_sure_76 (by decide) ?_
  exact g_sub C [2, 3, 4, 5, 1, 0] rfl (hr25 _ _ _ _ _ _ h)
noncomputable def f_X11_sure_B56 (r25 : cr_S → Int32 → Int32 → Int32 → Int32 → Int32 → Option (cr_S × Int32)) (σ : cr_S) (x1 : Int32) (x2 : Int32) (x4 : Int32) (x5 : Int32) (x6 : Int32) (t0 : Int32) : Option (cr_S × Int32) :=
  f_X11_sure_B71 r25 σ x1 x2 t0 x5 (if x6 ≤ x4 then x4 else x6)
set_option maxRecDepth 100000 in
set_option maxHeartbeats 4000000 in
theorem w_X11_sure_B56 (C : cr_C p l e R s m args below meth c sfM 17 base D cA cX11_sure 7 RX11) (hr : meth.sig.returnType = some .int) (hR : 4 ≤ R.frames ∧ 103 ≤ R.locals) {res : cr_S × Int32} (r25 : cr_S → Int32 → Int32 → Int32 → Int32 → Int32 → Option (cr_S × Int32)) (hr25 : ∀ (σ : cr_S) (x1 : Int32) (x2 : Int32) (x3 : Int32) (x4 : Int32) (x5 : Int32), r25 σ x1 x2 x3 x4 x5 = some res → cr_W p l e R s m args below meth c sfM 17 base D cA 7 (MQ below (cr_Qi sfM 17 base D cA res) args s 0 0 (cr_A 17 base)) σ 25 [(0, .ref (base + 0)), (1, .int x1), (2, .int x2), (3, .int x3), (4, .int x4), (5, .int x5)] []) (σ : cr_S) (x1 : Int32) (x2 : Int32) (x4 : Int32) (x5 : Int32) (x6 : Int32) (t0 : Int32) (h : f_X11_sure_B56 r25 σ x1 x2 x4 x5 x6 t0 = some res) : cr_W p l e R s m args below meth c sfM 17 base D cA 7 (MQ below (cr_Qi sfM 17 base D cA res) args s 0 0 (cr_A 17 base)) σ 56 [(0, .ref (base + 0)), (1, .int x1), (2, .int x2), (4, .int x4), (5, .int x5), (6, .int x6)] [.int t0] := by
  unfold f_X11_sure_B56 at h
  refine g_istore_n (pc' := 57) (lv' := [(3, .int t0), (0, .ref (base + 0)), (1, .int x1), (2, .int x2), (4, .int x4), (5, .int x5), (6, .int x6)]) C dX11_sure_56 rfl (by decide) rfl rfl ?_
  refine g_iload (pc' := 59) C dX11_sure_57 6 rfl rfl ?_
  refine g_iload (pc' := 61) C dX11_sure_59 4 rfl rfl ?_
  refine g_iteI (σ := σ) (pj := 71) (lv := [(3, .int t0), (0, .ref (base + 0)), (1, .int x1), (2, .int x2), (4, .int x4), (5, .int x5), (6, .int x6)]) (st := []) (cd := x6 ≤ x4) (a := x4) (b := x6) C ?_ (fun kt kf => ?_)
  · exact g_sub C [1, 2, 3, 0, 5] rfl (w_X11_sure_B71 C hr hR r25 hr25 _ _ _ _ _ _ h)
  · refine g_icmp_le (pc' := 64) (tgt := 69) C dX11_sure_61 (by decide) rfl (fun hc => ?_) (fun hc => ?_)
    · refine g_iload (pc' := 71) C dX11_sure_69 4 rfl rfl ?_
      exact kt hc
    · refine g_iload (pc' := 66) C dX11_sure_64 6 rfl rfl ?_
      refine g_goto (tgt := 71) C dX11_sure_66 (by decide) ?_
      exact kf hc
noncomputable def f_X11_sure_L25  : Nat → cr_S → Int32 → Int32 → Int32 → Int32 → Int32 → Option (cr_S × Int32)
  | 0, _, _, _, _, _, _ => none
  | n + 1, σ, x1, x2, x3, x4, x5 =>
    (if (x2 + 60) ≤ x5 then some (σ, x3) else Option.bind (f_X11_clears σ x1 x5) (fun q5 => cr_let q5.2 (fun v7 => f_X11_sure_B56 (f_X11_sure_L25 n) q5.1 x1 x2 x4 x5 v7 (if v7 ≤ x4 then x3 else x5))))
set_option maxRecDepth 100000 in
set_option maxHeartbeats 4000000 in
theorem w_X11_sure_L25 (C : cr_C p l e R s m args below meth c sfM 17 base D cA cX11_sure 7 RX11) (hr : meth.sig.returnType = some .int) (hR : 4 ≤ R.frames ∧ 103 ≤ R.locals) {res : cr_S × Int32}  : ∀ (n : Nat) (σ : cr_S) (x1 : Int32) (x2 : Int32) (x3 : Int32) (x4 : Int32) (x5 : Int32), f_X11_sure_L25 n σ x1 x2 x3 x4 x5 = some res → cr_W p l e R s m args below meth c sfM 17 base D cA 7 (MQ below (cr_Qi sfM 17 base D cA res) args s 0 0 (cr_A 17 base)) σ 25 [(0, .ref (base + 0)), (1, .int x1), (2, .int x2), (3, .int x3), (4, .int x4), (5, .int x5)] [] := by
  intro n
  induction n with
  | zero =>
    intro σ x1 x2 x3 x4 x5 h
    cases h
  | succ n ih =>
    intro σ x1 x2 x3 x4 x5 h
    rw [f_X11_sure_L25] at h
    refine g_iload (pc' := 27) C dX11_sure_25 5 rfl rfl ?_
    refine g_iload_n (pc' := 28) C dX11_sure_27 2 rfl rfl ?_
    refine g_bipush (pc' := 30) (v := 60) C dX11_sure_28 (by decide) rfl ?_
    refine g_iadd (pc' := 31) C dX11_sure_30 rfl ?_
    refine g_icmp_ge (pc' := 34) (tgt := 79) C dX11_sure_31 (by decide) rfl (fun hc => ?_) (fun hc => ?_)
    · rw [if_pos hc] at h
      refine g_iload_n (pc' := 80) C dX11_sure_79 3 rfl rfl ?_
      exact g_iret C hr dX11_sure_80 h
    · rw [if_neg hc] at h
      refine g_aload_n (pc' := 35) C dX11_sure_34 0 rfl rfl ?_
      refine g_iload_n (pc' := 36) C dX11_sure_35 1 rfl rfl ?_
      refine g_iload (pc' := 38) C dX11_sure_36 5 rfl rfl ?_
      obtain ⟨q5, h6, h⟩ := bind_some h
      refine g_callVi (pc' := 41) (res := q5) C [.int x1, .int x5] cY_X11_clears rfl (o := 0) (by decide) rfl mv_X11_clears mm_X11_230 ⟨Nat.le_trans (by decide) hR.1, Nat.le_trans (by decide) hR.2⟩ rfl (Nat.le_of_ble_eq_true rfl) rfl dX11_sure_38 (c_X11_clears l base D cA σ x1 x5 q5 h6) rfl ?_
      obtain ⟨v7, e8, h⟩ := let_some h
      refine g_nameI e8 ?_
      refine g_istore (pc' := 43) (lv' := [(6, .int v7), (0, .ref (base + 0)), (1, .int x1), (2, .int x2), (3, .int x3), (4, .int x4), (5, .int x5)]) C dX11_sure_41 (by decide) rfl rfl ?_
      refine g_iload (pc' := 45) C dX11_sure_43 0 rfl rfl ?_
      refine g_iload (pc' := 47) C dX11_sure_45 5 rfl rfl ?_
      refine g_iteI (σ := q5.1) (pj := 56) (lv := [(6, .int v7), (0, .ref (base + 0)), (1, .int x1), (2, .int x2), (3, .int x3), (4, .int x4), (5, .int x5)]) (st := []) (cd := v7 ≤ x4) (a := x3) (b := x5) C ?_ (fun kt kf => ?_)
      · exact g_sub C [1, 2, 3, 5, 6, 0] rfl (w_X11_sure_B56 C hr hR (f_X11_sure_L25 n) ih _ _ _ _ _ _ _ h)
      · refine g_icmp_le (pc' := 50) (tgt := 55) C dX11_sure_47 (by decide) rfl (fun hc => ?_) (fun hc => ?_)
        · refine g_iload_n (pc' := 56) C dX11_sure_55 4 rfl rfl ?_
          exact kt hc
        · refine g_iload (pc' := 52) C dX11_sure_50 6 rfl rfl ?_
          refine g_goto (tgt := 56) C dX11_sure_52 (by decide) ?_
          exact kf hc
noncomputable def f_X11_sure (σ : cr_S) (a1 : Int32) (a2 : Int32) : Option (cr_S × Int32) :=
  Option.bind (f_X11_isShip σ a1) (fun q1 => (if q1.2 = 0 then some (q1.1, (-1)) else Option.bind (f_X11_isSecond q1.1 a2) (fun q3 => (if q3.2 = 0 then some (q3.1, (-1)) else f_X11_sure_L25 cr_fuel q3.1 a1 a2 a2 (-1) a2))))
set_option maxRecDepth 100000 in
set_option maxHeartbeats 4000000 in
theorem w_X11_sure (C : cr_C p l e R s m args below meth c sfM 17 base D cA cX11_sure 7 RX11) (hr : meth.sig.returnType = some .int) (hR : 4 ≤ R.frames ∧ 103 ≤ R.locals) {res : cr_S × Int32} (σ : cr_S) (a1 : Int32) (a2 : Int32) (h : f_X11_sure σ a1 a2 = some res) : cr_W p l e R s m args below meth c sfM 17 base D cA 7 (MQ below (cr_Qi sfM 17 base D cA res) args s 0 0 (cr_A 17 base)) σ 0 [(0, .ref (base + 0)), (1, .int a1), (2, .int a2)] [] := by
  unfold f_X11_sure at h
  refine g_aload_n (pc' := 1) C dX11_sure_0 0 rfl rfl ?_
  refine g_iload_n (pc' := 2) C dX11_sure_1 1 rfl rfl ?_
  obtain ⟨q1, h2, h⟩ := bind_some h
  refine g_callVi (pc' := 5) (res := q1) C [.int a1] cY_X11_isShip rfl (o := 0) (by decide) rfl mv_X11_isShip mm_X11_105 ⟨Nat.le_trans (by decide) hR.1, Nat.le_trans (by decide) hR.2⟩ rfl (Nat.le_of_ble_eq_true rfl) rfl dX11_sure_2 (c_X11_isShip l base D cA σ a1 q1 h2) rfl ?_
  refine g_if_eq (pc' := 8) (tgt := 15) C dX11_sure_5 (by decide) rfl (fun hc => ?_) (fun hc => ?_)
  · rw [if_pos hc] at h
    refine g_iconst (pc' := 16) (v := (-1)) C dX11_sure_15 (by decide) rfl ?_
    exact g_iret C hr dX11_sure_16 h
  · rw [if_neg hc] at h
    refine g_iload_n (pc' := 9) C dX11_sure_8 2 rfl rfl ?_
    obtain ⟨q3, h4, h⟩ := bind_some h
    refine g_callSi (pc' := 12) (res := q3) C [.int a2] cY_X11_isSecond mv_X11_isSecond mm_X11_222 ⟨Nat.le_trans (by decide) hR.1, Nat.le_trans (by decide) hR.2⟩ rfl (Nat.le_of_ble_eq_true rfl) rfl dX11_sure_9 (c_X11_isSecond l base D cA q1.1 a2 q3 h4) rfl ?_
    refine g_if_ne (pc' := 15) (tgt := 17) C dX11_sure_12 (by decide) rfl (fun hc => ?_) (fun hc => ?_)
    · rw [if_neg hc] at h
      refine g_iload_n (pc' := 18) C dX11_sure_17 2 rfl rfl ?_
      refine g_istore_n (pc' := 19) (lv' := [(3, .int a2), (0, .ref (base + 0)), (1, .int a1), (2, .int a2)]) C dX11_sure_18 rfl (by decide) rfl rfl ?_
      refine g_iconst (pc' := 20) (v := (-1)) C dX11_sure_19 (by decide) rfl ?_
      refine g_istore (pc' := 22) (lv' := [(4, .int (-1)), (3, .int a2), (0, .ref (base + 0)), (1, .int a1), (2, .int a2)]) C dX11_sure_20 (by decide) rfl rfl ?_
      refine g_iload_n (pc' := 23) C dX11_sure_22 4 rfl rfl ?_
      refine g_istore (pc' := 25) (lv' := [(5, .int a2), (4, .int (-1)), (3, .int a2), (0, .ref (base + 0)), (1, .int a1), (2, .int a2)]) C dX11_sure_23 (by decide) rfl rfl ?_
      exact g_sub C [3, 4, 5, 2, 1, 0] rfl (w_X11_sure_L25 C hr hR _ _ _ _ _ _ _ h)
    · rw [if_pos hc] at h
      refine g_iconst (pc' := 16) (v := (-1)) C dX11_sure_15 (by decide) rfl ?_
      exact g_iret C hr dX11_sure_16 h
theorem c_X11_sure (l : Launch) (base : Nat) (D : va_G) (cA : Nat → ClassId) (σ : cr_S) (a1 : Int32) (a2 : Int32) (res : cr_S × Int32) (h : f_X11_sure σ a1 a2 = some res) : cr_M l yX11_sure cX11_sure 7 (some .int) 4 103 sfM 17 base D cA [.ref (base + 0), .int a1, .int a2] σ (cr_Qi sfM 17 base D cA res) := by
  refine cr_enter [.ref (base + 0), .int a1, .int a2] [(0, .ref (base + 0)), (1, .int a1), (2, .int a2)] (by decide) (Nat.le_of_ble_eq_true rfl) rfl ?_
  intro p e R s m below meth c C hr hR
  exact w_X11_sure C hr hR σ a1 a2 h
noncomputable def f_X11_stones_B177  (σ : cr_S) (x3 : Int32) (x4 : Int32) (x5 : Int32) : Option (cr_S × Int32) :=
  some (σ, if 0 ≤ x3 then x5 else x4)
set_option maxRecDepth 100000 in
set_option maxHeartbeats 4000000 in
theorem w_X11_stones_B177 (C : cr_C p l e R s m args below meth c sfM 17 base D cA cX11_stones 10 RX11) (hr : meth.sig.returnType = some .int) (hR : 3 ≤ R.frames ∧ 74 ≤ R.locals) {res : cr_S × Int32}  (σ : cr_S) (x3 : Int32) (x4 : Int32) (x5 : Int32) (h : f_X11_stones_B177 σ x3 x4 x5 = some res) : cr_W p l e R s m args below meth c sfM 17 base D cA 10 (MQ below (cr_Qi sfM 17 base D cA res) args s 0 0 (cr_A 17 base)) σ 177 [(3, .int x3), (4, .int x4), (5, .int x5)] [] := by
  unfold f_X11_stones_B177 at h
  refine g_iload_n (pc' := 178) C dX11_stones_177 0 rfl rfl ?_
  refine g_iteI (σ := σ) (pj := 188) (lv := [(3, .int x3), (4, .int x4), (5, .int x5)]) (st := []) (cd := 0 ≤ x3) (a := x5) (b := x4) C ?_ (fun kt kf => ?_)
  · exact g_iret C hr dX11_stones_188 h
  · refine g_if_ge (pc' := 181) (tgt := 186) C dX11_stones_178 (by decide) rfl (fun hc => ?_) (fun hc => ?_)
    · refine g_iload (pc' := 188) C dX11_stones_186 2 rfl rfl ?_
      exact kt hc
    · refine g_iload (pc' := 183) C dX11_stones_181 1 rfl rfl ?_
      refine g_goto (tgt := 188) C dX11_stones_183 (by decide) ?_
      exact kf hc
noncomputable def f_X11_stones_B163 (r47 : cr_S → Int32 → Int32 → Int32 → Int32 → Int32 → Int32 → Option (cr_S × Int32)) (σ : cr_S) (x1 : Int32) (x3 : Int32) (x4 : Int32) (x7 : Int32) (t0 : Int32) : Option (cr_S × Int32) :=
  cr_let (rF σ 0 7) (fun v14 => cr_let (x7 + 1) (fun v16 => r47 σ x1 x3 x4 t0 v14 v16))
set_option maxRecDepth 100000 in
set_option maxHeartbeats 4000000 in
theorem w_X11_stones_B163 (C : cr_C p l e R s m args below meth c sfM 17 base D cA cX11_stones 10 RX11) (hr : meth.sig.returnType = some .int) (hR : 3 ≤ R.frames ∧ 74 ≤ R.locals) {res : cr_S × Int32} (r47 : cr_S → Int32 → Int32 → Int32 → Int32 → Int32 → Int32 → Option (cr_S × Int32)) (hr47 : ∀ (σ : cr_S) (x1 : Int32) (x3 : Int32) (x4 : Int32) (x5 : Int32) (x6 : Int32) (x7 : Int32), r47 σ x1 x3 x4 x5 x6 x7 = some res → cr_W p l e R s m args below meth c sfM 17 base D cA 10 (MQ below (cr_Qi sfM 17 base D cA res) args s 0 0 (cr_A 17 base)) σ 47 [(0, .ref (base + 0)), (1, .int x1), (3, .int x3), (4, .int x4), (5, .int x5), (6, .int x6), (7, .int x7)] []) (σ : cr_S) (x1 : Int32) (x3 : Int32) (x4 : Int32) (x7 : Int32) (t0 : Int32) (h : f_X11_stones_B163 r47 σ x1 x3 x4 x7 t0 = some res) : cr_W p l e R s m args below meth c sfM 17 base D cA 10 (MQ below (cr_Qi sfM 17 base D cA res) args s 0 0 (cr_A 17 base)) σ 163 [(0, .ref (base + 0)), (1, .int x1), (3, .int x3), (4, .int x4), (7, .int x7)] [.int t0] := by
  unfold f_X11_stones_B163 at h
  refine g_istore (pc' := 165) (lv' := [(5, .int t0), (0, .ref (base + 0)), (1, .int x1), (3, .int x3), (4, .int x4), (7, .int x7)]) C dX11_stones_163 (by decide) rfl rfl ?_
  refine g_aload_n (pc' := 166) C dX11_stones_165 1 rfl rfl ?_
  refine gg_X11_130 (pc' := 169) C dX11_stones_166 rfl ?_
  obtain ⟨v14, e15, h⟩ := let_some h
  refine g_nameI e15 ?_
  refine g_istore (pc' := 171) (lv' := [(6, .int v14), (5, .int t0), (0, .ref (base + 0)), (1, .int x1), (3, .int x3), (4, .int x4), (7, .int x7)]) C dX11_stones_169 (by decide) rfl rfl ?_
  obtain ⟨v16, e17, h⟩ := let_some h
  refine g_iinc (pc' := 174) (v := v16) (lv' := [(7, .int v16), (6, .int v14), (5, .int t0), (0, .ref (base + 0)), (1, .int x1), (3, .int x3), (4, .int x4)]) C dX11_stones_171 6 rfl (by rw [e17]; rfl) (by decide) rfl rfl ?_
  refine g_goto (tgt := 47) C dX11_stones_174 (by decide) ?_
  exact g_sub C [3, 4, 5, 6, 2, 1, 0] rfl (hr47 _ _ _ _ _ _ _ h)
noncomputable def f_X11_stones_B133 (r47 : cr_S → Int32 → Int32 → Int32 → Int32 → Int32 → Int32 → Option (cr_S × Int32)) (σ : cr_S) (x1 : Int32) (x3 : Int32) (x4 : Int32) (x5 : Int32) (x7 : Int32) (x9 : Int32) : Option (cr_S × Int32) :=
  (if (rF σ 0 6) = 0 then cr_let (x4 + x9) (fun v12 => f_X11_stones_B163 r47 σ x1 x3 v12 x7 (if x7 = x3 then x9 else x5)) else some (σ, (-4)))
set_option maxRecDepth 100000 in
set_option maxHeartbeats 4000000 in
theorem w_X11_stones_B133 (C : cr_C p l e R s m args below meth c sfM 17 base D cA cX11_stones 10 RX11) (hr : meth.sig.returnType = some .int) (hR : 3 ≤ R.frames ∧ 74 ≤ R.locals) {res : cr_S × Int32} (r47 : cr_S → Int32 → Int32 → Int32 → Int32 → Int32 → Int32 → Option (cr_S × Int32)) (hr47 : ∀ (σ : cr_S) (x1 : Int32) (x3 : Int32) (x4 : Int32) (x5 : Int32) (x6 : Int32) (x7 : Int32), r47 σ x1 x3 x4 x5 x6 x7 = some res → cr_W p l e R s m args below meth c sfM 17 base D cA 10 (MQ below (cr_Qi sfM 17 base D cA res) args s 0 0 (cr_A 17 base)) σ 47 [(0, .ref (base + 0)), (1, .int x1), (3, .int x3), (4, .int x4), (5, .int x5), (6, .int x6), (7, .int x7)] []) (σ : cr_S) (x1 : Int32) (x3 : Int32) (x4 : Int32) (x5 : Int32) (x7 : Int32) (x9 : Int32) (h : f_X11_stones_B133 r47 σ x1 x3 x4 x5 x7 x9 = some res) : cr_W p l e R s m args below meth c sfM 17 base D cA 10 (MQ below (cr_Qi sfM 17 base D cA res) args s 0 0 (cr_A 17 base)) σ 133 [(0, .ref (base + 0)), (1, .int x1), (3, .int x3), (4, .int x4), (5, .int x5), (7, .int x7), (9, .int x9)] [] := by
  unfold f_X11_stones_B133 at h
  refine g_aload_n (pc' := 134) C dX11_stones_133 0 rfl rfl ?_
  refine gg_X11_127 (pc' := 137) C dX11_stones_134 rfl ?_
  refine g_if_eq (pc' := 140) (tgt := 143) C dX11_stones_137 (by decide) rfl (fun hc => ?_) (fun hc => ?_)
  · rw [if_pos hc] at h
    refine g_iload (pc' := 145) C dX11_stones_143 3 rfl rfl ?_
    refine g_iload (pc' := 147) C dX11_stones_145 6 rfl rfl ?_
    refine g_iadd (pc' := 148) C dX11_stones_147 rfl ?_
    obtain ⟨v12, e13, h⟩ := let_some h
    refine g_nameI e13 ?_
    refine g_istore (pc' := 150) (lv' := [(4, .int v12), (0, .ref (base + 0)), (1, .int x1), (3, .int x3), (5, .int x5), (7, .int x7), (9, .int x9)]) C dX11_stones_148 (by decide) rfl rfl ?_
    refine g_iload (pc' := 152) C dX11_stones_150 5 rfl rfl ?_
    refine g_iload_n (pc' := 153) C dX11_stones_152 3 rfl rfl ?_
    refine g_iteI (σ := σ) (pj := 163) (lv := [(4, .int v12), (0, .ref (base + 0)), (1, .int x1), (3, .int x3), (5, .int x5), (7, .int x7), (9, .int x9)]) (st := []) (cd := x7 = x3) (a := x9) (b := x5) C ?_ (fun kt kf => ?_)
    · exact g_sub C [1, 2, 3, 0, 5] rfl (w_X11_stones_B163 C hr hR r47 hr47 _ _ _ _ _ _ h)
    · refine g_icmp_ne (pc' := 156) (tgt := 161) C dX11_stones_153 (by decide) rfl (fun hc => ?_) (fun hc => ?_)
      · refine g_iload (pc' := 163) C dX11_stones_161 4 rfl rfl ?_
        exact kf hc
      · refine g_iload (pc' := 158) C dX11_stones_156 6 rfl rfl ?_
        refine g_goto (tgt := 163) C dX11_stones_158 (by decide) ?_
        exact kt hc
  · rw [if_neg hc] at h
    refine g_bipush (pc' := 142) (v := (-4)) C dX11_stones_140 (by decide) rfl ?_
    exact g_iret C hr dX11_stones_142 h
noncomputable def f_X11_stones_L77 (r47 : cr_S → Int32 → Int32 → Int32 → Int32 → Int32 → Int32 → Option (cr_S × Int32)) : Nat → cr_S → Int32 → Int32 → Int32 → Int32 → Int32 → Int32 → Int32 → Int32 → Option (cr_S × Int32)
  | 0, _, _, _, _, _, _, _, _, _ => none
  | n + 1, σ, x1, x3, x4, x5, x6, x7, x8, x9 =>
    (if (rF σ 0 6) = 0 then f_X11_stones_B133 r47 σ x1 x3 x4 x5 x7 x9 else (if (x8 - 1) ≤ x9 then f_X11_stones_B133 r47 σ x1 x3 x4 x5 x7 x9 else cr_let (x9 + 1) (fun v18 => chk (inb ((5 * x7) + 4) 30) (chk (¬ x8 = 0) (Option.bind (f_X11_high σ x1) (fun q22 => Option.bind (f_X11_passes q22.1 x1 x7 ((((rA σ 1 ((5 * x7) + 4)) + x8) - v18) - (((rA σ 1 ((5 * x7) + 4)) + x8) - v18) / x8 * x8) x6 q22.2) (fun q24 => f_X11_stones_L77 r47 n q24 x1 x3 x4 x5 x6 x7 x8 v18)))))))
set_option maxRecDepth 100000 in
set_option maxHeartbeats 4000000 in
theorem w_X11_stones_L77 (C : cr_C p l e R s m args below meth c sfM 17 base D cA cX11_stones 10 RX11) (hr : meth.sig.returnType = some .int) (hR : 3 ≤ R.frames ∧ 74 ≤ R.locals) {res : cr_S × Int32} (r47 : cr_S → Int32 → Int32 → Int32 → Int32 → Int32 → Int32 → Option (cr_S × Int32)) (hr47 : ∀ (σ : cr_S) (x1 : Int32) (x3 : Int32) (x4 : Int32) (x5 : Int32) (x6 : Int32) (x7 : Int32), r47 σ x1 x3 x4 x5 x6 x7 = some res → cr_W p l e R s m args below meth c sfM 17 base D cA 10 (MQ below (cr_Qi sfM 17 base D cA res) args s 0 0 (cr_A 17 base)) σ 47 [(0, .ref (base + 0)), (1, .int x1), (3, .int x3), (4, .int x4), (5, .int x5), (6, .int x6), (7, .int x7)] []) : ∀ (n : Nat) (σ : cr_S) (x1 : Int32) (x3 : Int32) (x4 : Int32) (x5 : Int32) (x6 : Int32) (x7 : Int32) (x8 : Int32) (x9 : Int32), f_X11_stones_L77 r47 n σ x1 x3 x4 x5 x6 x7 x8 x9 = some res → cr_W p l e R s m args below meth c sfM 17 base D cA 10 (MQ below (cr_Qi sfM 17 base D cA res) args s 0 0 (cr_A 17 base)) σ 77 [(0, .ref (base + 0)), (1, .int x1), (3, .int x3), (4, .int x4), (5, .int x5), (6, .int x6), (7, .int x7), (8, .int x8), (9, .int x9)] [] := by
  intro n
  induction n with
  | zero =>
    intro σ x1 x3 x4 x5 x6 x7 x8 x9 h
    cases h
  | succ n ih =>
    intro σ x1 x3 x4 x5 x6 x7 x8 x9 h
    rw [f_X11_stones_L77] at h
    refine g_aload_n (pc' := 78) C dX11_stones_77 0 rfl rfl ?_
    refine gg_X11_127 (pc' := 81) C dX11_stones_78 rfl ?_
    refine g_if_eq (pc' := 84) (tgt := 133) C dX11_stones_81 (by decide) rfl (fun hc => ?_) (fun hc => ?_)
    · rw [if_pos hc] at h
      exact g_sub C [0, 1, 2, 3, 4, 6, 8] rfl (w_X11_stones_B133 C hr hR r47 hr47 _ _ _ _ _ _ _ h)
    · rw [if_neg hc] at h
      refine g_iload (pc' := 86) C dX11_stones_84 8 rfl rfl ?_
      refine g_iload (pc' := 88) C dX11_stones_86 7 rfl rfl ?_
      refine g_iconst (pc' := 89) (v := 1) C dX11_stones_88 (by decide) rfl ?_
      refine g_isub (pc' := 90) C dX11_stones_89 rfl ?_
      refine g_icmp_ge (pc' := 93) (tgt := 133) C dX11_stones_90 (by decide) rfl (fun hc => ?_) (fun hc => ?_)
      · rw [if_pos hc] at h
        exact g_sub C [0, 1, 2, 3, 4, 6, 8] rfl (w_X11_stones_B133 C hr hR r47 hr47 _ _ _ _ _ _ _ h)
      · rw [if_neg hc] at h
        obtain ⟨v18, e19, h⟩ := let_some h
        refine g_iinc (pc' := 96) (v := v18) (lv' := [(9, .int v18), (0, .ref (base + 0)), (1, .int x1), (3, .int x3), (4, .int x4), (5, .int x5), (6, .int x6), (7, .int x7), (8, .int x8)]) C dX11_stones_93 8 rfl (by rw [e19]; rfl) (by decide) rfl rfl ?_
        refine g_aload_n (pc' := 97) C dX11_stones_96 1 rfl rfl ?_
        refine g_iload_n (pc' := 98) C dX11_stones_97 2 rfl rfl ?_
        refine g_iload (pc' := 100) C dX11_stones_98 7 rfl rfl ?_
        refine g_aload_n (pc' := 101) C dX11_stones_100 1 rfl rfl ?_
        refine gg_X11_7 (pc' := 104) C dX11_stones_101 rfl ?_
        refine g_iconst (pc' := 105) (v := 5) C dX11_stones_104 (by decide) rfl ?_
        refine g_iload (pc' := 107) C dX11_stones_105 7 rfl rfl ?_
        refine g_imul (pc' := 108) C dX11_stones_107 rfl ?_
        refine g_iconst (pc' := 109) (v := 4) C dX11_stones_108 (by decide) rfl ?_
        refine g_iadd (pc' := 110) C dX11_stones_109 rfl ?_
        obtain ⟨h20, h⟩ := chk_some h
        refine g_iald (pc' := 111) C (o := 1) (by decide) rfl (inb_d h20) dX11_stones_110 rfl ?_
        refine g_iload (pc' := 113) C dX11_stones_111 8 rfl rfl ?_
        refine g_iadd (pc' := 114) C dX11_stones_113 rfl ?_
        refine g_iload (pc' := 116) C dX11_stones_114 0 rfl rfl ?_
        refine g_isub (pc' := 117) C dX11_stones_116 rfl ?_
        refine g_iload (pc' := 119) C dX11_stones_117 8 rfl rfl ?_
        obtain ⟨h21, h⟩ := chk_some h
        refine g_irem (pc' := 120) C dX11_stones_119 h21 rfl ?_
        refine g_iload (pc' := 122) C dX11_stones_120 6 rfl rfl ?_
        refine g_aload_n (pc' := 123) C dX11_stones_122 1 rfl rfl ?_
        refine g_iload_n (pc' := 124) C dX11_stones_123 2 rfl rfl ?_
        obtain ⟨q22, h23, h⟩ := bind_some h
        refine g_callVi (pc' := 127) (res := q22) C [.int x1] cY_X11_high rfl (o := 0) (by decide) rfl mv_X11_high mm_X11_101 ⟨Nat.le_trans (by decide) hR.1, Nat.le_trans (by decide) hR.2⟩ rfl (Nat.le_of_ble_eq_true rfl) rfl dX11_stones_124 (c_X11_high l base D cA σ x1 q22 h23) rfl ?_
        obtain ⟨q24, h25, h⟩ := bind_some h
        refine g_callVv (pc' := 130) (res := q24) C [.int x1, .int x7, .int ((((rA σ 1 ((5 * x7) + 4)) + x8) - v18) - (((rA σ 1 ((5 * x7) + 4)) + x8) - v18) / x8 * x8), .int x6, .int q22.2] cY_X11_passes rfl (o := 0) (by decide) rfl mv_X11_passes mm_X11_139 ⟨Nat.le_trans (by decide) hR.1, Nat.le_trans (by decide) hR.2⟩ rfl (Nat.le_of_ble_eq_true rfl) rfl dX11_stones_127 (c_X11_passes l base D cA q22.1 x1 x7 ((((rA σ 1 ((5 * x7) + 4)) + x8) - v18) - (((rA σ 1 ((5 * x7) + 4)) + x8) - v18) / x8 * x8) x6 q22.2 q24 h25) rfl ?_
        refine g_goto (tgt := 77) C dX11_stones_130 (by decide) ?_
        exact g_sub C [1, 2, 3, 4, 5, 6, 7, 8, 0] rfl (ih _ _ _ _ _ _ _ _ _ h)
noncomputable def f_X11_stones_L47  : Nat → cr_S → Int32 → Int32 → Int32 → Int32 → Int32 → Int32 → Option (cr_S × Int32)
  | 0, _, _, _, _, _, _, _ => none
  | n + 1, σ, x1, x3, x4, x5, x6, x7 =>
    (if (rF σ 0 0) ≤ x7 then f_X11_stones_B177 σ x3 x4 x5 else chk (inb ((5 * x7) + 2) 30) (cr_let (rA σ 1 ((5 * x7) + 2)) (fun v8 => cr_let (sF σ 0 6 2) (fun s10 => f_X11_stones_L77 (f_X11_stones_L47 n) cr_fuel s10 x1 x3 x4 x5 x6 x7 v8 (-1)))))
set_option maxRecDepth 100000 in
set_option maxHeartbeats 4000000 in
theorem w_X11_stones_L47 (C : cr_C p l e R s m args below meth c sfM 17 base D cA cX11_stones 10 RX11) (hr : meth.sig.returnType = some .int) (hR : 3 ≤ R.frames ∧ 74 ≤ R.locals) {res : cr_S × Int32}  : ∀ (n : Nat) (σ : cr_S) (x1 : Int32) (x3 : Int32) (x4 : Int32) (x5 : Int32) (x6 : Int32) (x7 : Int32), f_X11_stones_L47 n σ x1 x3 x4 x5 x6 x7 = some res → cr_W p l e R s m args below meth c sfM 17 base D cA 10 (MQ below (cr_Qi sfM 17 base D cA res) args s 0 0 (cr_A 17 base)) σ 47 [(0, .ref (base + 0)), (1, .int x1), (3, .int x3), (4, .int x4), (5, .int x5), (6, .int x6), (7, .int x7)] [] := by
  intro n
  induction n with
  | zero =>
    intro σ x1 x3 x4 x5 x6 x7 h
    cases h
  | succ n ih =>
    intro σ x1 x3 x4 x5 x6 x7 h
    rw [f_X11_stones_L47] at h
    refine g_iload (pc' := 49) C dX11_stones_47 6 rfl rfl ?_
    refine g_aload_n (pc' := 50) C dX11_stones_49 0 rfl rfl ?_
    refine gg_X11_63 (pc' := 53) C dX11_stones_50 rfl ?_
    refine g_icmp_ge (pc' := 56) (tgt := 177) C dX11_stones_53 (by decide) rfl (fun hc => ?_) (fun hc => ?_)
    · rw [if_pos hc] at h
      exact g_sub C [2, 3, 4] rfl (w_X11_stones_B177 C hr hR _ _ _ _ h)
    · rw [if_neg hc] at h
      refine g_aload_n (pc' := 57) C dX11_stones_56 0 rfl rfl ?_
      refine gg_X11_7 (pc' := 60) C dX11_stones_57 rfl ?_
      refine g_iconst (pc' := 61) (v := 5) C dX11_stones_60 (by decide) rfl ?_
      refine g_iload (pc' := 63) C dX11_stones_61 6 rfl rfl ?_
      refine g_imul (pc' := 64) C dX11_stones_63 rfl ?_
      refine g_iconst (pc' := 65) (v := 2) C dX11_stones_64 (by decide) rfl ?_
      refine g_iadd (pc' := 66) C dX11_stones_65 rfl ?_
      obtain ⟨h7, h⟩ := chk_some h
      refine g_iald (pc' := 67) C (o := 1) (by decide) rfl (inb_d h7) dX11_stones_66 rfl ?_
      obtain ⟨v8, e9, h⟩ := let_some h
      refine g_nameI e9 ?_
      refine g_istore (pc' := 69) (lv' := [(8, .int v8), (0, .ref (base + 0)), (1, .int x1), (3, .int x3), (4, .int x4), (5, .int x5), (6, .int x6), (7, .int x7)]) C dX11_stones_67 (by decide) rfl rfl ?_
      refine g_iconst (pc' := 70) (v := (-1)) C dX11_stones_69 (by decide) rfl ?_
      refine g_istore (pc' := 72) (lv' := [(9, .int (-1)), (8, .int v8), (0, .ref (base + 0)), (1, .int x1), (3, .int x3), (4, .int x4), (5, .int x5), (6, .int x6), (7, .int x7)]) C dX11_stones_70 (by decide) rfl rfl ?_
      refine g_aload_n (pc' := 73) C dX11_stones_72 2 rfl rfl ?_
      refine g_iconst (pc' := 74) (v := 2) C dX11_stones_73 (by decide) rfl ?_
      obtain ⟨s10, e11, h⟩ := let_some h
      refine gp_X11_127 (pc' := 77) C dX11_stones_74 rfl e11 ?_
      exact g_sub C [2, 3, 4, 5, 6, 7, 8, 1, 0] rfl (w_X11_stones_L77 C hr hR (f_X11_stones_L47 n) ih _ _ _ _ _ _ _ _ _ _ h)
noncomputable def f_X11_stones (σ : cr_S) (a1 : Int32) (a2 : Int32) (a3 : Int32) : Option (cr_S × Int32) :=
  Option.bind (f_X11_isShip σ a1) (fun q1 => (if q1.2 = 0 then some (q1.1, (-1)) else Option.bind (f_X11_isSecond q1.1 a2) (fun q3 => (if q3.2 = 0 then some (q3.1, (-1)) else Option.bind (f_X11_in q3.1 (Int32.toInt64 a3) (-1) (Int32.toInt64 ((rF q3.1 0 0) - 1))) (fun q5 => (if q5.2 = 0 then some (q5.1, (-1)) else f_X11_stones_L47 cr_fuel q5.1 a1 a3 0 0 a2 0))))))
set_option maxRecDepth 100000 in
set_option maxHeartbeats 4000000 in
theorem w_X11_stones (C : cr_C p l e R s m args below meth c sfM 17 base D cA cX11_stones 10 RX11) (hr : meth.sig.returnType = some .int) (hR : 3 ≤ R.frames ∧ 74 ≤ R.locals) {res : cr_S × Int32} (σ : cr_S) (a1 : Int32) (a2 : Int32) (a3 : Int32) (h : f_X11_stones σ a1 a2 a3 = some res) : cr_W p l e R s m args below meth c sfM 17 base D cA 10 (MQ below (cr_Qi sfM 17 base D cA res) args s 0 0 (cr_A 17 base)) σ 0 [(0, .ref (base + 0)), (1, .int a1), (2, .int a2), (3, .int a3)] [] := by
  unfold f_X11_stones at h
  refine g_aload_n (pc' := 1) C dX11_stones_0 0 rfl rfl ?_
  refine g_iload_n (pc' := 2) C dX11_stones_1 1 rfl rfl ?_
  obtain ⟨q1, h2, h⟩ := bind_some h
  refine g_callVi (pc' := 5) (res := q1) C [.int a1] cY_X11_isShip rfl (o := 0) (by decide) rfl mv_X11_isShip mm_X11_105 ⟨Nat.le_trans (by decide) hR.1, Nat.le_trans (by decide) hR.2⟩ rfl (Nat.le_of_ble_eq_true rfl) rfl dX11_stones_2 (c_X11_isShip l base D cA σ a1 q1 h2) rfl ?_
  refine g_if_eq (pc' := 8) (tgt := 33) C dX11_stones_5 (by decide) rfl (fun hc => ?_) (fun hc => ?_)
  · rw [if_pos hc] at h
    refine g_iconst (pc' := 34) (v := (-1)) C dX11_stones_33 (by decide) rfl ?_
    exact g_iret C hr dX11_stones_34 h
  · rw [if_neg hc] at h
    refine g_iload_n (pc' := 9) C dX11_stones_8 2 rfl rfl ?_
    obtain ⟨q3, h4, h⟩ := bind_some h
    refine g_callSi (pc' := 12) (res := q3) C [.int a2] cY_X11_isSecond mv_X11_isSecond mm_X11_222 ⟨Nat.le_trans (by decide) hR.1, Nat.le_trans (by decide) hR.2⟩ rfl (Nat.le_of_ble_eq_true rfl) rfl dX11_stones_9 (c_X11_isSecond l base D cA q1.1 a2 q3 h4) rfl ?_
    refine g_if_eq (pc' := 15) (tgt := 33) C dX11_stones_12 (by decide) rfl (fun hc => ?_) (fun hc => ?_)
    · rw [if_pos hc] at h
      refine g_iconst (pc' := 34) (v := (-1)) C dX11_stones_33 (by decide) rfl ?_
      exact g_iret C hr dX11_stones_34 h
    · rw [if_neg hc] at h
      refine g_iload_n (pc' := 16) C dX11_stones_15 3 rfl rfl ?_
      refine g_i2l (pc' := 17) C dX11_stones_16 rfl ?_
      refine g_ldc2 (pc' := 20) (v := (-1)) C dX11_stones_17 ml_X11_236 rfl ?_
      refine g_aload_n (pc' := 21) C dX11_stones_20 0 rfl rfl ?_
      refine gg_X11_63 (pc' := 24) C dX11_stones_21 rfl ?_
      refine g_iconst (pc' := 25) (v := 1) C dX11_stones_24 (by decide) rfl ?_
      refine g_isub (pc' := 26) C dX11_stones_25 rfl ?_
      refine g_i2l (pc' := 27) C dX11_stones_26 rfl ?_
      obtain ⟨q5, h6, h⟩ := bind_some h
      refine g_callSi (pc' := 30) (res := q5) C [.long (Int32.toInt64 a3), .long (-1), .long (Int32.toInt64 ((rF q3.1 0 0) - 1))] cY_X11_in mv_X11_in mm_X11_66 ⟨Nat.le_trans (by decide) hR.1, Nat.le_trans (by decide) hR.2⟩ rfl (Nat.le_of_ble_eq_true rfl) rfl dX11_stones_27 (c_X11_in l base D cA q3.1 (Int32.toInt64 a3) (-1) (Int32.toInt64 ((rF q3.1 0 0) - 1)) q5 h6) rfl ?_
      refine g_if_ne (pc' := 33) (tgt := 35) C dX11_stones_30 (by decide) rfl (fun hc => ?_) (fun hc => ?_)
      · rw [if_neg hc] at h
        refine g_iconst (pc' := 36) (v := 0) C dX11_stones_35 (by decide) rfl ?_
        refine g_istore (pc' := 38) (lv' := [(4, .int 0), (0, .ref (base + 0)), (1, .int a1), (2, .int a2), (3, .int a3)]) C dX11_stones_36 (by decide) rfl rfl ?_
        refine g_iconst (pc' := 39) (v := 0) C dX11_stones_38 (by decide) rfl ?_
        refine g_istore (pc' := 41) (lv' := [(5, .int 0), (4, .int 0), (0, .ref (base + 0)), (1, .int a1), (2, .int a2), (3, .int a3)]) C dX11_stones_39 (by decide) rfl rfl ?_
        refine g_iload_n (pc' := 42) C dX11_stones_41 4 rfl rfl ?_
        refine g_istore (pc' := 44) (lv' := [(6, .int a2), (5, .int 0), (4, .int 0), (0, .ref (base + 0)), (1, .int a1), (2, .int a2), (3, .int a3)]) C dX11_stones_42 (by decide) rfl rfl ?_
        refine g_iconst (pc' := 45) (v := 0) C dX11_stones_44 (by decide) rfl ?_
        refine g_istore (pc' := 47) (lv' := [(7, .int 0), (6, .int a2), (5, .int 0), (4, .int 0), (0, .ref (base + 0)), (1, .int a1), (2, .int a2), (3, .int a3)]) C dX11_stones_45 (by decide) rfl rfl ?_
        exact g_sub C [4, 5, 7, 3, 2, 1, 0] rfl (w_X11_stones_L47 C hr hR _ _ _ _ _ _ _ _ h)
      · rw [if_pos hc] at h
        refine g_iconst (pc' := 34) (v := (-1)) C dX11_stones_33 (by decide) rfl ?_
        exact g_iret C hr dX11_stones_34 h
theorem c_X11_stones (l : Launch) (base : Nat) (D : va_G) (cA : Nat → ClassId) (σ : cr_S) (a1 : Int32) (a2 : Int32) (a3 : Int32) (res : cr_S × Int32) (h : f_X11_stones σ a1 a2 a3 = some res) : cr_M l yX11_stones cX11_stones 10 (some .int) 3 74 sfM 17 base D cA [.ref (base + 0), .int a1, .int a2, .int a3] σ (cr_Qi sfM 17 base D cA res) := by
  refine cr_enter [.ref (base + 0), .int a1, .int a2, .int a3] [(0, .ref (base + 0)), (1, .int a1), (2, .int a2), (3, .int a3)] (by decide) (Nat.le_of_ble_eq_true rfl) rfl ?_
  intro p e R s m below meth c C hr hR
  exact w_X11_stones C hr hR σ a1 a2 a3 h
noncomputable def f_X11_many_L4  : Nat → cr_S → Int32 → Int32 → Option (cr_S × Int32)
  | 0, _, _, _ => none
  | n + 1, σ, x1, x2 =>
    (if x2 = 0 then some (σ, x1) else cr_let (x1 + 1) (fun v1 => cr_let (x2 &&& (x2 - 1)) (fun v3 => f_X11_many_L4 n σ v1 v3)))
set_option maxRecDepth 100000 in
set_option maxHeartbeats 4000000 in
theorem w_X11_many_L4 (C : cr_C p l e R s m args below meth c sfM 17 base D cA cX11_many 3 RX11) (hr : meth.sig.returnType = some .int) (hR : 0 ≤ R.frames ∧ 0 ≤ R.locals) {res : cr_S × Int32}  : ∀ (n : Nat) (σ : cr_S) (x1 : Int32) (x2 : Int32), f_X11_many_L4 n σ x1 x2 = some res → cr_W p l e R s m args below meth c sfM 17 base D cA 3 (MQ below (cr_Qi sfM 17 base D cA res) args s 0 0 (cr_A 17 base)) σ 4 [(1, .int x1), (2, .int x2)] [] := by
  intro n
  induction n with
  | zero =>
    intro σ x1 x2 h
    cases h
  | succ n ih =>
    intro σ x1 x2 h
    rw [f_X11_many_L4] at h
    refine g_iload_n (pc' := 5) C dX11_many_4 1 rfl rfl ?_
    refine g_if_eq (pc' := 8) (tgt := 20) C dX11_many_5 (by decide) rfl (fun hc => ?_) (fun hc => ?_)
    · rw [if_pos hc] at h
      refine g_iload_n (pc' := 21) C dX11_many_20 0 rfl rfl ?_
      exact g_iret C hr dX11_many_21 h
    · rw [if_neg hc] at h
      obtain ⟨v1, e2, h⟩ := let_some h
      refine g_iinc (pc' := 11) (v := v1) (lv' := [(1, .int v1), (2, .int x2)]) C dX11_many_8 0 rfl (by rw [e2]; rfl) (by decide) rfl rfl ?_
      refine g_iload_n (pc' := 12) C dX11_many_11 1 rfl rfl ?_
      refine g_iload_n (pc' := 13) C dX11_many_12 1 rfl rfl ?_
      refine g_iconst (pc' := 14) (v := 1) C dX11_many_13 (by decide) rfl ?_
      refine g_isub (pc' := 15) C dX11_many_14 rfl ?_
      refine g_iand (pc' := 16) C dX11_many_15 rfl ?_
      obtain ⟨v3, e4, h⟩ := let_some h
      refine g_nameI e4 ?_
      refine g_istore_n (pc' := 17) (lv' := [(2, .int v3), (1, .int v1)]) C dX11_many_16 rfl (by decide) rfl rfl ?_
      refine g_goto (tgt := 4) C dX11_many_17 (by decide) ?_
      exact g_sub C [1, 0] rfl (ih _ _ _ h)
noncomputable def f_X11_many (σ : cr_S) (a0 : Int32) : Option (cr_S × Int32) :=
  f_X11_many_L4 cr_fuel σ 0 a0
set_option maxRecDepth 100000 in
set_option maxHeartbeats 4000000 in
theorem w_X11_many (C : cr_C p l e R s m args below meth c sfM 17 base D cA cX11_many 3 RX11) (hr : meth.sig.returnType = some .int) (hR : 0 ≤ R.frames ∧ 0 ≤ R.locals) {res : cr_S × Int32} (σ : cr_S) (a0 : Int32) (h : f_X11_many σ a0 = some res) : cr_W p l e R s m args below meth c sfM 17 base D cA 3 (MQ below (cr_Qi sfM 17 base D cA res) args s 0 0 (cr_A 17 base)) σ 0 [(0, .int a0)] [] := by
  unfold f_X11_many at h
  refine g_iconst (pc' := 1) (v := 0) C dX11_many_0 (by decide) rfl ?_
  refine g_istore_n (pc' := 2) (lv' := [(1, .int 0), (0, .int a0)]) C dX11_many_1 rfl (by decide) rfl rfl ?_
  refine g_iload_n (pc' := 3) C dX11_many_2 1 rfl rfl ?_
  refine g_istore_n (pc' := 4) (lv' := [(2, .int a0), (1, .int 0), (0, .int a0)]) C dX11_many_3 rfl (by decide) rfl rfl ?_
  exact g_sub C [1, 0] rfl (w_X11_many_L4 C hr hR _ _ _ _ h)
theorem c_X11_many (l : Launch) (base : Nat) (D : va_G) (cA : Nat → ClassId) (σ : cr_S) (a0 : Int32) (res : cr_S × Int32) (h : f_X11_many σ a0 = some res) : cr_M l yX11_many cX11_many 3 (some .int) 0 0 sfM 17 base D cA [.int a0] σ (cr_Qi sfM 17 base D cA res) := by
  refine cr_enter [.int a0] [(0, .int a0)] (by decide) (Nat.le_of_ble_eq_true rfl) rfl ?_
  intro p e R s m below meth c C hr hR
  exact w_X11_many C hr hR σ a0 h
noncomputable def f_X11_convoy_B177 (r79 : cr_S → Int32 → Int32 → Int32 → Int32 → Option (cr_S × Int32)) (σ : cr_S) (x3 : Int32) (x4 : Int32) (x6 : Int32) (t0 : Int32) : Option (cr_S × Int32) :=
  cr_let (x6 + 1) (fun v7 => r79 σ x3 x4 t0 v7)
set_option maxRecDepth 100000 in
set_option maxHeartbeats 4000000 in
theorem w_X11_convoy_B177 (C : cr_C p l e R s m args below meth c sfM 17 base D cA cX11_convoy 9 RX11) (hr : meth.sig.returnType = some .int) (hR : 2 ≤ R.frames ∧ 46 ≤ R.locals) {res : cr_S × Int32} (r79 : cr_S → Int32 → Int32 → Int32 → Int32 → Option (cr_S × Int32)) (hr79 : ∀ (σ : cr_S) (x3 : Int32) (x4 : Int32) (x5 : Int32) (x6 : Int32), r79 σ x3 x4 x5 x6 = some res → cr_W p l e R s m args below meth c sfM 17 base D cA 9 (MQ below (cr_Qi sfM 17 base D cA res) args s 0 0 (cr_A 17 base)) σ 79 [(0, .ref (base + 0)), (3, .int x3), (4, .int x4), (5, .int x5), (6, .int x6)] []) (σ : cr_S) (x3 : Int32) (x4 : Int32) (x6 : Int32) (t0 : Int32) (h : f_X11_convoy_B177 r79 σ x3 x4 x6 t0 = some res) : cr_W p l e R s m args below meth c sfM 17 base D cA 9 (MQ below (cr_Qi sfM 17 base D cA res) args s 0 0 (cr_A 17 base)) σ 177 [(0, .ref (base + 0)), (3, .int x3), (4, .int x4), (6, .int x6)] [.int t0] := by
  unfold f_X11_convoy_B177 at h
  refine g_istore (pc' := 179) (lv' := [(5, .int t0), (0, .ref (base + 0)), (3, .int x3), (4, .int x4), (6, .int x6)]) C dX11_convoy_177 (by decide) rfl rfl ?_
  obtain ⟨v7, e8, h⟩ := let_some h
  refine g_iinc (pc' := 182) (v := v7) (lv' := [(6, .int v7), (5, .int t0), (0, .ref (base + 0)), (3, .int x3), (4, .int x4)]) C dX11_convoy_179 4 rfl (by rw [e8]; rfl) (by decide) rfl rfl ?_
  refine g_goto (tgt := 79) C dX11_convoy_182 (by decide) ?_
  exact g_sub C [2, 3, 4, 1, 0] rfl (hr79 _ _ _ _ _ h)
noncomputable def f_X11_convoy_B175 (r79 : cr_S → Int32 → Int32 → Int32 → Int32 → Option (cr_S × Int32)) (σ : cr_S) (x3 : Int32) (x4 : Int32) (x5 : Int32) (x6 : Int32) : Option (cr_S × Int32) :=
  f_X11_convoy_B177 r79 σ x3 x4 x6 x5
set_option maxRecDepth 100000 in
set_option maxHeartbeats 4000000 in
theorem w_X11_convoy_B175 (C : cr_C p l e R s m args below meth c sfM 17 base D cA cX11_convoy 9 RX11) (hr : meth.sig.returnType = some .int) (hR : 2 ≤ R.frames ∧ 46 ≤ R.locals) {res : cr_S × Int32} (r79 : cr_S → Int32 → Int32 → Int32 → Int32 → Option (cr_S × Int32)) (hr79 : ∀ (σ : cr_S) (x3 : Int32) (x4 : Int32) (x5 : Int32) (x6 : Int32), r79 σ x3 x4 x5 x6 = some res → cr_W p l e R s m args below meth c sfM 17 base D cA 9 (MQ below (cr_Qi sfM 17 base D cA res) args s 0 0 (cr_A 17 base)) σ 79 [(0, .ref (base + 0)), (3, .int x3), (4, .int x4), (5, .int x5), (6, .int x6)] []) (σ : cr_S) (x3 : Int32) (x4 : Int32) (x5 : Int32) (x6 : Int32) (h : f_X11_convoy_B175 r79 σ x3 x4 x5 x6 = some res) : cr_W p l e R s m args below meth c sfM 17 base D cA 9 (MQ below (cr_Qi sfM 17 base D cA res) args s 0 0 (cr_A 17 base)) σ 175 [(0, .ref (base + 0)), (3, .int x3), (4, .int x4), (5, .int x5), (6, .int x6)] [] := by
  unfold f_X11_convoy_B175 at h
  refine g_iload (pc' := 177) C dX11_convoy_175 3 rfl rfl ?_
  exact g_sub C [0, 1, 2, 4] rfl (w_X11_convoy_B177 C hr hR r79 hr79 _ _ _ _ _ h)
noncomputable def f_X11_convoy_B141 (r79 : cr_S → Int32 → Int32 → Int32 → Int32 → Option (cr_S × Int32)) (σ : cr_S) (x3 : Int32) (x4 : Int32) (x5 : Int32) (x6 : Int32) (x7 : Int32) : Option (cr_S × Int32) :=
  (if (x6 &&& (x3 ^^^ (-1))) = 0 then (if x4 < x7 then f_X11_convoy_B175 r79 σ x3 x4 x5 x6 else Option.bind (f_X11_many σ x6) (fun q9 => Option.bind (f_X11_many q9.1 x5) (fun q11 => (if q9.2 ≤ q11.2 then f_X11_convoy_B175 r79 q11.1 x3 x4 x5 x6 else f_X11_convoy_B177 r79 q11.1 x3 x4 x6 x6)))) else f_X11_convoy_B175 r79 σ x3 x4 x5 x6)
set_option maxRecDepth 100000 in
set_option maxHeartbeats 4000000 in
theorem w_X11_convoy_B141 (C : cr_C p l e R s m args below meth c sfM 17 base D cA cX11_convoy 9 RX11) (hr : meth.sig.returnType = some .int) (hR : 2 ≤ R.frames ∧ 46 ≤ R.locals) {res : cr_S × Int32} (r79 : cr_S → Int32 → Int32 → Int32 → Int32 → Option (cr_S × Int32)) (hr79 : ∀ (σ : cr_S) (x3 : Int32) (x4 : Int32) (x5 : Int32) (x6 : Int32), r79 σ x3 x4 x5 x6 = some res → cr_W p l e R s m args below meth c sfM 17 base D cA 9 (MQ below (cr_Qi sfM 17 base D cA res) args s 0 0 (cr_A 17 base)) σ 79 [(0, .ref (base + 0)), (3, .int x3), (4, .int x4), (5, .int x5), (6, .int x6)] []) (σ : cr_S) (x3 : Int32) (x4 : Int32) (x5 : Int32) (x6 : Int32) (x7 : Int32) (h : f_X11_convoy_B141 r79 σ x3 x4 x5 x6 x7 = some res) : cr_W p l e R s m args below meth c sfM 17 base D cA 9 (MQ below (cr_Qi sfM 17 base D cA res) args s 0 0 (cr_A 17 base)) σ 141 [(0, .ref (base + 0)), (3, .int x3), (4, .int x4), (5, .int x5), (6, .int x6), (7, .int x7)] [] := by
  unfold f_X11_convoy_B141 at h
  refine g_iload (pc' := 143) C dX11_convoy_141 4 rfl rfl ?_
  refine g_iload_n (pc' := 144) C dX11_convoy_143 1 rfl rfl ?_
  refine g_iconst (pc' := 145) (v := (-1)) C dX11_convoy_144 (by decide) rfl ?_
  refine g_ixor (pc' := 146) C dX11_convoy_145 rfl ?_
  refine g_iand (pc' := 147) C dX11_convoy_146 rfl ?_
  refine g_if_ne (pc' := 150) (tgt := 175) C dX11_convoy_147 (by decide) rfl (fun hc => ?_) (fun hc => ?_)
  · rw [if_neg hc] at h
    exact g_sub C [0, 1, 2, 3, 4] rfl (w_X11_convoy_B175 C hr hR r79 hr79 _ _ _ _ _ h)
  · rw [if_pos hc] at h
    refine g_iload (pc' := 152) C dX11_convoy_150 5 rfl rfl ?_
    refine g_iload (pc' := 154) C dX11_convoy_152 2 rfl rfl ?_
    refine g_icmp_gt (pc' := 157) (tgt := 175) C dX11_convoy_154 (by decide) rfl (fun hc => ?_) (fun hc => ?_)
    · rw [if_pos hc] at h
      exact g_sub C [0, 1, 2, 3, 4] rfl (w_X11_convoy_B175 C hr hR r79 hr79 _ _ _ _ _ h)
    · rw [if_neg hc] at h
      refine g_iload (pc' := 159) C dX11_convoy_157 4 rfl rfl ?_
      obtain ⟨q9, h10, h⟩ := bind_some h
      refine g_callSi (pc' := 162) (res := q9) C [.int x6] cY_X11_many mv_X11_many mm_X11_238 ⟨Nat.le_trans (by decide) hR.1, Nat.le_trans (by decide) hR.2⟩ rfl (Nat.le_of_ble_eq_true rfl) rfl dX11_convoy_159 (c_X11_many l base D cA σ x6 q9 h10) rfl ?_
      refine g_iload (pc' := 164) C dX11_convoy_162 3 rfl rfl ?_
      obtain ⟨q11, h12, h⟩ := bind_some h
      refine g_callSi (pc' := 167) (res := q11) C [.int x5] cY_X11_many mv_X11_many mm_X11_238 ⟨Nat.le_trans (by decide) hR.1, Nat.le_trans (by decide) hR.2⟩ rfl (Nat.le_of_ble_eq_true rfl) rfl dX11_convoy_164 (c_X11_many l base D cA q9.1 x5 q11 h12) rfl ?_
      refine g_icmp_le (pc' := 170) (tgt := 175) C dX11_convoy_167 (by decide) rfl (fun hc => ?_) (fun hc => ?_)
      · rw [if_pos hc] at h
        exact g_sub C [0, 1, 2, 3, 4] rfl (w_X11_convoy_B175 C hr hR r79 hr79 _ _ _ _ _ h)
      · rw [if_neg hc] at h
        refine g_iload (pc' := 172) C dX11_convoy_170 4 rfl rfl ?_
        refine g_goto (tgt := 177) C dX11_convoy_172 (by decide) ?_
        exact g_sub C [0, 1, 2, 4] rfl (w_X11_convoy_B177 C hr hR r79 hr79 _ _ _ _ _ h)
noncomputable def f_X11_convoy_B132 (r79 : cr_S → Int32 → Int32 → Int32 → Int32 → Option (cr_S × Int32)) (r91 : cr_S → Int32 → Int32 → Int32 → Int32 → Int32 → Int32 → Option (cr_S × Int32)) (σ : cr_S) (x3 : Int32) (x4 : Int32) (x5 : Int32) (x6 : Int32) (x8 : Int32) (t0 : Int32) (t1 : Int32) : Option (cr_S × Int32) :=
  cr_let (t1 + t0) (fun v13 => cr_let (x8 + 1) (fun v15 => r91 σ x3 x4 x5 x6 v13 v15))
set_option maxRecDepth 100000 in
set_option maxHeartbeats 4000000 in
theorem w_X11_convoy_B132 (C : cr_C p l e R s m args below meth c sfM 17 base D cA cX11_convoy 9 RX11) (hr : meth.sig.returnType = some .int) (hR : 2 ≤ R.frames ∧ 46 ≤ R.locals) {res : cr_S × Int32} (r79 : cr_S → Int32 → Int32 → Int32 → Int32 → Option (cr_S × Int32)) (r91 : cr_S → Int32 → Int32 → Int32 → Int32 → Int32 → Int32 → Option (cr_S × Int32)) (hr79 : ∀ (σ : cr_S) (x3 : Int32) (x4 : Int32) (x5 : Int32) (x6 : Int32), r79 σ x3 x4 x5 x6 = some res → cr_W p l e R s m args below meth c sfM 17 base D cA 9 (MQ below (cr_Qi sfM 17 base D cA res) args s 0 0 (cr_A 17 base)) σ 79 [(0, .ref (base + 0)), (3, .int x3), (4, .int x4), (5, .int x5), (6, .int x6)] []) (hr91 : ∀ (σ : cr_S) (x3 : Int32) (x4 : Int32) (x5 : Int32) (x6 : Int32) (x7 : Int32) (x8 : Int32), r91 σ x3 x4 x5 x6 x7 x8 = some res → cr_W p l e R s m args below meth c sfM 17 base D cA 9 (MQ below (cr_Qi sfM 17 base D cA res) args s 0 0 (cr_A 17 base)) σ 91 [(0, .ref (base + 0)), (3, .int x3), (4, .int x4), (5, .int x5), (6, .int x6), (7, .int x7), (8, .int x8)] []) (σ : cr_S) (x3 : Int32) (x4 : Int32) (x5 : Int32) (x6 : Int32) (x8 : Int32) (t0 : Int32) (t1 : Int32) (h : f_X11_convoy_B132 r79 r91 σ x3 x4 x5 x6 x8 t0 t1 = some res) : cr_W p l e R s m args below meth c sfM 17 base D cA 9 (MQ below (cr_Qi sfM 17 base D cA res) args s 0 0 (cr_A 17 base)) σ 132 [(0, .ref (base + 0)), (3, .int x3), (4, .int x4), (5, .int x5), (6, .int x6), (8, .int x8)] [.int t0, .int t1] := by
  unfold f_X11_convoy_B132 at h
  refine g_iadd (pc' := 133) C dX11_convoy_132 rfl ?_
  obtain ⟨v13, e14, h⟩ := let_some h
  refine g_nameI e14 ?_
  refine g_istore (pc' := 135) (lv' := [(7, .int v13), (0, .ref (base + 0)), (3, .int x3), (4, .int x4), (5, .int x5), (6, .int x6), (8, .int x8)]) C dX11_convoy_133 (by decide) rfl rfl ?_
  obtain ⟨v15, e16, h⟩ := let_some h
  refine g_iinc (pc' := 138) (v := v15) (lv' := [(8, .int v15), (7, .int v13), (0, .ref (base + 0)), (3, .int x3), (4, .int x4), (5, .int x5), (6, .int x6)]) C dX11_convoy_135 6 rfl (by rw [e16]; rfl) (by decide) rfl rfl ?_
  refine g_goto (tgt := 91) C dX11_convoy_138 (by decide) ?_
  exact g_sub C [2, 3, 4, 5, 6, 1, 0] rfl (hr91 _ _ _ _ _ _ _ h)
noncomputable def f_X11_convoy_L91 (r79 : cr_S → Int32 → Int32 → Int32 → Int32 → Option (cr_S × Int32)) : Nat → cr_S → Int32 → Int32 → Int32 → Int32 → Int32 → Int32 → Option (cr_S × Int32)
  | 0, _, _, _, _, _, _, _ => none
  | n + 1, σ, x3, x4, x5, x6, x7, x8 =>
    (if (rF σ 0 1) ≤ x8 then f_X11_convoy_B141 r79 σ x3 x4 x5 x6 x7 else (if ((x6 >>> (x8 &&& 31)) &&& 1) = 1 then Option.bind (f_X11_span σ x8) (fun q17 => Option.bind (f_X11_high q17.1 x8) (fun q19 => Option.bind (f_X11_upwards q19.1 q17.2 q19.2) (fun q21 => f_X11_convoy_B132 r79 (f_X11_convoy_L91 r79 n) q21.1 x3 x4 x5 x6 x8 q21.2 x7))) else f_X11_convoy_B132 r79 (f_X11_convoy_L91 r79 n) σ x3 x4 x5 x6 x8 0 x7))
set_option maxRecDepth 100000 in
set_option maxHeartbeats 4000000 in
theorem w_X11_convoy_L91 (C : cr_C p l e R s m args below meth c sfM 17 base D cA cX11_convoy 9 RX11) (hr : meth.sig.returnType = some .int) (hR : 2 ≤ R.frames ∧ 46 ≤ R.locals) {res : cr_S × Int32} (r79 : cr_S → Int32 → Int32 → Int32 → Int32 → Option (cr_S × Int32)) (hr79 : ∀ (σ : cr_S) (x3 : Int32) (x4 : Int32) (x5 : Int32) (x6 : Int32), r79 σ x3 x4 x5 x6 = some res → cr_W p l e R s m args below meth c sfM 17 base D cA 9 (MQ below (cr_Qi sfM 17 base D cA res) args s 0 0 (cr_A 17 base)) σ 79 [(0, .ref (base + 0)), (3, .int x3), (4, .int x4), (5, .int x5), (6, .int x6)] []) : ∀ (n : Nat) (σ : cr_S) (x3 : Int32) (x4 : Int32) (x5 : Int32) (x6 : Int32) (x7 : Int32) (x8 : Int32), f_X11_convoy_L91 r79 n σ x3 x4 x5 x6 x7 x8 = some res → cr_W p l e R s m args below meth c sfM 17 base D cA 9 (MQ below (cr_Qi sfM 17 base D cA res) args s 0 0 (cr_A 17 base)) σ 91 [(0, .ref (base + 0)), (3, .int x3), (4, .int x4), (5, .int x5), (6, .int x6), (7, .int x7), (8, .int x8)] [] := by
  intro n
  induction n with
  | zero =>
    intro σ x3 x4 x5 x6 x7 x8 h
    cases h
  | succ n ih =>
    intro σ x3 x4 x5 x6 x7 x8 h
    rw [f_X11_convoy_L91] at h
    refine g_iload (pc' := 93) C dX11_convoy_91 6 rfl rfl ?_
    refine g_aload_n (pc' := 94) C dX11_convoy_93 0 rfl rfl ?_
    refine gg_X11_70 (pc' := 97) C dX11_convoy_94 rfl ?_
    refine g_icmp_ge (pc' := 100) (tgt := 141) C dX11_convoy_97 (by decide) rfl (fun hc => ?_) (fun hc => ?_)
    · rw [if_pos hc] at h
      exact g_sub C [0, 1, 2, 3, 4, 5] rfl (w_X11_convoy_B141 C hr hR r79 hr79 _ _ _ _ _ _ h)
    · rw [if_neg hc] at h
      refine g_iload (pc' := 102) C dX11_convoy_100 5 rfl rfl ?_
      refine g_iload (pc' := 104) C dX11_convoy_102 4 rfl rfl ?_
      refine g_iload (pc' := 106) C dX11_convoy_104 6 rfl rfl ?_
      refine g_ishr (pc' := 107) C dX11_convoy_106 rfl ?_
      refine g_iconst (pc' := 108) (v := 1) C dX11_convoy_107 (by decide) rfl ?_
      refine g_iand (pc' := 109) C dX11_convoy_108 rfl ?_
      refine g_iconst (pc' := 110) (v := 1) C dX11_convoy_109 (by decide) rfl ?_
      refine g_icmp_ne (pc' := 113) (tgt := 131) C dX11_convoy_110 (by decide) rfl (fun hc => ?_) (fun hc => ?_)
      · rw [if_neg hc] at h
        refine g_iconst (pc' := 132) (v := 0) C dX11_convoy_131 (by decide) rfl ?_
        exact g_sub C [0, 1, 2, 3, 4, 6] rfl (w_X11_convoy_B132 C hr hR r79 (f_X11_convoy_L91 r79 n) hr79 ih _ _ _ _ _ _ _ _ h)
      · rw [if_pos hc] at h
        refine g_aload_n (pc' := 114) C dX11_convoy_113 0 rfl rfl ?_
        refine g_iload (pc' := 116) C dX11_convoy_114 6 rfl rfl ?_
        obtain ⟨q17, h18, h⟩ := bind_some h
        refine g_callVi (pc' := 119) (res := q17) C [.int x8] cY_X11_span rfl (o := 0) (by decide) rfl mv_X11_span mm_X11_111 ⟨Nat.le_trans (by decide) hR.1, Nat.le_trans (by decide) hR.2⟩ rfl (Nat.le_of_ble_eq_true rfl) rfl dX11_convoy_116 (c_X11_span l base D cA σ x8 q17 h18) rfl ?_
        refine g_aload_n (pc' := 120) C dX11_convoy_119 0 rfl rfl ?_
        refine g_iload (pc' := 122) C dX11_convoy_120 6 rfl rfl ?_
        obtain ⟨q19, h20, h⟩ := bind_some h
        refine g_callVi (pc' := 125) (res := q19) C [.int x8] cY_X11_high rfl (o := 0) (by decide) rfl mv_X11_high mm_X11_101 ⟨Nat.le_trans (by decide) hR.1, Nat.le_trans (by decide) hR.2⟩ rfl (Nat.le_of_ble_eq_true rfl) rfl dX11_convoy_122 (c_X11_high l base D cA q17.1 x8 q19 h20) rfl ?_
        obtain ⟨q21, h22, h⟩ := bind_some h
        refine g_callSi (pc' := 128) (res := q21) C [.int q17.2, .int q19.2] cY_X11_upwards mv_X11_upwards mm_X11_123 ⟨Nat.le_trans (by decide) hR.1, Nat.le_trans (by decide) hR.2⟩ rfl (Nat.le_of_ble_eq_true rfl) rfl dX11_convoy_125 (c_X11_upwards l base D cA q19.1 q17.2 q19.2 q21 h22) rfl ?_
        refine g_goto (tgt := 132) C dX11_convoy_128 (by decide) ?_
        exact g_sub C [0, 1, 2, 3, 4, 6] rfl (w_X11_convoy_B132 C hr hR r79 (f_X11_convoy_L91 r79 n) hr79 ih _ _ _ _ _ _ _ _ h)
noncomputable def f_X11_convoy_L79  : Nat → cr_S → Int32 → Int32 → Int32 → Int32 → Option (cr_S × Int32)
  | 0, _, _, _, _, _ => none
  | n + 1, σ, x3, x4, x5, x6 =>
    (if x3 < x6 then some (σ, x5) else f_X11_convoy_L91 (f_X11_convoy_L79 n) cr_fuel σ x3 x4 x5 x6 0 0)
set_option maxRecDepth 100000 in
set_option maxHeartbeats 4000000 in
theorem w_X11_convoy_L79 (C : cr_C p l e R s m args below meth c sfM 17 base D cA cX11_convoy 9 RX11) (hr : meth.sig.returnType = some .int) (hR : 2 ≤ R.frames ∧ 46 ≤ R.locals) {res : cr_S × Int32}  : ∀ (n : Nat) (σ : cr_S) (x3 : Int32) (x4 : Int32) (x5 : Int32) (x6 : Int32), f_X11_convoy_L79 n σ x3 x4 x5 x6 = some res → cr_W p l e R s m args below meth c sfM 17 base D cA 9 (MQ below (cr_Qi sfM 17 base D cA res) args s 0 0 (cr_A 17 base)) σ 79 [(0, .ref (base + 0)), (3, .int x3), (4, .int x4), (5, .int x5), (6, .int x6)] [] := by
  intro n
  induction n with
  | zero =>
    intro σ x3 x4 x5 x6 h
    cases h
  | succ n ih =>
    intro σ x3 x4 x5 x6 h
    rw [f_X11_convoy_L79] at h
    refine g_iload (pc' := 81) C dX11_convoy_79 4 rfl rfl ?_
    refine g_iload_n (pc' := 82) C dX11_convoy_81 1 rfl rfl ?_
    refine g_icmp_gt (pc' := 85) (tgt := 185) C dX11_convoy_82 (by decide) rfl (fun hc => ?_) (fun hc => ?_)
    · rw [if_pos hc] at h
      refine g_iload (pc' := 187) C dX11_convoy_185 3 rfl rfl ?_
      exact g_iret C hr dX11_convoy_187 h
    · rw [if_neg hc] at h
      refine g_iconst (pc' := 86) (v := 0) C dX11_convoy_85 (by decide) rfl ?_
      refine g_istore (pc' := 88) (lv' := [(7, .int 0), (0, .ref (base + 0)), (3, .int x3), (4, .int x4), (5, .int x5), (6, .int x6)]) C dX11_convoy_86 (by decide) rfl rfl ?_
      refine g_iconst (pc' := 89) (v := 0) C dX11_convoy_88 (by decide) rfl ?_
      refine g_istore (pc' := 91) (lv' := [(8, .int 0), (7, .int 0), (0, .ref (base + 0)), (3, .int x3), (4, .int x4), (5, .int x5), (6, .int x6)]) C dX11_convoy_89 (by decide) rfl rfl ?_
      exact g_sub C [2, 3, 4, 5, 6, 1, 0] rfl (w_X11_convoy_L91 C hr hR (f_X11_convoy_L79 n) ih _ _ _ _ _ _ _ _ h)
noncomputable def f_X11_convoy_B73  (σ : cr_S) (x3 : Int32) (x4 : Int32) : Option (cr_S × Int32) :=
  f_X11_convoy_L79 cr_fuel σ x3 x4 0 1
set_option maxRecDepth 100000 in
set_option maxHeartbeats 4000000 in
theorem w_X11_convoy_B73 (C : cr_C p l e R s m args below meth c sfM 17 base D cA cX11_convoy 9 RX11) (hr : meth.sig.returnType = some .int) (hR : 2 ≤ R.frames ∧ 46 ≤ R.locals) {res : cr_S × Int32}  (σ : cr_S) (x3 : Int32) (x4 : Int32) (h : f_X11_convoy_B73 σ x3 x4 = some res) : cr_W p l e R s m args below meth c sfM 17 base D cA 9 (MQ below (cr_Qi sfM 17 base D cA res) args s 0 0 (cr_A 17 base)) σ 73 [(0, .ref (base + 0)), (3, .int x3), (4, .int x4)] [] := by
  unfold f_X11_convoy_B73 at h
  refine g_iconst (pc' := 74) (v := 0) C dX11_convoy_73 (by decide) rfl ?_
  refine g_istore (pc' := 76) (lv' := [(5, .int 0), (0, .ref (base + 0)), (3, .int x3), (4, .int x4)]) C dX11_convoy_74 (by decide) rfl rfl ?_
  refine g_iconst (pc' := 77) (v := 1) C dX11_convoy_76 (by decide) rfl ?_
  refine g_istore (pc' := 79) (lv' := [(6, .int 1), (5, .int 0), (0, .ref (base + 0)), (3, .int x3), (4, .int x4)]) C dX11_convoy_77 (by decide) rfl rfl ?_
  exact g_sub C [2, 3, 4, 1, 0] rfl (w_X11_convoy_L79 C hr hR _ _ _ _ _ _ h)
noncomputable def f_X11_convoy_L38  : Nat → cr_S → Int32 → Int32 → Int32 → Int32 → Option (cr_S × Int32)
  | 0, _, _, _, _, _ => none
  | n + 1, σ, x1, x2, x3, x4 =>
    (if 60 ≤ x4 then f_X11_convoy_B73 σ x3 x4 else chk (inb ((5 * x1) + 4) 30) (Option.bind (f_X11_isOpen σ x1 (x2 + x4) (rA σ 1 ((5 * x1) + 4))) (fun q24 => (if q24.2 = 0 then f_X11_convoy_B73 q24.1 x3 x4 else cr_let (x4 + 1) (fun v26 => f_X11_convoy_L38 n q24.1 x1 x2 x3 v26)))))
set_option maxRecDepth 100000 in
set_option maxHeartbeats 4000000 in
theorem w_X11_convoy_L38 (C : cr_C p l e R s m args below meth c sfM 17 base D cA cX11_convoy 9 RX11) (hr : meth.sig.returnType = some .int) (hR : 2 ≤ R.frames ∧ 46 ≤ R.locals) {res : cr_S × Int32}  : ∀ (n : Nat) (σ : cr_S) (x1 : Int32) (x2 : Int32) (x3 : Int32) (x4 : Int32), f_X11_convoy_L38 n σ x1 x2 x3 x4 = some res → cr_W p l e R s m args below meth c sfM 17 base D cA 9 (MQ below (cr_Qi sfM 17 base D cA res) args s 0 0 (cr_A 17 base)) σ 38 [(0, .ref (base + 0)), (1, .int x1), (2, .int x2), (3, .int x3), (4, .int x4)] [] := by
  intro n
  induction n with
  | zero =>
    intro σ x1 x2 x3 x4 h
    cases h
  | succ n ih =>
    intro σ x1 x2 x3 x4 h
    rw [f_X11_convoy_L38] at h
    refine g_iload (pc' := 40) C dX11_convoy_38 4 rfl rfl ?_
    refine g_bipush (pc' := 42) (v := 60) C dX11_convoy_40 (by decide) rfl ?_
    refine g_icmp_ge (pc' := 45) (tgt := 73) C dX11_convoy_42 (by decide) rfl (fun hc => ?_) (fun hc => ?_)
    · rw [if_pos hc] at h
      exact g_sub C [0, 3, 4] rfl (w_X11_convoy_B73 C hr hR _ _ _ h)
    · rw [if_neg hc] at h
      refine g_aload_n (pc' := 46) C dX11_convoy_45 0 rfl rfl ?_
      refine g_iload_n (pc' := 47) C dX11_convoy_46 1 rfl rfl ?_
      refine g_iload_n (pc' := 48) C dX11_convoy_47 2 rfl rfl ?_
      refine g_iload (pc' := 50) C dX11_convoy_48 4 rfl rfl ?_
      refine g_iadd (pc' := 51) C dX11_convoy_50 rfl ?_
      refine g_aload_n (pc' := 52) C dX11_convoy_51 0 rfl rfl ?_
      refine gg_X11_7 (pc' := 55) C dX11_convoy_52 rfl ?_
      refine g_iconst (pc' := 56) (v := 5) C dX11_convoy_55 (by decide) rfl ?_
      refine g_iload_n (pc' := 57) C dX11_convoy_56 1 rfl rfl ?_
      refine g_imul (pc' := 58) C dX11_convoy_57 rfl ?_
      refine g_iconst (pc' := 59) (v := 4) C dX11_convoy_58 (by decide) rfl ?_
      refine g_iadd (pc' := 60) C dX11_convoy_59 rfl ?_
      obtain ⟨h23, h⟩ := chk_some h
      refine g_iald (pc' := 61) C (o := 1) (by decide) rfl (inb_d h23) dX11_convoy_60 rfl ?_
      obtain ⟨q24, h25, h⟩ := bind_some h
      refine g_callVi (pc' := 64) (res := q24) C [.int x1, .int (x2 + x4), .int (rA σ 1 ((5 * x1) + 4))] cY_X11_isOpen rfl (o := 0) (by decide) rfl mv_X11_isOpen mm_X11_120 ⟨Nat.le_trans (by decide) hR.1, Nat.le_trans (by decide) hR.2⟩ rfl (Nat.le_of_ble_eq_true rfl) rfl dX11_convoy_61 (c_X11_isOpen l base D cA σ x1 (x2 + x4) (rA σ 1 ((5 * x1) + 4)) q24 h25) rfl ?_
      refine g_if_eq (pc' := 67) (tgt := 73) C dX11_convoy_64 (by decide) rfl (fun hc => ?_) (fun hc => ?_)
      · rw [if_pos hc] at h
        exact g_sub C [0, 3, 4] rfl (w_X11_convoy_B73 C hr hR _ _ _ h)
      · rw [if_neg hc] at h
        obtain ⟨v26, e27, h⟩ := let_some h
        refine g_iinc (pc' := 70) (v := v26) (lv' := [(4, .int v26), (0, .ref (base + 0)), (1, .int x1), (2, .int x2), (3, .int x3)]) C dX11_convoy_67 4 rfl (by rw [e27]; rfl) (by decide) rfl rfl ?_
        refine g_goto (tgt := 38) C dX11_convoy_70 (by decide) ?_
        exact g_sub C [1, 2, 3, 4, 0] rfl (ih _ _ _ _ _ h)
noncomputable def f_X11_convoy (σ : cr_S) (a1 : Int32) (a2 : Int32) (a3 : Int32) : Option (cr_S × Int32) :=
  Option.bind (f_X11_isPair σ a1) (fun q1 => (if q1.2 = 0 then some (q1.1, (-1)) else Option.bind (f_X11_isSecond q1.1 a2) (fun q3 => (if q3.2 = 0 then some (q3.1, (-1)) else Option.bind (f_X11_in q3.1 (Int32.toInt64 a3) 0 (Int32.toInt64 ((1 <<< ((rF q3.1 0 1) &&& 31)) - 1))) (fun q5 => (if q5.2 = 0 then some (q5.1, (-1)) else f_X11_convoy_L38 cr_fuel q5.1 a1 a2 a3 0))))))
set_option maxRecDepth 100000 in
set_option maxHeartbeats 4000000 in
theorem w_X11_convoy (C : cr_C p l e R s m args below meth c sfM 17 base D cA cX11_convoy 9 RX11) (hr : meth.sig.returnType = some .int) (hR : 2 ≤ R.frames ∧ 46 ≤ R.locals) {res : cr_S × Int32} (σ : cr_S) (a1 : Int32) (a2 : Int32) (a3 : Int32) (h : f_X11_convoy σ a1 a2 a3 = some res) : cr_W p l e R s m args below meth c sfM 17 base D cA 9 (MQ below (cr_Qi sfM 17 base D cA res) args s 0 0 (cr_A 17 base)) σ 0 [(0, .ref (base + 0)), (1, .int a1), (2, .int a2), (3, .int a3)] [] := by
  unfold f_X11_convoy at h
  refine g_aload_n (pc' := 1) C dX11_convoy_0 0 rfl rfl ?_
  refine g_iload_n (pc' := 2) C dX11_convoy_1 1 rfl rfl ?_
  obtain ⟨q1, h2, h⟩ := bind_some h
  refine g_callVi (pc' := 5) (res := q1) C [.int a1] cY_X11_isPair rfl (o := 0) (by decide) rfl mv_X11_isPair mm_X11_87 ⟨Nat.le_trans (by decide) hR.1, Nat.le_trans (by decide) hR.2⟩ rfl (Nat.le_of_ble_eq_true rfl) rfl dX11_convoy_2 (c_X11_isPair l base D cA σ a1 q1 h2) rfl ?_
  refine g_if_eq (pc' := 8) (tgt := 33) C dX11_convoy_5 (by decide) rfl (fun hc => ?_) (fun hc => ?_)
  · rw [if_pos hc] at h
    refine g_iconst (pc' := 34) (v := (-1)) C dX11_convoy_33 (by decide) rfl ?_
    exact g_iret C hr dX11_convoy_34 h
  · rw [if_neg hc] at h
    refine g_iload_n (pc' := 9) C dX11_convoy_8 2 rfl rfl ?_
    obtain ⟨q3, h4, h⟩ := bind_some h
    refine g_callSi (pc' := 12) (res := q3) C [.int a2] cY_X11_isSecond mv_X11_isSecond mm_X11_222 ⟨Nat.le_trans (by decide) hR.1, Nat.le_trans (by decide) hR.2⟩ rfl (Nat.le_of_ble_eq_true rfl) rfl dX11_convoy_9 (c_X11_isSecond l base D cA q1.1 a2 q3 h4) rfl ?_
    refine g_if_eq (pc' := 15) (tgt := 33) C dX11_convoy_12 (by decide) rfl (fun hc => ?_) (fun hc => ?_)
    · rw [if_pos hc] at h
      refine g_iconst (pc' := 34) (v := (-1)) C dX11_convoy_33 (by decide) rfl ?_
      exact g_iret C hr dX11_convoy_34 h
    · rw [if_neg hc] at h
      refine g_iload_n (pc' := 16) C dX11_convoy_15 3 rfl rfl ?_
      refine g_i2l (pc' := 17) C dX11_convoy_16 rfl ?_
      refine g_lconst (pc' := 18) (v := 0) C dX11_convoy_17 (by decide) rfl ?_
      refine g_iconst (pc' := 19) (v := 1) C dX11_convoy_18 (by decide) rfl ?_
      refine g_aload_n (pc' := 20) C dX11_convoy_19 0 rfl rfl ?_
      refine gg_X11_70 (pc' := 23) C dX11_convoy_20 rfl ?_
      refine g_ishl (pc' := 24) C dX11_convoy_23 rfl ?_
      refine g_iconst (pc' := 25) (v := 1) C dX11_convoy_24 (by decide) rfl ?_
      refine g_isub (pc' := 26) C dX11_convoy_25 rfl ?_
      refine g_i2l (pc' := 27) C dX11_convoy_26 rfl ?_
      obtain ⟨q5, h6, h⟩ := bind_some h
      refine g_callSi (pc' := 30) (res := q5) C [.long (Int32.toInt64 a3), .long 0, .long (Int32.toInt64 ((1 <<< ((rF q3.1 0 1) &&& 31)) - 1))] cY_X11_in mv_X11_in mm_X11_66 ⟨Nat.le_trans (by decide) hR.1, Nat.le_trans (by decide) hR.2⟩ rfl (Nat.le_of_ble_eq_true rfl) rfl dX11_convoy_27 (c_X11_in l base D cA q3.1 (Int32.toInt64 a3) 0 (Int32.toInt64 ((1 <<< ((rF q3.1 0 1) &&& 31)) - 1)) q5 h6) rfl ?_
      refine g_if_ne (pc' := 33) (tgt := 35) C dX11_convoy_30 (by decide) rfl (fun hc => ?_) (fun hc => ?_)
      · rw [if_neg hc] at h
        refine g_iconst (pc' := 36) (v := 0) C dX11_convoy_35 (by decide) rfl ?_
        refine g_istore (pc' := 38) (lv' := [(4, .int 0), (0, .ref (base + 0)), (1, .int a1), (2, .int a2), (3, .int a3)]) C dX11_convoy_36 (by decide) rfl rfl ?_
        exact g_sub C [1, 2, 3, 4, 0] rfl (w_X11_convoy_L38 C hr hR _ _ _ _ _ _ h)
      · rw [if_pos hc] at h
        refine g_iconst (pc' := 34) (v := (-1)) C dX11_convoy_33 (by decide) rfl ?_
        exact g_iret C hr dX11_convoy_34 h
theorem c_X11_convoy (l : Launch) (base : Nat) (D : va_G) (cA : Nat → ClassId) (σ : cr_S) (a1 : Int32) (a2 : Int32) (a3 : Int32) (res : cr_S × Int32) (h : f_X11_convoy σ a1 a2 a3 = some res) : cr_M l yX11_convoy cX11_convoy 9 (some .int) 2 46 sfM 17 base D cA [.ref (base + 0), .int a1, .int a2, .int a3] σ (cr_Qi sfM 17 base D cA res) := by
  refine cr_enter [.ref (base + 0), .int a1, .int a2, .int a3] [(0, .ref (base + 0)), (1, .int a1), (2, .int a2), (3, .int a3)] (by decide) (Nat.le_of_ble_eq_true rfl) rfl ?_
  intro p e R s m below meth c C hr hR
  exact w_X11_convoy C hr hR σ a1 a2 a3 h
noncomputable def f_X11_rudder_B69 (r35 : cr_S → Int32 → Int32 → Int32 → Int32 → Int32 → Option (cr_S × Int32)) (σ : cr_S) (x1 : Int32) (x2 : Int32) (x3 : Int32) (x5 : Int32) (t0 : Int32) (t1 : Int32) : Option (cr_S × Int32) :=
  cr_let (t1 ||| t0) (fun v9 => cr_let (x5 + 1) (fun v11 => r35 σ x1 x2 x3 v9 v11))
set_option maxRecDepth 100000 in
set_option maxHeartbeats 4000000 in
theorem w_X11_rudder_B69 (C : cr_C p l e R s m args below meth c sfM 17 base D cA cX11_rudder 6 RX11) (hr : meth.sig.returnType = some .int) (hR : 5 ≤ R.frames ∧ 120 ≤ R.locals) {res : cr_S × Int32} (r35 : cr_S → Int32 → Int32 → Int32 → Int32 → Int32 → Option (cr_S × Int32)) (hr35 : ∀ (σ : cr_S) (x1 : Int32) (x2 : Int32) (x3 : Int32) (x4 : Int32) (x5 : Int32), r35 σ x1 x2 x3 x4 x5 = some res → cr_W p l e R s m args below meth c sfM 17 base D cA 6 (MQ below (cr_Qi sfM 17 base D cA res) args s 0 0 (cr_A 17 base)) σ 35 [(0, .ref (base + 0)), (1, .int x1), (2, .int x2), (3, .int x3), (4, .int x4), (5, .int x5)] []) (σ : cr_S) (x1 : Int32) (x2 : Int32) (x3 : Int32) (x5 : Int32) (t0 : Int32) (t1 : Int32) (h : f_X11_rudder_B69 r35 σ x1 x2 x3 x5 t0 t1 = some res) : cr_W p l e R s m args below meth c sfM 17 base D cA 6 (MQ below (cr_Qi sfM 17 base D cA res) args s 0 0 (cr_A 17 base)) σ 69 [(0, .ref (base + 0)), (1, .int x1), (2, .int x2), (3, .int x3), (5, .int x5)] [.int t0, .int t1] := by
  unfold f_X11_rudder_B69 at h
  refine g_ior (pc' := 70) C dX11_rudder_69 rfl ?_
  obtain ⟨v9, e10, h⟩ := let_some h
  refine g_nameI e10 ?_
  refine g_istore (pc' := 72) (lv' := [(4, .int v9), (0, .ref (base + 0)), (1, .int x1), (2, .int x2), (3, .int x3), (5, .int x5)]) C dX11_rudder_70 (by decide) rfl rfl ?_
  obtain ⟨v11, e12, h⟩ := let_some h
  refine g_iinc (pc' := 75) (v := v11) (lv' := [(5, .int v11), (4, .int v9), (0, .ref (base + 0)), (1, .int x1), (2, .int x2), (3, .int x3)]) C dX11_rudder_72 5 rfl (by rw [e12]; rfl) (by decide) rfl rfl ?_
  refine g_goto (tgt := 35) C dX11_rudder_75 (by decide) ?_
  exact g_sub C [2, 3, 4, 5, 1, 0] rfl (hr35 _ _ _ _ _ _ h)
noncomputable def f_X11_rudder_L35  : Nat → cr_S → Int32 → Int32 → Int32 → Int32 → Int32 → Option (cr_S × Int32)
  | 0, _, _, _, _, _, _ => none
  | n + 1, σ, x1, x2, x3, x4, x5 =>
    (if (x2 + x3) < x5 then some (σ, x4) else Option.bind (f_X11_goesFull σ x1 x5) (fun q7 => f_X11_rudder_B69 (f_X11_rudder_L35 n) q7 x1 x2 x3 x5 (if (rF q7 0 8) = (-4) then rF q7 0 9 else 0) x4))
set_option maxRecDepth 100000 in
set_option maxHeartbeats 4000000 in
theorem w_X11_rudder_L35 (C : cr_C p l e R s m args below meth c sfM 17 base D cA cX11_rudder 6 RX11) (hr : meth.sig.returnType = some .int) (hR : 5 ≤ R.frames ∧ 120 ≤ R.locals) {res : cr_S × Int32}  : ∀ (n : Nat) (σ : cr_S) (x1 : Int32) (x2 : Int32) (x3 : Int32) (x4 : Int32) (x5 : Int32), f_X11_rudder_L35 n σ x1 x2 x3 x4 x5 = some res → cr_W p l e R s m args below meth c sfM 17 base D cA 6 (MQ below (cr_Qi sfM 17 base D cA res) args s 0 0 (cr_A 17 base)) σ 35 [(0, .ref (base + 0)), (1, .int x1), (2, .int x2), (3, .int x3), (4, .int x4), (5, .int x5)] [] := by
  intro n
  induction n with
  | zero =>
    intro σ x1 x2 x3 x4 x5 h
    cases h
  | succ n ih =>
    intro σ x1 x2 x3 x4 x5 h
    rw [f_X11_rudder_L35] at h
    refine g_iload (pc' := 37) C dX11_rudder_35 5 rfl rfl ?_
    refine g_iload_n (pc' := 38) C dX11_rudder_37 2 rfl rfl ?_
    refine g_iload_n (pc' := 39) C dX11_rudder_38 3 rfl rfl ?_
    refine g_iadd (pc' := 40) C dX11_rudder_39 rfl ?_
    refine g_icmp_gt (pc' := 43) (tgt := 78) C dX11_rudder_40 (by decide) rfl (fun hc => ?_) (fun hc => ?_)
    · rw [if_pos hc] at h
      refine g_iload (pc' := 80) C dX11_rudder_78 4 rfl rfl ?_
      exact g_iret C hr dX11_rudder_80 h
    · rw [if_neg hc] at h
      refine g_aload_n (pc' := 44) C dX11_rudder_43 0 rfl rfl ?_
      refine g_iload_n (pc' := 45) C dX11_rudder_44 1 rfl rfl ?_
      refine g_iload (pc' := 47) C dX11_rudder_45 5 rfl rfl ?_
      obtain ⟨q7, h8, h⟩ := bind_some h
      refine g_callVv (pc' := 50) (res := q7) C [.int x1, .int x5] cY_X11_goesFull rfl (o := 0) (by decide) rfl mv_X11_goesFull mm_X11_211 ⟨Nat.le_trans (by decide) hR.1, Nat.le_trans (by decide) hR.2⟩ rfl (Nat.le_of_ble_eq_true rfl) rfl dX11_rudder_47 (c_X11_goesFull l base D cA σ x1 x5 q7 h8) rfl ?_
      refine g_iload (pc' := 52) C dX11_rudder_50 4 rfl rfl ?_
      refine g_aload_n (pc' := 53) C dX11_rudder_52 0 rfl rfl ?_
      refine gg_X11_133 (pc' := 56) C dX11_rudder_53 rfl ?_
      refine g_bipush (pc' := 58) (v := (-4)) C dX11_rudder_56 (by decide) rfl ?_
      refine g_iteI (σ := q7) (pj := 69) (lv := [(0, .ref (base + 0)), (1, .int x1), (2, .int x2), (3, .int x3), (4, .int x4), (5, .int x5)]) (st := [.int x4]) (cd := (rF q7 0 8) = (-4)) (a := rF q7 0 9) (b := 0) C ?_ (fun kt kf => ?_)
      · exact g_sub C [0, 1, 2, 3, 5] rfl (w_X11_rudder_B69 C hr hR (f_X11_rudder_L35 n) ih _ _ _ _ _ _ _ h)
      · refine g_icmp_ne (pc' := 61) (tgt := 68) C dX11_rudder_58 (by decide) rfl (fun hc => ?_) (fun hc => ?_)
        · refine g_iconst (pc' := 69) (v := 0) C dX11_rudder_68 (by decide) rfl ?_
          exact kf hc
        · refine g_aload_n (pc' := 62) C dX11_rudder_61 0 rfl rfl ?_
          refine gg_X11_136 (pc' := 65) C dX11_rudder_62 rfl ?_
          refine g_goto (tgt := 69) C dX11_rudder_65 (by decide) ?_
          exact kt hc
noncomputable def f_X11_rudder (σ : cr_S) (a1 : Int32) (a2 : Int32) (a3 : Int32) : Option (cr_S × Int32) :=
  Option.bind (f_X11_isShip σ a1) (fun q1 => (if q1.2 = 0 then some (q1.1, (-1)) else Option.bind (f_X11_isSecond q1.1 a2) (fun q3 => (if q3.2 = 0 then some (q3.1, (-1)) else Option.bind (f_X11_in q3.1 (Int32.toInt64 a3) 0 999) (fun q5 => (if q5.2 = 0 then some (q5.1, (-1)) else f_X11_rudder_L35 cr_fuel q5.1 a1 a2 a3 0 a2))))))
set_option maxRecDepth 100000 in
set_option maxHeartbeats 4000000 in
theorem w_X11_rudder (C : cr_C p l e R s m args below meth c sfM 17 base D cA cX11_rudder 6 RX11) (hr : meth.sig.returnType = some .int) (hR : 5 ≤ R.frames ∧ 120 ≤ R.locals) {res : cr_S × Int32} (σ : cr_S) (a1 : Int32) (a2 : Int32) (a3 : Int32) (h : f_X11_rudder σ a1 a2 a3 = some res) : cr_W p l e R s m args below meth c sfM 17 base D cA 6 (MQ below (cr_Qi sfM 17 base D cA res) args s 0 0 (cr_A 17 base)) σ 0 [(0, .ref (base + 0)), (1, .int a1), (2, .int a2), (3, .int a3)] [] := by
  unfold f_X11_rudder at h
  refine g_aload_n (pc' := 1) C dX11_rudder_0 0 rfl rfl ?_
  refine g_iload_n (pc' := 2) C dX11_rudder_1 1 rfl rfl ?_
  obtain ⟨q1, h2, h⟩ := bind_some h
  refine g_callVi (pc' := 5) (res := q1) C [.int a1] cY_X11_isShip rfl (o := 0) (by decide) rfl mv_X11_isShip mm_X11_105 ⟨Nat.le_trans (by decide) hR.1, Nat.le_trans (by decide) hR.2⟩ rfl (Nat.le_of_ble_eq_true rfl) rfl dX11_rudder_2 (c_X11_isShip l base D cA σ a1 q1 h2) rfl ?_
  refine g_if_eq (pc' := 8) (tgt := 27) C dX11_rudder_5 (by decide) rfl (fun hc => ?_) (fun hc => ?_)
  · rw [if_pos hc] at h
    refine g_iconst (pc' := 28) (v := (-1)) C dX11_rudder_27 (by decide) rfl ?_
    exact g_iret C hr dX11_rudder_28 h
  · rw [if_neg hc] at h
    refine g_iload_n (pc' := 9) C dX11_rudder_8 2 rfl rfl ?_
    obtain ⟨q3, h4, h⟩ := bind_some h
    refine g_callSi (pc' := 12) (res := q3) C [.int a2] cY_X11_isSecond mv_X11_isSecond mm_X11_222 ⟨Nat.le_trans (by decide) hR.1, Nat.le_trans (by decide) hR.2⟩ rfl (Nat.le_of_ble_eq_true rfl) rfl dX11_rudder_9 (c_X11_isSecond l base D cA q1.1 a2 q3 h4) rfl ?_
    refine g_if_eq (pc' := 15) (tgt := 27) C dX11_rudder_12 (by decide) rfl (fun hc => ?_) (fun hc => ?_)
    · rw [if_pos hc] at h
      refine g_iconst (pc' := 28) (v := (-1)) C dX11_rudder_27 (by decide) rfl ?_
      exact g_iret C hr dX11_rudder_28 h
    · rw [if_neg hc] at h
      refine g_iload_n (pc' := 16) C dX11_rudder_15 3 rfl rfl ?_
      refine g_i2l (pc' := 17) C dX11_rudder_16 rfl ?_
      refine g_lconst (pc' := 18) (v := 0) C dX11_rudder_17 (by decide) rfl ?_
      refine g_ldc2 (pc' := 21) (v := 999) C dX11_rudder_18 ml_X11_241 rfl ?_
      obtain ⟨q5, h6, h⟩ := bind_some h
      refine g_callSi (pc' := 24) (res := q5) C [.long (Int32.toInt64 a3), .long 0, .long 999] cY_X11_in mv_X11_in mm_X11_66 ⟨Nat.le_trans (by decide) hR.1, Nat.le_trans (by decide) hR.2⟩ rfl (Nat.le_of_ble_eq_true rfl) rfl dX11_rudder_21 (c_X11_in l base D cA q3.1 (Int32.toInt64 a3) 0 999 q5 h6) rfl ?_
      refine g_if_ne (pc' := 27) (tgt := 29) C dX11_rudder_24 (by decide) rfl (fun hc => ?_) (fun hc => ?_)
      · rw [if_neg hc] at h
        refine g_iconst (pc' := 30) (v := 0) C dX11_rudder_29 (by decide) rfl ?_
        refine g_istore (pc' := 32) (lv' := [(4, .int 0), (0, .ref (base + 0)), (1, .int a1), (2, .int a2), (3, .int a3)]) C dX11_rudder_30 (by decide) rfl rfl ?_
        refine g_iload_n (pc' := 33) C dX11_rudder_32 3 rfl rfl ?_
        refine g_istore (pc' := 35) (lv' := [(5, .int a2), (4, .int 0), (0, .ref (base + 0)), (1, .int a1), (2, .int a2), (3, .int a3)]) C dX11_rudder_33 (by decide) rfl rfl ?_
        exact g_sub C [2, 3, 4, 5, 1, 0] rfl (w_X11_rudder_L35 C hr hR _ _ _ _ _ _ _ h)
      · rw [if_pos hc] at h
        refine g_iconst (pc' := 28) (v := (-1)) C dX11_rudder_27 (by decide) rfl ?_
        exact g_iret C hr dX11_rudder_28 h
theorem c_X11_rudder (l : Launch) (base : Nat) (D : va_G) (cA : Nat → ClassId) (σ : cr_S) (a1 : Int32) (a2 : Int32) (a3 : Int32) (res : cr_S × Int32) (h : f_X11_rudder σ a1 a2 a3 = some res) : cr_M l yX11_rudder cX11_rudder 6 (some .int) 5 120 sfM 17 base D cA [.ref (base + 0), .int a1, .int a2, .int a3] σ (cr_Qi sfM 17 base D cA res) := by
  refine cr_enter [.ref (base + 0), .int a1, .int a2, .int a3] [(0, .ref (base + 0)), (1, .int a1), (2, .int a2), (3, .int a3)] (by decide) (Nat.le_of_ble_eq_true rfl) rfl ?_
  intro p e R s m below meth c C hr hR
  exact w_X11_rudder C hr hR σ a1 a2 a3 h
noncomputable def f_X11_worth_B126 (r45 : cr_S → Int32 → Int32 → Int32 → Int32 → Int32 → Int32 → Option (cr_S × Int32)) (σ : cr_S) (x1 : Int32) (x2 : Int32) (x3 : Int32) (x4 : Int32) (x6 : Int32) (t0 : Int32) (t1 : Int32) : Option (cr_S × Int32) :=
  cr_let (t1 + t0) (fun v28 => chk (inb (5 * x2) 30) (cr_let (sA σ 1 (5 * x2) x4) (fun s31 => chk (inb ((5 * x2) + 3) 30) (cr_let (sA s31 1 ((5 * x2) + 3) x3) (fun s34 => cr_let (x6 + 1) (fun v36 => r45 s34 x1 x2 x3 x4 v28 v36))))))
set_option maxRecDepth 100000 in
set_option maxHeartbeats 4000000 in
theorem w_X11_worth_B126 (C : cr_C p l e R s m args below meth c sfM 17 base D cA cX11_worth 7 RX11) (hr : meth.sig.returnType = some .int) (hR : 5 ≤ R.frames ∧ 120 ≤ R.locals) {res : cr_S × Int32} (r45 : cr_S → Int32 → Int32 → Int32 → Int32 → Int32 → Int32 → Option (cr_S × Int32)) (hr45 : ∀ (σ : cr_S) (x1 : Int32) (x2 : Int32) (x3 : Int32) (x4 : Int32) (x5 : Int32) (x6 : Int32), r45 σ x1 x2 x3 x4 x5 x6 = some res → cr_W p l e R s m args below meth c sfM 17 base D cA 7 (MQ below (cr_Qi sfM 17 base D cA res) args s 0 0 (cr_A 17 base)) σ 45 [(0, .ref (base + 0)), (1, .int x1), (2, .int x2), (3, .int x3), (4, .int x4), (5, .int x5), (6, .int x6)] []) (σ : cr_S) (x1 : Int32) (x2 : Int32) (x3 : Int32) (x4 : Int32) (x6 : Int32) (t0 : Int32) (t1 : Int32) (h : f_X11_worth_B126 r45 σ x1 x2 x3 x4 x6 t0 t1 = some res) : cr_W p l e R s m args below meth c sfM 17 base D cA 7 (MQ below (cr_Qi sfM 17 base D cA res) args s 0 0 (cr_A 17 base)) σ 126 [(0, .ref (base + 0)), (1, .int x1), (2, .int x2), (3, .int x3), (4, .int x4), (6, .int x6)] [.int t0, .int t1] := by
  unfold f_X11_worth_B126 at h
  refine g_iadd (pc' := 127) C dX11_worth_126 rfl ?_
  obtain ⟨v28, e29, h⟩ := let_some h
  refine g_nameI e29 ?_
  refine g_istore (pc' := 129) (lv' := [(5, .int v28), (0, .ref (base + 0)), (1, .int x1), (2, .int x2), (3, .int x3), (4, .int x4), (6, .int x6)]) C dX11_worth_127 (by decide) rfl rfl ?_
  refine g_aload_n (pc' := 130) C dX11_worth_129 1 rfl rfl ?_
  refine gg_X11_7 (pc' := 133) C dX11_worth_130 rfl ?_
  refine g_iconst (pc' := 134) (v := 5) C dX11_worth_133 (by decide) rfl ?_
  refine g_iload_n (pc' := 135) C dX11_worth_134 3 rfl rfl ?_
  refine g_imul (pc' := 136) C dX11_worth_135 rfl ?_
  refine g_iload (pc' := 138) C dX11_worth_136 5 rfl rfl ?_
  obtain ⟨h30, h⟩ := chk_some h
  obtain ⟨s31, e32, h⟩ := let_some h
  refine g_iast (pc' := 139) C (o := 1) (by decide) rfl (inb_d h30) dX11_worth_138 rfl e32 ?_
  refine g_aload_n (pc' := 140) C dX11_worth_139 1 rfl rfl ?_
  refine gg_X11_7 (pc' := 143) C dX11_worth_140 rfl ?_
  refine g_iconst (pc' := 144) (v := 5) C dX11_worth_143 (by decide) rfl ?_
  refine g_iload_n (pc' := 145) C dX11_worth_144 3 rfl rfl ?_
  refine g_imul (pc' := 146) C dX11_worth_145 rfl ?_
  refine g_iconst (pc' := 147) (v := 3) C dX11_worth_146 (by decide) rfl ?_
  refine g_iadd (pc' := 148) C dX11_worth_147 rfl ?_
  refine g_iload_n (pc' := 149) C dX11_worth_148 4 rfl rfl ?_
  obtain ⟨h33, h⟩ := chk_some h
  obtain ⟨s34, e35, h⟩ := let_some h
  refine g_iast (pc' := 150) C (o := 1) (by decide) rfl (inb_d h33) dX11_worth_149 rfl e35 ?_
  obtain ⟨v36, e37, h⟩ := let_some h
  refine g_iinc (pc' := 153) (v := v36) (lv' := [(6, .int v36), (5, .int v28), (0, .ref (base + 0)), (1, .int x1), (2, .int x2), (3, .int x3), (4, .int x4)]) C dX11_worth_150 6 rfl (by rw [e37]; rfl) (by decide) rfl rfl ?_
  refine g_goto (tgt := 45) C dX11_worth_153 (by decide) ?_
  exact g_sub C [2, 3, 4, 5, 6, 1, 0] rfl (hr45 _ _ _ _ _ _ _ h)
noncomputable def f_X11_worth_B73 (r45 : cr_S → Int32 → Int32 → Int32 → Int32 → Int32 → Int32 → Option (cr_S × Int32)) (σ : cr_S) (x1 : Int32) (x2 : Int32) (x3 : Int32) (x4 : Int32) (x6 : Int32) (t0 : Int32) (t1 : Int32) : Option (cr_S × Int32) :=
  cr_let (t1 - t0) (fun v15 => chk (inb (5 * x2) 30) (cr_let (sA σ 1 (5 * x2) 0) (fun s18 => chk (inb ((5 * x2) + 2) 30) (chk (inb ((5 * x2) + 3) 30) (cr_let (sA s18 1 ((5 * x2) + 3) (rA s18 1 ((5 * x2) + 2))) (fun s22 => Option.bind (f_X11_goesFull s22 x1 x6) (fun q24 => Option.bind (f_X11_isClean q24) (fun q26 => f_X11_worth_B126 r45 q26.1 x1 x2 x3 x4 x6 (if q26.2 = 0 then 0 else 1) v15))))))))
set_option maxRecDepth 100000 in
set_option maxHeartbeats 4000000 in
theorem w_X11_worth_B73 (C : cr_C p l e R s m args below meth c sfM 17 base D cA cX11_worth 7 RX11) (hr : meth.sig.returnType = some .int) (hR : 5 ≤ R.frames ∧ 120 ≤ R.locals) {res : cr_S × Int32} (r45 : cr_S → Int32 → Int32 → Int32 → Int32 → Int32 → Int32 → Option (cr_S × Int32)) (hr45 : ∀ (σ : cr_S) (x1 : Int32) (x2 : Int32) (x3 : Int32) (x4 : Int32) (x5 : Int32) (x6 : Int32), r45 σ x1 x2 x3 x4 x5 x6 = some res → cr_W p l e R s m args below meth c sfM 17 base D cA 7 (MQ below (cr_Qi sfM 17 base D cA res) args s 0 0 (cr_A 17 base)) σ 45 [(0, .ref (base + 0)), (1, .int x1), (2, .int x2), (3, .int x3), (4, .int x4), (5, .int x5), (6, .int x6)] []) (σ : cr_S) (x1 : Int32) (x2 : Int32) (x3 : Int32) (x4 : Int32) (x6 : Int32) (t0 : Int32) (t1 : Int32) (h : f_X11_worth_B73 r45 σ x1 x2 x3 x4 x6 t0 t1 = some res) : cr_W p l e R s m args below meth c sfM 17 base D cA 7 (MQ below (cr_Qi sfM 17 base D cA res) args s 0 0 (cr_A 17 base)) σ 73 [(0, .ref (base + 0)), (1, .int x1), (2, .int x2), (3, .int x3), (4, .int x4), (6, .int x6)] [.int t0, .int t1] := by
  unfold f_X11_worth_B73 at h
  refine g_isub (pc' := 74) C dX11_worth_73 rfl ?_
  obtain ⟨v15, e16, h⟩ := let_some h
  refine g_nameI e16 ?_
  refine g_istore (pc' := 76) (lv' := [(5, .int v15), (0, .ref (base + 0)), (1, .int x1), (2, .int x2), (3, .int x3), (4, .int x4), (6, .int x6)]) C dX11_worth_74 (by decide) rfl rfl ?_
  refine g_aload_n (pc' := 77) C dX11_worth_76 1 rfl rfl ?_
  refine gg_X11_7 (pc' := 80) C dX11_worth_77 rfl ?_
  refine g_iconst (pc' := 81) (v := 5) C dX11_worth_80 (by decide) rfl ?_
  refine g_iload_n (pc' := 82) C dX11_worth_81 3 rfl rfl ?_
  refine g_imul (pc' := 83) C dX11_worth_82 rfl ?_
  refine g_iconst (pc' := 84) (v := 0) C dX11_worth_83 (by decide) rfl ?_
  obtain ⟨h17, h⟩ := chk_some h
  obtain ⟨s18, e19, h⟩ := let_some h
  refine g_iast (pc' := 85) C (o := 1) (by decide) rfl (inb_d h17) dX11_worth_84 rfl e19 ?_
  refine g_aload_n (pc' := 86) C dX11_worth_85 1 rfl rfl ?_
  refine gg_X11_7 (pc' := 89) C dX11_worth_86 rfl ?_
  refine g_iconst (pc' := 90) (v := 5) C dX11_worth_89 (by decide) rfl ?_
  refine g_iload_n (pc' := 91) C dX11_worth_90 3 rfl rfl ?_
  refine g_imul (pc' := 92) C dX11_worth_91 rfl ?_
  refine g_iconst (pc' := 93) (v := 3) C dX11_worth_92 (by decide) rfl ?_
  refine g_iadd (pc' := 94) C dX11_worth_93 rfl ?_
  refine g_aload_n (pc' := 95) C dX11_worth_94 1 rfl rfl ?_
  refine gg_X11_7 (pc' := 98) C dX11_worth_95 rfl ?_
  refine g_iconst (pc' := 99) (v := 5) C dX11_worth_98 (by decide) rfl ?_
  refine g_iload_n (pc' := 100) C dX11_worth_99 3 rfl rfl ?_
  refine g_imul (pc' := 101) C dX11_worth_100 rfl ?_
  refine g_iconst (pc' := 102) (v := 2) C dX11_worth_101 (by decide) rfl ?_
  refine g_iadd (pc' := 103) C dX11_worth_102 rfl ?_
  obtain ⟨h20, h⟩ := chk_some h
  refine g_iald (pc' := 104) C (o := 1) (by decide) rfl (inb_d h20) dX11_worth_103 rfl ?_
  obtain ⟨h21, h⟩ := chk_some h
  obtain ⟨s22, e23, h⟩ := let_some h
  refine g_iast (pc' := 105) C (o := 1) (by decide) rfl (inb_d h21) dX11_worth_104 rfl e23 ?_
  refine g_aload_n (pc' := 106) C dX11_worth_105 1 rfl rfl ?_
  refine g_iload_n (pc' := 107) C dX11_worth_106 2 rfl rfl ?_
  refine g_iload (pc' := 109) C dX11_worth_107 6 rfl rfl ?_
  obtain ⟨q24, h25, h⟩ := bind_some h
  refine g_callVv (pc' := 112) (res := q24) C [.int x1, .int x6] cY_X11_goesFull rfl (o := 0) (by decide) rfl mv_X11_goesFull mm_X11_211 ⟨Nat.le_trans (by decide) hR.1, Nat.le_trans (by decide) hR.2⟩ rfl (Nat.le_of_ble_eq_true rfl) rfl dX11_worth_109 (c_X11_goesFull l base D cA s22 x1 x6 q24 h25) rfl ?_
  refine g_iload (pc' := 114) C dX11_worth_112 0 rfl rfl ?_
  refine g_aload_n (pc' := 115) C dX11_worth_114 1 rfl rfl ?_
  obtain ⟨q26, h27, h⟩ := bind_some h
  refine g_callVi (pc' := 118) (res := q26) C [] cY_X11_isClean rfl (o := 0) (by decide) rfl mv_X11_isClean mm_X11_243 ⟨Nat.le_trans (by decide) hR.1, Nat.le_trans (by decide) hR.2⟩ rfl (Nat.le_of_ble_eq_true rfl) rfl dX11_worth_115 (c_X11_isClean l base D cA q24 q26 h27) rfl ?_
  refine g_iteI (σ := q26.1) (pj := 126) (lv := [(5, .int v15), (0, .ref (base + 0)), (1, .int x1), (2, .int x2), (3, .int x3), (4, .int x4), (6, .int x6)]) (st := [.int v15]) (cd := q26.2 = 0) (a := 0) (b := 1) C ?_ (fun kt kf => ?_)
  · exact g_sub C [1, 2, 3, 4, 5, 6] rfl (w_X11_worth_B126 C hr hR r45 hr45 _ _ _ _ _ _ _ _ h)
  · refine g_if_eq (pc' := 121) (tgt := 125) C dX11_worth_118 (by decide) rfl (fun hc => ?_) (fun hc => ?_)
    · refine g_iconst (pc' := 126) (v := 0) C dX11_worth_125 (by decide) rfl ?_
      exact kt hc
    · refine g_iconst (pc' := 122) (v := 1) C dX11_worth_121 (by decide) rfl ?_
      refine g_goto (tgt := 126) C dX11_worth_122 (by decide) ?_
      exact kf hc
noncomputable def f_X11_worth_L45  : Nat → cr_S → Int32 → Int32 → Int32 → Int32 → Int32 → Int32 → Option (cr_S × Int32)
  | 0, _, _, _, _, _, _, _ => none
  | n + 1, σ, x1, x2, x3, x4, x5, x6 =>
    (if 60 ≤ x6 then some (σ, x5) else Option.bind (f_X11_goesFull σ x1 x6) (fun q11 => Option.bind (f_X11_isClean q11) (fun q13 => f_X11_worth_B73 (f_X11_worth_L45 n) q13.1 x1 x2 x3 x4 x6 (if q13.2 = 0 then 0 else 1) x5)))
set_option maxRecDepth 100000 in
set_option maxHeartbeats 4000000 in
theorem w_X11_worth_L45 (C : cr_C p l e R s m args below meth c sfM 17 base D cA cX11_worth 7 RX11) (hr : meth.sig.returnType = some .int) (hR : 5 ≤ R.frames ∧ 120 ≤ R.locals) {res : cr_S × Int32}  : ∀ (n : Nat) (σ : cr_S) (x1 : Int32) (x2 : Int32) (x3 : Int32) (x4 : Int32) (x5 : Int32) (x6 : Int32), f_X11_worth_L45 n σ x1 x2 x3 x4 x5 x6 = some res → cr_W p l e R s m args below meth c sfM 17 base D cA 7 (MQ below (cr_Qi sfM 17 base D cA res) args s 0 0 (cr_A 17 base)) σ 45 [(0, .ref (base + 0)), (1, .int x1), (2, .int x2), (3, .int x3), (4, .int x4), (5, .int x5), (6, .int x6)] [] := by
  intro n
  induction n with
  | zero =>
    intro σ x1 x2 x3 x4 x5 x6 h
    cases h
  | succ n ih =>
    intro σ x1 x2 x3 x4 x5 x6 h
    rw [f_X11_worth_L45] at h
    refine g_iload (pc' := 47) C dX11_worth_45 6 rfl rfl ?_
    refine g_bipush (pc' := 49) (v := 60) C dX11_worth_47 (by decide) rfl ?_
    refine g_icmp_ge (pc' := 52) (tgt := 156) C dX11_worth_49 (by decide) rfl (fun hc => ?_) (fun hc => ?_)
    · rw [if_pos hc] at h
      refine g_iload (pc' := 158) C dX11_worth_156 5 rfl rfl ?_
      exact g_iret C hr dX11_worth_158 h
    · rw [if_neg hc] at h
      refine g_aload_n (pc' := 53) C dX11_worth_52 0 rfl rfl ?_
      refine g_iload_n (pc' := 54) C dX11_worth_53 1 rfl rfl ?_
      refine g_iload (pc' := 56) C dX11_worth_54 6 rfl rfl ?_
      obtain ⟨q11, h12, h⟩ := bind_some h
      refine g_callVv (pc' := 59) (res := q11) C [.int x1, .int x6] cY_X11_goesFull rfl (o := 0) (by decide) rfl mv_X11_goesFull mm_X11_211 ⟨Nat.le_trans (by decide) hR.1, Nat.le_trans (by decide) hR.2⟩ rfl (Nat.le_of_ble_eq_true rfl) rfl dX11_worth_56 (c_X11_goesFull l base D cA σ x1 x6 q11 h12) rfl ?_
      refine g_iload (pc' := 61) C dX11_worth_59 5 rfl rfl ?_
      refine g_aload_n (pc' := 62) C dX11_worth_61 0 rfl rfl ?_
      obtain ⟨q13, h14, h⟩ := bind_some h
      refine g_callVi (pc' := 65) (res := q13) C [] cY_X11_isClean rfl (o := 0) (by decide) rfl mv_X11_isClean mm_X11_243 ⟨Nat.le_trans (by decide) hR.1, Nat.le_trans (by decide) hR.2⟩ rfl (Nat.le_of_ble_eq_true rfl) rfl dX11_worth_62 (c_X11_isClean l base D cA q11 q13 h14) rfl ?_
      refine g_iteI (σ := q13.1) (pj := 73) (lv := [(0, .ref (base + 0)), (1, .int x1), (2, .int x2), (3, .int x3), (4, .int x4), (5, .int x5), (6, .int x6)]) (st := [.int x5]) (cd := q13.2 = 0) (a := 0) (b := 1) C ?_ (fun kt kf => ?_)
      · exact g_sub C [0, 1, 2, 3, 4, 6] rfl (w_X11_worth_B73 C hr hR (f_X11_worth_L45 n) ih _ _ _ _ _ _ _ _ h)
      · refine g_if_eq (pc' := 68) (tgt := 72) C dX11_worth_65 (by decide) rfl (fun hc => ?_) (fun hc => ?_)
        · refine g_iconst (pc' := 73) (v := 0) C dX11_worth_72 (by decide) rfl ?_
          exact kt hc
        · refine g_iconst (pc' := 69) (v := 1) C dX11_worth_68 (by decide) rfl ?_
          refine g_goto (tgt := 73) C dX11_worth_69 (by decide) ?_
          exact kf hc
noncomputable def f_X11_worth (σ : cr_S) (a1 : Int32) (a2 : Int32) : Option (cr_S × Int32) :=
  Option.bind (f_X11_isShip σ a1) (fun q1 => (if q1.2 = 0 then some (q1.1, (-1)) else Option.bind (f_X11_isPair q1.1 a2) (fun q3 => (if q3.2 = 0 then some (q3.1, (-1)) else chk (inb ((5 * a2) + 3) 30) (cr_let (rA q3.1 1 ((5 * a2) + 3)) (fun v6 => chk (inb (5 * a2) 30) (cr_let (rA q3.1 1 (5 * a2)) (fun v9 => f_X11_worth_L45 cr_fuel q3.1 a1 a2 v6 v9 0 0))))))))
set_option maxRecDepth 100000 in
set_option maxHeartbeats 4000000 in
theorem w_X11_worth (C : cr_C p l e R s m args below meth c sfM 17 base D cA cX11_worth 7 RX11) (hr : meth.sig.returnType = some .int) (hR : 5 ≤ R.frames ∧ 120 ≤ R.locals) {res : cr_S × Int32} (σ : cr_S) (a1 : Int32) (a2 : Int32) (h : f_X11_worth σ a1 a2 = some res) : cr_W p l e R s m args below meth c sfM 17 base D cA 7 (MQ below (cr_Qi sfM 17 base D cA res) args s 0 0 (cr_A 17 base)) σ 0 [(0, .ref (base + 0)), (1, .int a1), (2, .int a2)] [] := by
  unfold f_X11_worth at h
  refine g_aload_n (pc' := 1) C dX11_worth_0 0 rfl rfl ?_
  refine g_iload_n (pc' := 2) C dX11_worth_1 1 rfl rfl ?_
  obtain ⟨q1, h2, h⟩ := bind_some h
  refine g_callVi (pc' := 5) (res := q1) C [.int a1] cY_X11_isShip rfl (o := 0) (by decide) rfl mv_X11_isShip mm_X11_105 ⟨Nat.le_trans (by decide) hR.1, Nat.le_trans (by decide) hR.2⟩ rfl (Nat.le_of_ble_eq_true rfl) rfl dX11_worth_2 (c_X11_isShip l base D cA σ a1 q1 h2) rfl ?_
  refine g_if_eq (pc' := 8) (tgt := 16) C dX11_worth_5 (by decide) rfl (fun hc => ?_) (fun hc => ?_)
  · rw [if_pos hc] at h
    refine g_iconst (pc' := 17) (v := (-1)) C dX11_worth_16 (by decide) rfl ?_
    exact g_iret C hr dX11_worth_17 h
  · rw [if_neg hc] at h
    refine g_aload_n (pc' := 9) C dX11_worth_8 0 rfl rfl ?_
    refine g_iload_n (pc' := 10) C dX11_worth_9 2 rfl rfl ?_
    obtain ⟨q3, h4, h⟩ := bind_some h
    refine g_callVi (pc' := 13) (res := q3) C [.int a2] cY_X11_isPair rfl (o := 0) (by decide) rfl mv_X11_isPair mm_X11_87 ⟨Nat.le_trans (by decide) hR.1, Nat.le_trans (by decide) hR.2⟩ rfl (Nat.le_of_ble_eq_true rfl) rfl dX11_worth_10 (c_X11_isPair l base D cA q1.1 a2 q3 h4) rfl ?_
    refine g_if_ne (pc' := 16) (tgt := 18) C dX11_worth_13 (by decide) rfl (fun hc => ?_) (fun hc => ?_)
    · rw [if_neg hc] at h
      refine g_aload_n (pc' := 19) C dX11_worth_18 0 rfl rfl ?_
      refine gg_X11_7 (pc' := 22) C dX11_worth_19 rfl ?_
      refine g_iconst (pc' := 23) (v := 5) C dX11_worth_22 (by decide) rfl ?_
      refine g_iload_n (pc' := 24) C dX11_worth_23 2 rfl rfl ?_
      refine g_imul (pc' := 25) C dX11_worth_24 rfl ?_
      refine g_iconst (pc' := 26) (v := 3) C dX11_worth_25 (by decide) rfl ?_
      refine g_iadd (pc' := 27) C dX11_worth_26 rfl ?_
      obtain ⟨h5, h⟩ := chk_some h
      refine g_iald (pc' := 28) C (o := 1) (by decide) rfl (inb_d h5) dX11_worth_27 rfl ?_
      obtain ⟨v6, e7, h⟩ := let_some h
      refine g_nameI e7 ?_
      refine g_istore_n (pc' := 29) (lv' := [(3, .int v6), (0, .ref (base + 0)), (1, .int a1), (2, .int a2)]) C dX11_worth_28 rfl (by decide) rfl rfl ?_
      refine g_aload_n (pc' := 30) C dX11_worth_29 1 rfl rfl ?_
      refine gg_X11_7 (pc' := 33) C dX11_worth_30 rfl ?_
      refine g_iconst (pc' := 34) (v := 5) C dX11_worth_33 (by decide) rfl ?_
      refine g_iload_n (pc' := 35) C dX11_worth_34 3 rfl rfl ?_
      refine g_imul (pc' := 36) C dX11_worth_35 rfl ?_
      obtain ⟨h8, h⟩ := chk_some h
      refine g_iald (pc' := 37) C (o := 1) (by decide) rfl (inb_d h8) dX11_worth_36 rfl ?_
      obtain ⟨v9, e10, h⟩ := let_some h
      refine g_nameI e10 ?_
      refine g_istore (pc' := 39) (lv' := [(4, .int v9), (3, .int v6), (0, .ref (base + 0)), (1, .int a1), (2, .int a2)]) C dX11_worth_37 (by decide) rfl rfl ?_
      refine g_iconst (pc' := 40) (v := 0) C dX11_worth_39 (by decide) rfl ?_
      refine g_istore (pc' := 42) (lv' := [(5, .int 0), (4, .int v9), (3, .int v6), (0, .ref (base + 0)), (1, .int a1), (2, .int a2)]) C dX11_worth_40 (by decide) rfl rfl ?_
      refine g_iconst (pc' := 43) (v := 0) C dX11_worth_42 (by decide) rfl ?_
      refine g_istore (pc' := 45) (lv' := [(6, .int 0), (5, .int 0), (4, .int v9), (3, .int v6), (0, .ref (base + 0)), (1, .int a1), (2, .int a2)]) C dX11_worth_43 (by decide) rfl rfl ?_
      exact g_sub C [4, 5, 6, 3, 2, 1, 0] rfl (w_X11_worth_L45 C hr hR _ _ _ _ _ _ _ _ h)
    · rw [if_pos hc] at h
      refine g_iconst (pc' := 17) (v := (-1)) C dX11_worth_16 (by decide) rfl ?_
      exact g_iret C hr dX11_worth_17 h
theorem c_X11_worth (l : Launch) (base : Nat) (D : va_G) (cA : Nat → ClassId) (σ : cr_S) (a1 : Int32) (a2 : Int32) (res : cr_S × Int32) (h : f_X11_worth σ a1 a2 = some res) : cr_M l yX11_worth cX11_worth 7 (some .int) 5 120 sfM 17 base D cA [.ref (base + 0), .int a1, .int a2] σ (cr_Qi sfM 17 base D cA res) := by
  refine cr_enter [.ref (base + 0), .int a1, .int a2] [(0, .ref (base + 0)), (1, .int a1), (2, .int a2)] (by decide) (Nat.le_of_ble_eq_true rfl) rfl ?_
  intro p e R s m below meth c C hr hR
  exact w_X11_worth C hr hR σ a1 a2 h
end

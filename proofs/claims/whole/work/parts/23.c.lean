section
variable {p : Program} {l : Launch} {e : Env} {R : Room} {s : State} {m : MethodId} {args : Array Value} {below : List Frame} {meth : Method} {c : Code} {base : Nat} {D : va_G} {cA : Nat → ClassId}
def f_X10_goFull (σ : cr_S) (a1 : Int32) (a2 : Int32) : Option (cr_S) :=
  chk (inb a1 5) (Option.bind (f_X6_high σ (15 + a1.toNatClampNeg)) (fun q2 => chk (kC (15 + a1.toNatClampNeg) = 6) (Option.bind (f_J7_fill_53178_71 q2.1 q2.2) (fun q5 => Option.bind (f_X0_go_70_1 q5 (15 + a1.toNatClampNeg) a2) (fun q7 => some q7)))))
set_option maxRecDepth 100000 in
set_option maxHeartbeats 4000000 in
theorem w_X10_goFull (C : cr_C p l e R s m args below meth c sfC 97 base D cA cX10_goFull 4 RX10) (hr : meth.sig.returnType = none) (hR : 5 ≤ R.frames ∧ 120 ≤ R.locals) {res : cr_S} (σ : cr_S) (a1 : Int32) (a2 : Int32) (h : f_X10_goFull σ a1 a2 = some res) : cr_W p l e R s m args below meth c sfC 97 base D cA 4 (MQ below (cr_Qv sfC 97 base D cA res) args s 0 0 (cr_A 97 base)) σ 0 [(0, .ref (base + 0)), (1, .int a1), (2, .int a2)] [] := by
  unfold f_X10_goFull at h
  refine g_aload_n (pc' := 1) C dX10_goFull_0 0 rfl rfl ?_
  refine gg_X10_12 (pc' := 4) (o := 0) (r := 1) C rfl rfl dX10_goFull_1 rfl ?_
  refine gg_X10_85 (pc' := 7) (o := 1) (r := 3) C rfl rfl dX10_goFull_4 rfl ?_
  refine g_iload_n (pc' := 8) C dX10_goFull_7 1 rfl rfl ?_
  obtain ⟨h1, h⟩ := chk_some h
  refine g_aald (pc' := 9) C (o := 3) (by decide) rfl (cn := "ClashRocks$Ship") rfl h1 dX10_goFull_8 rfl ?_
  refine g_astore_n (pc' := 10) (lv' := [(3, .ref (base + (15 + a1.toNatClampNeg))), (0, .ref (base + 0)), (1, .int a1), (2, .int a2)]) C dX10_goFull_9 rfl (by decide) rfl rfl ?_
  refine g_aload_n (pc' := 11) C dX10_goFull_10 1 rfl rfl ?_
  refine gg_X10_29 (pc' := 14) (o := 0) (r := 70) C rfl rfl dX10_goFull_11 rfl ?_
  refine gg_X10_296 (pc' := 17) (o := 70) (r := 71) C rfl rfl dX10_goFull_14 rfl ?_
  refine g_aload_n (pc' := 18) C dX10_goFull_17 0 rfl rfl ?_
  obtain ⟨q2, h3, h⟩ := bind_some h
  obtain ⟨h4, h⟩ := chk_some h
  refine g_callVi (pc' := 21) (res := q2) C [] cY_X6_high rfl (o := 15 + a1.toNatClampNeg) (kC_lt h4 (by decide)) (sfC_6 h4) mv_X6_high mm_X10_117 ⟨Nat.le_trans (by decide) hR.1, Nat.le_trans (by decide) hR.2⟩ rfl (Nat.le_of_ble_eq_true rfl) rfl dX10_goFull_18 (c_X6_high l base D cA σ (15 + a1.toNatClampNeg) q2 h3) rfl ?_
  obtain ⟨q5, h6, h⟩ := bind_some h
  refine g_callSv (pc' := 24) (res := q5) C [.ref (base + 71), .int q2.2] cY_J7_fill_53178 mv_J7_fill_53178 mm_X10_322 ⟨Nat.le_trans (by decide) hR.1, Nat.le_trans (by decide) hR.2⟩ rfl (Nat.le_of_ble_eq_true rfl) rfl dX10_goFull_21 (c_J7_fill_53178_71 l base D cA q2.1 q2.2 q5 h6) rfl ?_
  refine g_aload_n (pc' := 25) C dX10_goFull_24 1 rfl rfl ?_
  refine gg_X10_29 (pc' := 28) (o := 0) (r := 70) C rfl rfl dX10_goFull_25 rfl ?_
  refine g_aload_n (pc' := 29) C dX10_goFull_28 1 rfl rfl ?_
  refine gg_X10_12 (pc' := 32) (o := 0) (r := 1) C rfl rfl dX10_goFull_29 rfl ?_
  refine g_aload_n (pc' := 33) C dX10_goFull_32 0 rfl rfl ?_
  refine g_iload_n (pc' := 34) C dX10_goFull_33 3 rfl rfl ?_
  obtain ⟨q7, h8, h⟩ := bind_some h
  refine g_callVv (pc' := 37) (res := q7) C [.ref (base + 1), .ref (base + (15 + a1.toNatClampNeg)), .int a2] cY_X0_go rfl (o := 70) (by decide) rfl mv_X0_go mm_X10_297 ⟨Nat.le_trans (by decide) hR.1, Nat.le_trans (by decide) hR.2⟩ rfl (Nat.le_of_ble_eq_true rfl) rfl dX10_goFull_34 (c_X0_go_70_1 l base D cA q5 (15 + a1.toNatClampNeg) a2 q7 h8) rfl ?_
  exact g_vret C hr dX10_goFull_37 h
theorem c_X10_goFull (l : Launch) (base : Nat) (D : va_G) (cA : Nat → ClassId) (σ : cr_S) (a1 : Int32) (a2 : Int32) (res : cr_S) (h : f_X10_goFull σ a1 a2 = some res) : cr_M l yX10_goFull cX10_goFull 4 none 5 120 sfC 97 base D cA [.ref (base + 0), .int a1, .int a2] σ (cr_Qv sfC 97 base D cA res) := by
  refine cr_enter [.ref (base + 0), .int a1, .int a2] [(0, .ref (base + 0)), (1, .int a1), (2, .int a2)] (by decide) (Nat.le_of_ble_eq_true rfl) rfl ?_
  intro p e R s m below meth c C hr hR
  exact w_X10_goFull C hr hR σ a1 a2 h
def f_X0_isClean_70 (σ : cr_S) : Option (cr_S × Int32) :=
  (if (rF σ 70 3) = (-4) then (if (rF σ 70 4) = 0 then some (σ, 1) else some (σ, 0)) else some (σ, 0))
set_option maxRecDepth 100000 in
set_option maxHeartbeats 4000000 in
theorem w_X0_isClean_70 (C : cr_C p l e R s m args below meth c sfC 97 base D cA cX0_isClean 1 RX0) (hr : meth.sig.returnType = some .boolean) (hR : 0 ≤ R.frames ∧ 0 ≤ R.locals) {res : cr_S × Int32} (σ : cr_S) (h : f_X0_isClean_70 σ = some res) : cr_W p l e R s m args below meth c sfC 97 base D cA 1 (MQ below (cr_Qi sfC 97 base D cA res) args s 0 0 (cr_A 97 base)) σ 0 [(0, .ref (base + 70))] [] := by
  unfold f_X0_isClean_70 at h
  refine g_aload_n (pc' := 1) C dX0_isClean_0 0 rfl rfl ?_
  refine gg_X0_21 (pc' := 4) (o := 70) C rfl dX0_isClean_1 rfl ?_
  refine g_bipush (pc' := 6) (v := (-4)) C dX0_isClean_4 (by decide) rfl ?_
  refine g_icmp_ne (pc' := 9) (tgt := 20) C dX0_isClean_6 (by decide) rfl (fun hc => ?_) (fun hc => ?_)
  · rw [if_neg hc] at h
    refine g_iconst (pc' := 21) (v := 0) C dX0_isClean_20 (by decide) rfl ?_
    exact g_zret C hr rfl dX0_isClean_21 h
  · rw [if_pos hc] at h
    refine g_aload_n (pc' := 10) C dX0_isClean_9 0 rfl rfl ?_
    refine gg_X0_50 (pc' := 13) (o := 70) C rfl dX0_isClean_10 rfl ?_
    refine g_if_ne (pc' := 16) (tgt := 20) C dX0_isClean_13 (by decide) rfl (fun hc => ?_) (fun hc => ?_)
    · rw [if_neg hc] at h
      refine g_iconst (pc' := 21) (v := 0) C dX0_isClean_20 (by decide) rfl ?_
      exact g_zret C hr rfl dX0_isClean_21 h
    · rw [if_pos hc] at h
      refine g_iconst (pc' := 17) (v := 1) C dX0_isClean_16 (by decide) rfl ?_
      refine g_goto (tgt := 21) C dX0_isClean_17 (by decide) ?_
      exact g_zret C hr rfl dX0_isClean_21 h
theorem c_X0_isClean_70 (l : Launch) (base : Nat) (D : va_G) (cA : Nat → ClassId) (σ : cr_S) (res : cr_S × Int32) (h : f_X0_isClean_70 σ = some res) : cr_M l yX0_isClean cX0_isClean 1 (some .boolean) 0 0 sfC 97 base D cA [.ref (base + 70)] σ (cr_Qi sfC 97 base D cA res) := by
  refine cr_enter [.ref (base + 70)] [(0, .ref (base + 70))] (by decide) (Nat.le_of_ble_eq_true rfl) rfl ?_
  intro p e R s m below meth c C hr hR
  exact w_X0_isClean_70 C hr hR σ h
def f_X10_lots_B86 (r28 : cr_S → Int32 → Int32 → Int32 → Int32 → Int32 → Option (cr_S × Int32)) (σ : cr_S) (x1 : Int32) (x2 : Int32) (x3 : Int32) (x5 : Int32) (t0 : Int32) (t1 : Int32) : Option (cr_S × Int32) :=
  cr_let (t1 + t0) (fun v13 => cr_let (x5 + 1) (fun v15 => r28 σ x1 x2 x3 v13 v15))
set_option maxRecDepth 100000 in
set_option maxHeartbeats 4000000 in
theorem w_X10_lots_B86 (C : cr_C p l e R s m args below meth c sfC 97 base D cA cX10_lots 6 RX10) (hr : meth.sig.returnType = some .int) (hR : 6 ≤ R.frames ∧ 143 ≤ R.locals) {res : cr_S × Int32} (r28 : cr_S → Int32 → Int32 → Int32 → Int32 → Int32 → Option (cr_S × Int32)) (hr28 : ∀ (σ : cr_S) (x1 : Int32) (x2 : Int32) (x3 : Int32) (x4 : Int32) (x5 : Int32), r28 σ x1 x2 x3 x4 x5 = some res → cr_W p l e R s m args below meth c sfC 97 base D cA 6 (MQ below (cr_Qi sfC 97 base D cA res) args s 0 0 (cr_A 97 base)) σ 28 [(0, .ref (base + 0)), (1, .int x1), (2, .int x2), (3, .int x3), (4, .int x4), (5, .int x5)] []) (σ : cr_S) (x1 : Int32) (x2 : Int32) (x3 : Int32) (x5 : Int32) (t0 : Int32) (t1 : Int32) (h : f_X10_lots_B86 r28 σ x1 x2 x3 x5 t0 t1 = some res) : cr_W p l e R s m args below meth c sfC 97 base D cA 6 (MQ below (cr_Qi sfC 97 base D cA res) args s 0 0 (cr_A 97 base)) σ 86 [(0, .ref (base + 0)), (1, .int x1), (2, .int x2), (3, .int x3), (5, .int x5)] [.int t0, .int t1] := by
  unfold f_X10_lots_B86 at h
  refine g_iadd (pc' := 87) C dX10_lots_86 rfl ?_
  obtain ⟨v13, e14, h⟩ := let_some h
  refine g_nameI e14 ?_
  refine g_istore (pc' := 89) (lv' := [(4, .int v13), (0, .ref (base + 0)), (1, .int x1), (2, .int x2), (3, .int x3), (5, .int x5)]) C dX10_lots_87 (by decide) rfl rfl ?_
  obtain ⟨v15, e16, h⟩ := let_some h
  refine g_iinc (pc' := 92) (v := v15) (lv' := [(5, .int v15), (4, .int v13), (0, .ref (base + 0)), (1, .int x1), (2, .int x2), (3, .int x3)]) C dX10_lots_89 5 rfl (by rw [e16]; rfl) (by decide) rfl rfl ?_
  refine g_goto (tgt := 28) C dX10_lots_92 (by decide) ?_
  exact g_sub C [2, 3, 4, 5, 1, 0] rfl (hr28 _ _ _ _ _ _ h)
def f_X10_lots_B65 (r28 : cr_S → Int32 → Int32 → Int32 → Int32 → Int32 → Option (cr_S × Int32)) (σ : cr_S) (x1 : Int32) (x2 : Int32) (x4 : Int32) (x5 : Int32) (t0 : Int32) (t1 : Int32) : Option (cr_S × Int32) :=
  cr_let (t1 + t0) (fun v11 => f_X10_lots_B86 r28 σ x1 x2 v11 x5 (if (rF σ 70 3) = (-4) then 0 else 1) x4)
set_option maxRecDepth 100000 in
set_option maxHeartbeats 4000000 in
theorem w_X10_lots_B65 (C : cr_C p l e R s m args below meth c sfC 97 base D cA cX10_lots 6 RX10) (hr : meth.sig.returnType = some .int) (hR : 6 ≤ R.frames ∧ 143 ≤ R.locals) {res : cr_S × Int32} (r28 : cr_S → Int32 → Int32 → Int32 → Int32 → Int32 → Option (cr_S × Int32)) (hr28 : ∀ (σ : cr_S) (x1 : Int32) (x2 : Int32) (x3 : Int32) (x4 : Int32) (x5 : Int32), r28 σ x1 x2 x3 x4 x5 = some res → cr_W p l e R s m args below meth c sfC 97 base D cA 6 (MQ below (cr_Qi sfC 97 base D cA res) args s 0 0 (cr_A 97 base)) σ 28 [(0, .ref (base + 0)), (1, .int x1), (2, .int x2), (3, .int x3), (4, .int x4), (5, .int x5)] []) (σ : cr_S) (x1 : Int32) (x2 : Int32) (x4 : Int32) (x5 : Int32) (t0 : Int32) (t1 : Int32) (h : f_X10_lots_B65 r28 σ x1 x2 x4 x5 t0 t1 = some res) : cr_W p l e R s m args below meth c sfC 97 base D cA 6 (MQ below (cr_Qi sfC 97 base D cA res) args s 0 0 (cr_A 97 base)) σ 65 [(0, .ref (base + 0)), (1, .int x1), (2, .int x2), (4, .int x4), (5, .int x5)] [.int t0, .int t1] := by
  unfold f_X10_lots_B65 at h
  refine g_iadd (pc' := 66) C dX10_lots_65 rfl ?_
  obtain ⟨v11, e12, h⟩ := let_some h
  refine g_nameI e12 ?_
  refine g_istore_n (pc' := 67) (lv' := [(3, .int v11), (0, .ref (base + 0)), (1, .int x1), (2, .int x2), (4, .int x4), (5, .int x5)]) C dX10_lots_66 rfl (by decide) rfl rfl ?_
  refine g_iload (pc' := 69) C dX10_lots_67 4 rfl rfl ?_
  refine g_aload_n (pc' := 70) C dX10_lots_69 1 rfl rfl ?_
  refine gg_X10_29 (pc' := 73) (o := 0) (r := 70) C rfl rfl dX10_lots_70 rfl ?_
  refine gg_X10_203 (pc' := 76) (o := 70) C rfl dX10_lots_73 rfl ?_
  refine g_bipush (pc' := 78) (v := (-4)) C dX10_lots_76 (by decide) rfl ?_
  refine g_iteI (σ := σ) (pj := 86) (lv := [(3, .int v11), (0, .ref (base + 0)), (1, .int x1), (2, .int x2), (4, .int x4), (5, .int x5)]) (st := [.int x4]) (cd := (rF σ 70 3) = (-4)) (a := 0) (b := 1) C ?_ (fun kt kf => ?_)
  · exact g_sub C [1, 2, 3, 0, 5] rfl (w_X10_lots_B86 C hr hR r28 hr28 _ _ _ _ _ _ _ h)
  · refine g_icmp_ne (pc' := 81) (tgt := 85) C dX10_lots_78 (by decide) rfl (fun hc => ?_) (fun hc => ?_)
    · refine g_iconst (pc' := 86) (v := 1) C dX10_lots_85 (by decide) rfl ?_
      exact kf hc
    · refine g_iconst (pc' := 82) (v := 0) C dX10_lots_81 (by decide) rfl ?_
      refine g_goto (tgt := 86) C dX10_lots_82 (by decide) ?_
      exact kt hc
def f_X10_lots_L28  : Nat → cr_S → Int32 → Int32 → Int32 → Int32 → Int32 → Option (cr_S × Int32)
  | 0, _, _, _, _, _, _ => none
  | n + 1, σ, x1, x2, x3, x4, x5 =>
    (if x2 ≤ x5 then some (σ, x3 + (100 * x4)) else Option.bind (f_X9_drawn_1 σ) (fun q5 => Option.bind (f_X10_goFull q5.1 x1 (q5.2 - q5.2 / 60 * 60)) (fun q7 => Option.bind (f_X0_isClean_70 q7) (fun q9 => f_X10_lots_B65 (f_X10_lots_L28 n) q9.1 x1 x2 x4 x5 (if q9.2 = 0 then 0 else 1) x3))))
set_option maxRecDepth 100000 in
set_option maxHeartbeats 4000000 in
theorem w_X10_lots_L28 (C : cr_C p l e R s m args below meth c sfC 97 base D cA cX10_lots 6 RX10) (hr : meth.sig.returnType = some .int) (hR : 6 ≤ R.frames ∧ 143 ≤ R.locals) {res : cr_S × Int32}  : ∀ (n : Nat) (σ : cr_S) (x1 : Int32) (x2 : Int32) (x3 : Int32) (x4 : Int32) (x5 : Int32), f_X10_lots_L28 n σ x1 x2 x3 x4 x5 = some res → cr_W p l e R s m args below meth c sfC 97 base D cA 6 (MQ below (cr_Qi sfC 97 base D cA res) args s 0 0 (cr_A 97 base)) σ 28 [(0, .ref (base + 0)), (1, .int x1), (2, .int x2), (3, .int x3), (4, .int x4), (5, .int x5)] [] := by
  intro n
  induction n with
  | zero =>
    intro σ x1 x2 x3 x4 x5 h
    cases h
  | succ n ih =>
    intro σ x1 x2 x3 x4 x5 h
    rw [f_X10_lots_L28] at h
    refine g_iload (pc' := 30) C dX10_lots_28 5 rfl rfl ?_
    refine g_iload_n (pc' := 31) C dX10_lots_30 2 rfl rfl ?_
    refine g_icmp_ge (pc' := 34) (tgt := 95) C dX10_lots_31 (by decide) rfl (fun hc => ?_) (fun hc => ?_)
    · rw [if_pos hc] at h
      refine g_iload_n (pc' := 96) C dX10_lots_95 3 rfl rfl ?_
      refine g_bipush (pc' := 98) (v := 100) C dX10_lots_96 (by decide) rfl ?_
      refine g_iload (pc' := 100) C dX10_lots_98 4 rfl rfl ?_
      refine g_imul (pc' := 101) C dX10_lots_100 rfl ?_
      refine g_iadd (pc' := 102) C dX10_lots_101 rfl ?_
      exact g_iret C hr dX10_lots_102 h
    · rw [if_neg hc] at h
      refine g_aload_n (pc' := 35) C dX10_lots_34 0 rfl rfl ?_
      refine g_iload_n (pc' := 36) C dX10_lots_35 1 rfl rfl ?_
      refine g_aload_n (pc' := 37) C dX10_lots_36 0 rfl rfl ?_
      refine gg_X10_12 (pc' := 40) (o := 0) (r := 1) C rfl rfl dX10_lots_37 rfl ?_
      obtain ⟨q5, h6, h⟩ := bind_some h
      refine g_callVi (pc' := 43) (res := q5) C [] cY_X9_drawn rfl (o := 1) (by decide) rfl mv_X9_drawn mm_X10_193 ⟨Nat.le_trans (by decide) hR.1, Nat.le_trans (by decide) hR.2⟩ rfl (Nat.le_of_ble_eq_true rfl) rfl dX10_lots_40 (c_X9_drawn_1 l base D cA σ q5 h6) rfl ?_
      refine g_bipush (pc' := 45) (v := 60) C dX10_lots_43 (by decide) rfl ?_
      refine g_irem (pc' := 46) C dX10_lots_45 (by decide) rfl ?_
      obtain ⟨q7, h8, h⟩ := bind_some h
      refine g_callVv (pc' := 49) (res := q7) C [.int x1, .int (q5.2 - q5.2 / 60 * 60)] cY_X10_goFull rfl (o := 0) (by decide) rfl mv_X10_goFull mm_X10_196 ⟨Nat.le_trans (by decide) hR.1, Nat.le_trans (by decide) hR.2⟩ rfl (Nat.le_of_ble_eq_true rfl) rfl dX10_lots_46 (c_X10_goFull l base D cA q5.1 x1 (q5.2 - q5.2 / 60 * 60) q7 h8) rfl ?_
      refine g_iload_n (pc' := 50) C dX10_lots_49 3 rfl rfl ?_
      refine g_aload_n (pc' := 51) C dX10_lots_50 0 rfl rfl ?_
      refine gg_X10_29 (pc' := 54) (o := 0) (r := 70) C rfl rfl dX10_lots_51 rfl ?_
      obtain ⟨q9, h10, h⟩ := bind_some h
      refine g_callVi (pc' := 57) (res := q9) C [] cY_X0_isClean rfl (o := 70) (by decide) rfl mv_X0_isClean mm_X10_200 ⟨Nat.le_trans (by decide) hR.1, Nat.le_trans (by decide) hR.2⟩ rfl (Nat.le_of_ble_eq_true rfl) rfl dX10_lots_54 (c_X0_isClean_70 l base D cA q7 q9 h10) rfl ?_
      refine g_iteI (σ := q9.1) (pj := 65) (lv := [(0, .ref (base + 0)), (1, .int x1), (2, .int x2), (3, .int x3), (4, .int x4), (5, .int x5)]) (st := [.int x3]) (cd := q9.2 = 0) (a := 0) (b := 1) C ?_ (fun kt kf => ?_)
      · exact g_sub C [0, 1, 2, 4, 5] rfl (w_X10_lots_B65 C hr hR (f_X10_lots_L28 n) ih _ _ _ _ _ _ _ h)
      · refine g_if_eq (pc' := 60) (tgt := 64) C dX10_lots_57 (by decide) rfl (fun hc => ?_) (fun hc => ?_)
        · refine g_iconst (pc' := 65) (v := 0) C dX10_lots_64 (by decide) rfl ?_
          exact kt hc
        · refine g_iconst (pc' := 61) (v := 1) C dX10_lots_60 (by decide) rfl ?_
          refine g_goto (tgt := 65) C dX10_lots_61 (by decide) ?_
          exact kf hc
def f_X10_lots (σ : cr_S) (a1 : Int32) (a2 : Int32) : Option (cr_S × Int32) :=
  Option.bind (f_X10_isShip σ a1) (fun q1 => (if q1.2 = 0 then some (q1.1, (-1)) else Option.bind (f_X10_isWithin q1.1 a2 1 99) (fun q3 => (if q3.2 = 0 then some (q3.1, (-1)) else f_X10_lots_L28 cr_fuel q3.1 a1 a2 0 0 0))))
set_option maxRecDepth 100000 in
set_option maxHeartbeats 4000000 in
theorem w_X10_lots (C : cr_C p l e R s m args below meth c sfC 97 base D cA cX10_lots 6 RX10) (hr : meth.sig.returnType = some .int) (hR : 6 ≤ R.frames ∧ 143 ≤ R.locals) {res : cr_S × Int32} (σ : cr_S) (a1 : Int32) (a2 : Int32) (h : f_X10_lots σ a1 a2 = some res) : cr_W p l e R s m args below meth c sfC 97 base D cA 6 (MQ below (cr_Qi sfC 97 base D cA res) args s 0 0 (cr_A 97 base)) σ 0 [(0, .ref (base + 0)), (1, .int a1), (2, .int a2)] [] := by
  unfold f_X10_lots at h
  refine g_aload_n (pc' := 1) C dX10_lots_0 0 rfl rfl ?_
  refine g_iload_n (pc' := 2) C dX10_lots_1 1 rfl rfl ?_
  obtain ⟨q1, h2, h⟩ := bind_some h
  refine g_callVi (pc' := 5) (res := q1) C [.int a1] cY_X10_isShip rfl (o := 0) (by decide) rfl mv_X10_isShip mm_X10_103 ⟨Nat.le_trans (by decide) hR.1, Nat.le_trans (by decide) hR.2⟩ rfl (Nat.le_of_ble_eq_true rfl) rfl dX10_lots_2 (c_X10_isShip l base D cA σ a1 q1 h2) rfl ?_
  refine g_if_eq (pc' := 8) (tgt := 18) C dX10_lots_5 (by decide) rfl (fun hc => ?_) (fun hc => ?_)
  · rw [if_pos hc] at h
    refine g_iconst (pc' := 19) (v := (-1)) C dX10_lots_18 (by decide) rfl ?_
    exact g_iret C hr dX10_lots_19 h
  · rw [if_neg hc] at h
    refine g_iload_n (pc' := 9) C dX10_lots_8 2 rfl rfl ?_
    refine g_iconst (pc' := 10) (v := 1) C dX10_lots_9 (by decide) rfl ?_
    refine g_bipush (pc' := 12) (v := 99) C dX10_lots_10 (by decide) rfl ?_
    obtain ⟨q3, h4, h⟩ := bind_some h
    refine g_callSi (pc' := 15) (res := q3) C [.int a2, .int 1, .int 99] cY_X10_isWithin mv_X10_isWithin mm_X10_54 ⟨Nat.le_trans (by decide) hR.1, Nat.le_trans (by decide) hR.2⟩ rfl (Nat.le_of_ble_eq_true rfl) rfl dX10_lots_12 (c_X10_isWithin l base D cA q1.1 a2 1 99 q3 h4) rfl ?_
    refine g_if_ne (pc' := 18) (tgt := 20) C dX10_lots_15 (by decide) rfl (fun hc => ?_) (fun hc => ?_)
    · rw [if_neg hc] at h
      refine g_iconst (pc' := 21) (v := 0) C dX10_lots_20 (by decide) rfl ?_
      refine g_istore_n (pc' := 22) (lv' := [(3, .int 0), (0, .ref (base + 0)), (1, .int a1), (2, .int a2)]) C dX10_lots_21 rfl (by decide) rfl rfl ?_
      refine g_iconst (pc' := 23) (v := 0) C dX10_lots_22 (by decide) rfl ?_
      refine g_istore (pc' := 25) (lv' := [(4, .int 0), (3, .int 0), (0, .ref (base + 0)), (1, .int a1), (2, .int a2)]) C dX10_lots_23 (by decide) rfl rfl ?_
      refine g_iconst (pc' := 26) (v := 0) C dX10_lots_25 (by decide) rfl ?_
      refine g_istore (pc' := 28) (lv' := [(5, .int 0), (4, .int 0), (3, .int 0), (0, .ref (base + 0)), (1, .int a1), (2, .int a2)]) C dX10_lots_26 (by decide) rfl rfl ?_
      exact g_sub C [3, 4, 5, 2, 1, 0] rfl (w_X10_lots_L28 C hr hR _ _ _ _ _ _ _ h)
    · rw [if_pos hc] at h
      refine g_iconst (pc' := 19) (v := (-1)) C dX10_lots_18 (by decide) rfl ?_
      exact g_iret C hr dX10_lots_19 h
theorem c_X10_lots (l : Launch) (base : Nat) (D : va_G) (cA : Nat → ClassId) (σ : cr_S) (a1 : Int32) (a2 : Int32) (res : cr_S × Int32) (h : f_X10_lots σ a1 a2 = some res) : cr_M l yX10_lots cX10_lots 6 (some .int) 6 143 sfC 97 base D cA [.ref (base + 0), .int a1, .int a2] σ (cr_Qi sfC 97 base D cA res) := by
  refine cr_enter [.ref (base + 0), .int a1, .int a2] [(0, .ref (base + 0)), (1, .int a1), (2, .int a2)] (by decide) (Nat.le_of_ble_eq_true rfl) rfl ?_
  intro p e R s m below meth c C hr hR
  exact w_X10_lots C hr hR σ a1 a2 h
def f_X10_isBegin (σ : cr_S) (a1 : Int32) (a2 : Int32) : Option (cr_S × Int32) :=
  Option.bind (f_X10_isShip σ a1) (fun q1 => (if q1.2 = 0 then some (q1.1, 0) else Option.bind (f_X10_isWithin q1.1 a2 0 9999) (fun q3 => (if q3.2 = 0 then some (q3.1, 0) else some (q3.1, 1)))))
set_option maxRecDepth 100000 in
set_option maxHeartbeats 4000000 in
theorem w_X10_isBegin (C : cr_C p l e R s m args below meth c sfC 97 base D cA cX10_isBegin 3 RX10) (hr : meth.sig.returnType = some .boolean) (hR : 2 ≤ R.frames ∧ 43 ≤ R.locals) {res : cr_S × Int32} (σ : cr_S) (a1 : Int32) (a2 : Int32) (h : f_X10_isBegin σ a1 a2 = some res) : cr_W p l e R s m args below meth c sfC 97 base D cA 3 (MQ below (cr_Qi sfC 97 base D cA res) args s 0 0 (cr_A 97 base)) σ 0 [(0, .ref (base + 0)), (1, .int a1), (2, .int a2)] [] := by
  unfold f_X10_isBegin at h
  refine g_aload_n (pc' := 1) C dX10_isBegin_0 0 rfl rfl ?_
  refine g_iload_n (pc' := 2) C dX10_isBegin_1 1 rfl rfl ?_
  obtain ⟨q1, h2, h⟩ := bind_some h
  refine g_callVi (pc' := 5) (res := q1) C [.int a1] cY_X10_isShip rfl (o := 0) (by decide) rfl mv_X10_isShip mm_X10_103 ⟨Nat.le_trans (by decide) hR.1, Nat.le_trans (by decide) hR.2⟩ rfl (Nat.le_of_ble_eq_true rfl) rfl dX10_isBegin_2 (c_X10_isShip l base D cA σ a1 q1 h2) rfl ?_
  refine g_if_eq (pc' := 8) (tgt := 23) C dX10_isBegin_5 (by decide) rfl (fun hc => ?_) (fun hc => ?_)
  · rw [if_pos hc] at h
    refine g_iconst (pc' := 24) (v := 0) C dX10_isBegin_23 (by decide) rfl ?_
    exact g_zret C hr rfl dX10_isBegin_24 h
  · rw [if_neg hc] at h
    refine g_iload_n (pc' := 9) C dX10_isBegin_8 2 rfl rfl ?_
    refine g_iconst (pc' := 10) (v := 0) C dX10_isBegin_9 (by decide) rfl ?_
    refine g_sipush (pc' := 13) (v := 9999) C dX10_isBegin_10 (by decide) rfl ?_
    obtain ⟨q3, h4, h⟩ := bind_some h
    refine g_callSi (pc' := 16) (res := q3) C [.int a2, .int 0, .int 9999] cY_X10_isWithin mv_X10_isWithin mm_X10_54 ⟨Nat.le_trans (by decide) hR.1, Nat.le_trans (by decide) hR.2⟩ rfl (Nat.le_of_ble_eq_true rfl) rfl dX10_isBegin_13 (c_X10_isWithin l base D cA q1.1 a2 0 9999 q3 h4) rfl ?_
    refine g_if_eq (pc' := 19) (tgt := 23) C dX10_isBegin_16 (by decide) rfl (fun hc => ?_) (fun hc => ?_)
    · rw [if_pos hc] at h
      refine g_iconst (pc' := 24) (v := 0) C dX10_isBegin_23 (by decide) rfl ?_
      exact g_zret C hr rfl dX10_isBegin_24 h
    · rw [if_neg hc] at h
      refine g_iconst (pc' := 20) (v := 1) C dX10_isBegin_19 (by decide) rfl ?_
      refine g_goto (tgt := 24) C dX10_isBegin_20 (by decide) ?_
      exact g_zret C hr rfl dX10_isBegin_24 h
theorem c_X10_isBegin (l : Launch) (base : Nat) (D : va_G) (cA : Nat → ClassId) (σ : cr_S) (a1 : Int32) (a2 : Int32) (res : cr_S × Int32) (h : f_X10_isBegin σ a1 a2 = some res) : cr_M l yX10_isBegin cX10_isBegin 3 (some .boolean) 2 43 sfC 97 base D cA [.ref (base + 0), .int a1, .int a2] σ (cr_Qi sfC 97 base D cA res) := by
  refine cr_enter [.ref (base + 0), .int a1, .int a2] [(0, .ref (base + 0)), (1, .int a1), (2, .int a2)] (by decide) (Nat.le_of_ble_eq_true rfl) rfl ?_
  intro p e R s m below meth c C hr hR
  exact w_X10_isBegin C hr hR σ a1 a2 h
def f_X5_measure_74_B49 (r12 : cr_S → Nat → Int32 → Int32 → Option (cr_S)) (σ : cr_S) (x1 : Nat) (x2 : Int32) (x4 : Int32) (t0 : Int32) (t1 : Int32) : Option (cr_S) :=
  chk (inb t1 347) (cr_let (sA σ 83 t1 t0) (fun s10 => cr_let (x4 + (-1)) (fun v12 => r12 s10 x1 x2 v12)))
set_option maxRecDepth 100000 in
set_option maxHeartbeats 4000000 in
theorem w_X5_measure_74_B49 (C : cr_C p l e R s m args below meth c sfC 97 base D cA cX5_measure 5 RX5) (hr : meth.sig.returnType = none) (hR : 3 ≤ R.frames ∧ 65 ≤ R.locals) {res : cr_S} (r12 : cr_S → Nat → Int32 → Int32 → Option (cr_S)) (hr12 : ∀ (σ : cr_S) (x1 : Nat) (x2 : Int32) (x4 : Int32), r12 σ x1 x2 x4 = some res → cr_W p l e R s m args below meth c sfC 97 base D cA 5 (MQ below (cr_Qv sfC 97 base D cA res) args s 0 0 (cr_A 97 base)) σ 12 [(0, .ref (base + 74)), (1, .ref (base + x1)), (2, .int x2), (4, .int x4)] []) (σ : cr_S) (x1 : Nat) (x2 : Int32) (x4 : Int32) (t0 : Int32) (t1 : Int32) (h : f_X5_measure_74_B49 r12 σ x1 x2 x4 t0 t1 = some res) : cr_W p l e R s m args below meth c sfC 97 base D cA 5 (MQ below (cr_Qv sfC 97 base D cA res) args s 0 0 (cr_A 97 base)) σ 49 [(0, .ref (base + 74)), (1, .ref (base + x1)), (2, .int x2), (4, .int x4)] [.int t0, .int t1, .ref (base + 83)] := by
  unfold f_X5_measure_74_B49 at h
  obtain ⟨h9, h⟩ := chk_some h
  obtain ⟨s10, e11, h⟩ := let_some h
  refine g_iast (pc' := 50) C (o := 83) (by decide) rfl h9 dX5_measure_49 rfl e11 ?_
  obtain ⟨v12, e13, h⟩ := let_some h
  refine g_iinc (pc' := 53) (v := v12) (lv' := [(4, .int v12), (0, .ref (base + 74)), (1, .ref (base + x1)), (2, .int x2)]) C dX5_measure_50 3 rfl (by rw [e13]; rfl) (by decide) rfl rfl ?_
  refine g_goto (tgt := 12) C dX5_measure_53 (by decide) ?_
  exact g_sub C [1, 2, 3, 0] rfl (hr12 _ _ _ _ h)
def f_X5_measure_74_L12  : Nat → cr_S → Nat → Int32 → Int32 → Option (cr_S)
  | 0, _, _, _, _ => none
  | n + 1, σ, x1, x2, x4 =>
    (if x4 < 0 then some σ else Option.bind (f_X3_isOpenNow σ x1 (x2 + x4)) (fun q6 => chk (kC x1 = 3) ((if q6.2 = 0 then f_X5_measure_74_B49 (f_X5_measure_74_L12 n) q6.1 x1 x2 x4 0 x4 else chk (inb (x4 + 1) 347) (f_X5_measure_74_B49 (f_X5_measure_74_L12 n) q6.1 x1 x2 x4 ((rA q6.1 83 (x4 + 1)) + 1) x4)))))
set_option maxRecDepth 100000 in
set_option maxHeartbeats 4000000 in
theorem w_X5_measure_74_L12 (C : cr_C p l e R s m args below meth c sfC 97 base D cA cX5_measure 5 RX5) (hr : meth.sig.returnType = none) (hR : 3 ≤ R.frames ∧ 65 ≤ R.locals) {res : cr_S}  : ∀ (n : Nat) (σ : cr_S) (x1 : Nat) (x2 : Int32) (x4 : Int32), f_X5_measure_74_L12 n σ x1 x2 x4 = some res → cr_W p l e R s m args below meth c sfC 97 base D cA 5 (MQ below (cr_Qv sfC 97 base D cA res) args s 0 0 (cr_A 97 base)) σ 12 [(0, .ref (base + 74)), (1, .ref (base + x1)), (2, .int x2), (4, .int x4)] [] := by
  intro n
  induction n with
  | zero =>
    intro σ x1 x2 x4 h
    cases h
  | succ n ih =>
    intro σ x1 x2 x4 h
    rw [f_X5_measure_74_L12] at h
    refine g_iload (pc' := 14) C dX5_measure_12 3 rfl rfl ?_
    refine g_if_lt (pc' := 17) (tgt := 56) C dX5_measure_14 (by decide) rfl (fun hc => ?_) (fun hc => ?_)
    · rw [if_pos hc] at h
      exact g_vret C hr dX5_measure_56 h
    · rw [if_neg hc] at h
      refine g_aload_n (pc' := 18) C dX5_measure_17 0 rfl rfl ?_
      refine gg_X5_16 (pc' := 21) (o := 74) (r := 83) C rfl rfl dX5_measure_18 rfl ?_
      refine g_iload (pc' := 23) C dX5_measure_21 3 rfl rfl ?_
      refine g_aload_n (pc' := 24) C dX5_measure_23 1 rfl rfl ?_
      refine g_iload_n (pc' := 25) C dX5_measure_24 2 rfl rfl ?_
      refine g_iload (pc' := 27) C dX5_measure_25 3 rfl rfl ?_
      refine g_iadd (pc' := 28) C dX5_measure_27 rfl ?_
      obtain ⟨q6, h7, h⟩ := bind_some h
      obtain ⟨h8, h⟩ := chk_some h
      refine g_callVi (pc' := 31) (res := q6) C [.int (x2 + x4)] cY_X3_isOpenNow rfl (o := x1) (kC_lt h8 (by decide)) (sfC_3 h8) mv_X3_isOpenNow mm_X5_52 ⟨Nat.le_trans (by decide) hR.1, Nat.le_trans (by decide) hR.2⟩ rfl (Nat.le_of_ble_eq_true rfl) rfl dX5_measure_28 (c_X3_isOpenNow l base D cA σ x1 (x2 + x4) q6 h7) rfl ?_
      refine g_if_eq (pc' := 34) (tgt := 48) C dX5_measure_31 (by decide) rfl (fun hc => ?_) (fun hc => ?_)
      · rw [if_pos hc] at h
        refine g_iconst (pc' := 49) (v := 0) C dX5_measure_48 (by decide) rfl ?_
        exact g_sub C [0, 1, 2, 3] rfl (w_X5_measure_74_B49 C hr hR (f_X5_measure_74_L12 n) ih _ _ _ _ _ _ h)
      · rw [if_neg hc] at h
        refine g_aload_n (pc' := 35) C dX5_measure_34 0 rfl rfl ?_
        refine gg_X5_16 (pc' := 38) (o := 74) (r := 83) C rfl rfl dX5_measure_35 rfl ?_
        refine g_iload (pc' := 40) C dX5_measure_38 3 rfl rfl ?_
        refine g_iconst (pc' := 41) (v := 1) C dX5_measure_40 (by decide) rfl ?_
        refine g_iadd (pc' := 42) C dX5_measure_41 rfl ?_
        obtain ⟨h14, h⟩ := chk_some h
        refine g_iald (pc' := 43) C (o := 83) (by decide) rfl h14 dX5_measure_42 rfl ?_
        refine g_iconst (pc' := 44) (v := 1) C dX5_measure_43 (by decide) rfl ?_
        refine g_iadd (pc' := 45) C dX5_measure_44 rfl ?_
        refine g_goto (tgt := 49) C dX5_measure_45 (by decide) ?_
        exact g_sub C [0, 1, 2, 3] rfl (w_X5_measure_74_B49 C hr hR (f_X5_measure_74_L12 n) ih _ _ _ _ _ _ h)
def f_X5_measure_74 (σ : cr_S) (o1 : Nat) (a2 : Int32) (a3 : Int32) : Option (cr_S) :=
  chk (inb a3 347) (cr_let (sA σ 83 a3 0) (fun s2 => cr_let (a3 - 1) (fun v4 => f_X5_measure_74_L12 cr_fuel s2 o1 a2 v4)))
set_option maxRecDepth 100000 in
set_option maxHeartbeats 4000000 in
theorem w_X5_measure_74 (C : cr_C p l e R s m args below meth c sfC 97 base D cA cX5_measure 5 RX5) (hr : meth.sig.returnType = none) (hR : 3 ≤ R.frames ∧ 65 ≤ R.locals) {res : cr_S} (σ : cr_S) (o1 : Nat) (a2 : Int32) (a3 : Int32) (h : f_X5_measure_74 σ o1 a2 a3 = some res) : cr_W p l e R s m args below meth c sfC 97 base D cA 5 (MQ below (cr_Qv sfC 97 base D cA res) args s 0 0 (cr_A 97 base)) σ 0 [(0, .ref (base + 74)), (1, .ref (base + o1)), (2, .int a2), (3, .int a3)] [] := by
  unfold f_X5_measure_74 at h
  refine g_aload_n (pc' := 1) C dX5_measure_0 0 rfl rfl ?_
  refine gg_X5_16 (pc' := 4) (o := 74) (r := 83) C rfl rfl dX5_measure_1 rfl ?_
  refine g_iload_n (pc' := 5) C dX5_measure_4 3 rfl rfl ?_
  refine g_iconst (pc' := 6) (v := 0) C dX5_measure_5 (by decide) rfl ?_
  obtain ⟨h1, h⟩ := chk_some h
  obtain ⟨s2, e3, h⟩ := let_some h
  refine g_iast (pc' := 7) C (o := 83) (by decide) rfl h1 dX5_measure_6 rfl e3 ?_
  refine g_iload_n (pc' := 8) C dX5_measure_7 3 rfl rfl ?_
  refine g_iconst (pc' := 9) (v := 1) C dX5_measure_8 (by decide) rfl ?_
  refine g_isub (pc' := 10) C dX5_measure_9 rfl ?_
  obtain ⟨v4, e5, h⟩ := let_some h
  refine g_nameI e5 ?_
  refine g_istore (pc' := 12) (lv' := [(4, .int v4), (0, .ref (base + 74)), (1, .ref (base + o1)), (2, .int a2), (3, .int a3)]) C dX5_measure_10 (by decide) rfl rfl ?_
  exact g_sub C [1, 2, 3, 0] rfl (w_X5_measure_74_L12 C hr hR _ _ _ _ _ h)
theorem c_X5_measure_74 (l : Launch) (base : Nat) (D : va_G) (cA : Nat → ClassId) (σ : cr_S) (o1 : Nat) (a2 : Int32) (a3 : Int32) (res : cr_S) (h : f_X5_measure_74 σ o1 a2 a3 = some res) : cr_M l yX5_measure cX5_measure 5 none 3 65 sfC 97 base D cA [.ref (base + 74), .ref (base + o1), .int a2, .int a3] σ (cr_Qv sfC 97 base D cA res) := by
  refine cr_enter [.ref (base + 74), .ref (base + o1), .int a2, .int a3] [(0, .ref (base + 74)), (1, .ref (base + o1)), (2, .int a2), (3, .int a3)] (by decide) (Nat.le_of_ble_eq_true rfl) rfl ?_
  intro p e R s m below meth c C hr hR
  exact w_X5_measure_74 C hr hR σ o1 a2 a3 h
def f_X5_behindBy_74 (σ : cr_S) (o1 : Nat) (o2 : Nat) (a3 : Int32) (a4 : Int32) : Option (cr_S × Int32) :=
  chk (kC o1 = 3) (Option.bind (f_X10_secondsFor σ (rF σ o1 1) a4) (fun q2 => cr_let (a3 + q2.2) (fun v4 => Option.bind (f_X6_span q2.1 o2) (fun q6 => chk (kC o2 = 6) (Option.bind (f_X10_secondsFor q6.1 q6.2 a4) (fun q9 => cr_let q9.2 (fun v11 => (if 346 ≤ (v4 + v11) then some (q9.1, 1000000) else chk (inb v4 347) ((if (rA q9.1 83 v4) < v11 then some (q9.1, 1000000) else some (q9.1, v4 + v11)))))))))))
set_option maxRecDepth 100000 in
set_option maxHeartbeats 4000000 in
theorem w_X5_behindBy_74 (C : cr_C p l e R s m args below meth c sfC 97 base D cA cX5_behindBy 7 RX5) (hr : meth.sig.returnType = some .int) (hR : 1 ≤ R.frames ∧ 21 ≤ R.locals) {res : cr_S × Int32} (σ : cr_S) (o1 : Nat) (o2 : Nat) (a3 : Int32) (a4 : Int32) (h : f_X5_behindBy_74 σ o1 o2 a3 a4 = some res) : cr_W p l e R s m args below meth c sfC 97 base D cA 7 (MQ below (cr_Qi sfC 97 base D cA res) args s 0 0 (cr_A 97 base)) σ 0 [(0, .ref (base + 74)), (1, .ref (base + o1)), (2, .ref (base + o2)), (3, .int a3), (4, .int a4)] [] := by
  unfold f_X5_behindBy_74 at h
  refine g_iload_n (pc' := 1) C dX5_behindBy_0 3 rfl rfl ?_
  refine g_aload_n (pc' := 2) C dX5_behindBy_1 1 rfl rfl ?_
  obtain ⟨h1, h⟩ := chk_some h
  refine gg_X5_58 (pc' := 5) (o := o1) C h1 dX5_behindBy_2 rfl ?_
  refine g_iload (pc' := 7) C dX5_behindBy_5 4 rfl rfl ?_
  obtain ⟨q2, h3, h⟩ := bind_some h
  refine g_callNi (pc' := 10) (res := q2) C [.int (rF σ o1 1), .int a4] cY_X10_secondsFor mv_X10_secondsFor mn_X5_61 ⟨Nat.le_trans (by decide) hR.1, Nat.le_trans (by decide) hR.2⟩ rfl (Nat.le_of_ble_eq_true rfl) rfl dX5_behindBy_7 (c_X10_secondsFor l base D cA σ (rF σ o1 1) a4 q2 h3) rfl ?_
  refine g_iadd (pc' := 11) C dX5_behindBy_10 rfl ?_
  obtain ⟨v4, e5, h⟩ := let_some h
  refine g_nameI e5 ?_
  refine g_istore (pc' := 13) (lv' := [(5, .int v4), (0, .ref (base + 74)), (1, .ref (base + o1)), (2, .ref (base + o2)), (3, .int a3), (4, .int a4)]) C dX5_behindBy_11 (by decide) rfl rfl ?_
  refine g_aload_n (pc' := 14) C dX5_behindBy_13 3 rfl rfl ?_
  obtain ⟨q6, h7, h⟩ := bind_some h
  obtain ⟨h8, h⟩ := chk_some h
  refine g_callVi (pc' := 17) (res := q6) C [] cY_X6_span rfl (o := o2) (kC_lt h8 (by decide)) (sfC_6 h8) mv_X6_span mm_X5_65 ⟨Nat.le_trans (by decide) hR.1, Nat.le_trans (by decide) hR.2⟩ rfl (Nat.le_of_ble_eq_true rfl) rfl dX5_behindBy_14 (c_X6_span l base D cA q2.1 o2 q6 h7) rfl ?_
  refine g_iload (pc' := 19) C dX5_behindBy_17 5 rfl rfl ?_
  obtain ⟨q9, h10, h⟩ := bind_some h
  refine g_callNi (pc' := 22) (res := q9) C [.int q6.2, .int a4] cY_X10_secondsFor mv_X10_secondsFor mn_X5_61 ⟨Nat.le_trans (by decide) hR.1, Nat.le_trans (by decide) hR.2⟩ rfl (Nat.le_of_ble_eq_true rfl) rfl dX5_behindBy_19 (c_X10_secondsFor l base D cA q6.1 q6.2 a4 q9 h10) rfl ?_
  obtain ⟨v11, e12, h⟩ := let_some h
  refine g_nameI e12 ?_
  refine g_istore (pc' := 24) (lv' := [(6, .int v11), (5, .int v4), (0, .ref (base + 74)), (1, .ref (base + o1)), (2, .ref (base + o2)), (3, .int a3), (4, .int a4)]) C dX5_behindBy_22 (by decide) rfl rfl ?_
  refine g_iload (pc' := 26) C dX5_behindBy_24 1 rfl rfl ?_
  refine g_iload (pc' := 28) C dX5_behindBy_26 0 rfl rfl ?_
  refine g_iadd (pc' := 29) C dX5_behindBy_28 rfl ?_
  refine g_sipush (pc' := 32) (v := 346) C dX5_behindBy_29 (by decide) rfl ?_
  refine g_icmp_ge (pc' := 35) (tgt := 55) C dX5_behindBy_32 (by decide) rfl (fun hc => ?_) (fun hc => ?_)
  · rw [if_pos hc] at h
    refine g_ldc (pc' := 57) (v := 1000000) C dX5_behindBy_55 mk_X5_41 rfl ?_
    exact g_iret C hr dX5_behindBy_57 h
  · rw [if_neg hc] at h
    refine g_aload_n (pc' := 36) C dX5_behindBy_35 2 rfl rfl ?_
    refine gg_X5_16 (pc' := 39) (o := 74) (r := 83) C rfl rfl dX5_behindBy_36 rfl ?_
    refine g_iload (pc' := 41) C dX5_behindBy_39 1 rfl rfl ?_
    obtain ⟨h13, h⟩ := chk_some h
    refine g_iald (pc' := 42) C (o := 83) (by decide) rfl h13 dX5_behindBy_41 rfl ?_
    refine g_iload (pc' := 44) C dX5_behindBy_42 0 rfl rfl ?_
    refine g_icmp_lt (pc' := 47) (tgt := 55) C dX5_behindBy_44 (by decide) rfl (fun hc => ?_) (fun hc => ?_)
    · rw [if_pos hc] at h
      refine g_ldc (pc' := 57) (v := 1000000) C dX5_behindBy_55 mk_X5_41 rfl ?_
      exact g_iret C hr dX5_behindBy_57 h
    · rw [if_neg hc] at h
      refine g_iload (pc' := 49) C dX5_behindBy_47 1 rfl rfl ?_
      refine g_iload (pc' := 51) C dX5_behindBy_49 0 rfl rfl ?_
      refine g_iadd (pc' := 52) C dX5_behindBy_51 rfl ?_
      refine g_goto (tgt := 57) C dX5_behindBy_52 (by decide) ?_
      exact g_iret C hr dX5_behindBy_57 h
theorem c_X5_behindBy_74 (l : Launch) (base : Nat) (D : va_G) (cA : Nat → ClassId) (σ : cr_S) (o1 : Nat) (o2 : Nat) (a3 : Int32) (a4 : Int32) (res : cr_S × Int32) (h : f_X5_behindBy_74 σ o1 o2 a3 a4 = some res) : cr_M l yX5_behindBy cX5_behindBy 7 (some .int) 1 21 sfC 97 base D cA [.ref (base + 74), .ref (base + o1), .ref (base + o2), .int a3, .int a4] σ (cr_Qi sfC 97 base D cA res) := by
  refine cr_enter [.ref (base + 74), .ref (base + o1), .ref (base + o2), .int a3, .int a4] [(0, .ref (base + 74)), (1, .ref (base + o1)), (2, .ref (base + o2)), (3, .int a3), (4, .int a4)] (by decide) (Nat.le_of_ble_eq_true rfl) rfl ?_
  intro p e R s m below meth c C hr hR
  exact w_X5_behindBy_74 C hr hR σ o1 o2 a3 a4 h
def f_X5_firstPace_74_B61  (σ : cr_S) (x2 : Nat) : Option (cr_S × Int32) :=
  Option.bind (f_X6_high σ x2) (fun q9 => chk (kC x2 = 6) (some (q9.1, q9.2)))
set_option maxRecDepth 100000 in
set_option maxHeartbeats 4000000 in
theorem w_X5_firstPace_74_B61 (C : cr_C p l e R s m args below meth c sfC 97 base D cA cX5_firstPace 7 RX5) (hr : meth.sig.returnType = some .int) (hR : 2 ≤ R.frames ∧ 47 ≤ R.locals) {res : cr_S × Int32}  (σ : cr_S) (x2 : Nat) (h : f_X5_firstPace_74_B61 σ x2 = some res) : cr_W p l e R s m args below meth c sfC 97 base D cA 7 (MQ below (cr_Qi sfC 97 base D cA res) args s 0 0 (cr_A 97 base)) σ 61 [(2, .ref (base + x2))] [] := by
  unfold f_X5_firstPace_74_B61 at h
  refine g_aload_n (pc' := 62) C dX5_firstPace_61 0 rfl rfl ?_
  obtain ⟨q9, h10, h⟩ := bind_some h
  obtain ⟨h11, h⟩ := chk_some h
  refine g_callVi (pc' := 65) (res := q9) C [] cY_X6_high rfl (o := x2) (kC_lt h11 (by decide)) (sfC_6 h11) mv_X6_high mm_X5_74 ⟨Nat.le_trans (by decide) hR.1, Nat.le_trans (by decide) hR.2⟩ rfl (Nat.le_of_ble_eq_true rfl) rfl dX5_firstPace_62 (c_X6_high l base D cA σ x2 q9 h10) rfl ?_
  exact g_iret C hr dX5_firstPace_65 h
def f_X5_firstPace_74_B55 (r6 : cr_S → Nat → Nat → Int32 → Int32 → Int32 → Option (cr_S × Int32)) (σ : cr_S) (x1 : Nat) (x2 : Nat) (x3 : Int32) (x4 : Int32) (x5 : Int32) : Option (cr_S × Int32) :=
  cr_let (x5 + 1) (fun v16 => r6 σ x1 x2 x3 x4 v16)
set_option maxRecDepth 100000 in
set_option maxHeartbeats 4000000 in
theorem w_X5_firstPace_74_B55 (C : cr_C p l e R s m args below meth c sfC 97 base D cA cX5_firstPace 7 RX5) (hr : meth.sig.returnType = some .int) (hR : 2 ≤ R.frames ∧ 47 ≤ R.locals) {res : cr_S × Int32} (r6 : cr_S → Nat → Nat → Int32 → Int32 → Int32 → Option (cr_S × Int32)) (hr6 : ∀ (σ : cr_S) (x1 : Nat) (x2 : Nat) (x3 : Int32) (x4 : Int32) (x5 : Int32), r6 σ x1 x2 x3 x4 x5 = some res → cr_W p l e R s m args below meth c sfC 97 base D cA 7 (MQ below (cr_Qi sfC 97 base D cA res) args s 0 0 (cr_A 97 base)) σ 6 [(0, .ref (base + 74)), (1, .ref (base + x1)), (2, .ref (base + x2)), (3, .int x3), (4, .int x4), (5, .int x5)] []) (σ : cr_S) (x1 : Nat) (x2 : Nat) (x3 : Int32) (x4 : Int32) (x5 : Int32) (h : f_X5_firstPace_74_B55 r6 σ x1 x2 x3 x4 x5 = some res) : cr_W p l e R s m args below meth c sfC 97 base D cA 7 (MQ below (cr_Qi sfC 97 base D cA res) args s 0 0 (cr_A 97 base)) σ 55 [(0, .ref (base + 74)), (1, .ref (base + x1)), (2, .ref (base + x2)), (3, .int x3), (4, .int x4), (5, .int x5)] [] := by
  unfold f_X5_firstPace_74_B55 at h
  obtain ⟨v16, e17, h⟩ := let_some h
  refine g_iinc (pc' := 58) (v := v16) (lv' := [(5, .int v16), (0, .ref (base + 74)), (1, .ref (base + x1)), (2, .ref (base + x2)), (3, .int x3), (4, .int x4)]) C dX5_firstPace_55 5 rfl (by rw [e17]; rfl) (by decide) rfl rfl ?_
  refine g_goto (tgt := 6) C dX5_firstPace_58 (by decide) ?_
  exact g_sub C [1, 2, 3, 4, 5, 0] rfl (hr6 _ _ _ _ _ _ h)
def f_X5_firstPace_74_L6  : Nat → cr_S → Nat → Nat → Int32 → Int32 → Int32 → Option (cr_S × Int32)
  | 0, _, _, _, _, _, _ => none
  | n + 1, σ, x1, x2, x3, x4, x5 =>
    Option.bind (f_X6_high σ x2) (fun q6 => chk (kC x2 = 6) ((if q6.2 ≤ x5 then f_X5_firstPace_74_B61 q6.1 x2 else Option.bind (f_X5_behindBy_74 q6.1 x1 x2 x4 x5) (fun q12 => cr_let q12.2 (fun v14 => (if v14 = 1000000 then f_X5_firstPace_74_B55 (f_X5_firstPace_74_L6 n) q12.1 x1 x2 x3 x4 x5 else chk (inb (x3 + 1) 7) (chk (kC (76 + (x3 + 1).toNatClampNeg) = 1346) (chk (inb v14 346) ((if (rA q12.1 (76 + (x3 + 1).toNatClampNeg) v14) = (rF q12.1 74 4) then some (q12.1, x5) else f_X5_firstPace_74_B55 (f_X5_firstPace_74_L6 n) q12.1 x1 x2 x3 x4 x5))))))))))
set_option maxRecDepth 100000 in
set_option maxHeartbeats 4000000 in
theorem w_X5_firstPace_74_L6 (C : cr_C p l e R s m args below meth c sfC 97 base D cA cX5_firstPace 7 RX5) (hr : meth.sig.returnType = some .int) (hR : 2 ≤ R.frames ∧ 47 ≤ R.locals) {res : cr_S × Int32}  : ∀ (n : Nat) (σ : cr_S) (x1 : Nat) (x2 : Nat) (x3 : Int32) (x4 : Int32) (x5 : Int32), f_X5_firstPace_74_L6 n σ x1 x2 x3 x4 x5 = some res → cr_W p l e R s m args below meth c sfC 97 base D cA 7 (MQ below (cr_Qi sfC 97 base D cA res) args s 0 0 (cr_A 97 base)) σ 6 [(0, .ref (base + 74)), (1, .ref (base + x1)), (2, .ref (base + x2)), (3, .int x3), (4, .int x4), (5, .int x5)] [] := by
  intro n
  induction n with
  | zero =>
    intro σ x1 x2 x3 x4 x5 h
    cases h
  | succ n ih =>
    intro σ x1 x2 x3 x4 x5 h
    rw [f_X5_firstPace_74_L6] at h
    refine g_iload (pc' := 8) C dX5_firstPace_6 5 rfl rfl ?_
    refine g_aload_n (pc' := 9) C dX5_firstPace_8 2 rfl rfl ?_
    obtain ⟨q6, h7, h⟩ := bind_some h
    obtain ⟨h8, h⟩ := chk_some h
    refine g_callVi (pc' := 12) (res := q6) C [] cY_X6_high rfl (o := x2) (kC_lt h8 (by decide)) (sfC_6 h8) mv_X6_high mm_X5_74 ⟨Nat.le_trans (by decide) hR.1, Nat.le_trans (by decide) hR.2⟩ rfl (Nat.le_of_ble_eq_true rfl) rfl dX5_firstPace_9 (c_X6_high l base D cA σ x2 q6 h7) rfl ?_
    refine g_icmp_ge (pc' := 15) (tgt := 61) C dX5_firstPace_12 (by decide) rfl (fun hc => ?_) (fun hc => ?_)
    · rw [if_pos hc] at h
      exact g_sub C [2] rfl (w_X5_firstPace_74_B61 C hr hR _ _ h)
    · rw [if_neg hc] at h
      refine g_aload_n (pc' := 16) C dX5_firstPace_15 0 rfl rfl ?_
      refine g_aload_n (pc' := 17) C dX5_firstPace_16 1 rfl rfl ?_
      refine g_aload_n (pc' := 18) C dX5_firstPace_17 2 rfl rfl ?_
      refine g_iload (pc' := 20) C dX5_firstPace_18 4 rfl rfl ?_
      refine g_iload (pc' := 22) C dX5_firstPace_20 5 rfl rfl ?_
      obtain ⟨q12, h13, h⟩ := bind_some h
      refine g_callVi (pc' := 25) (res := q12) C [.ref (base + x1), .ref (base + x2), .int x4, .int x5] cY_X5_behindBy rfl (o := 74) (by decide) rfl mv_X5_behindBy mm_X5_77 ⟨Nat.le_trans (by decide) hR.1, Nat.le_trans (by decide) hR.2⟩ rfl (Nat.le_of_ble_eq_true rfl) rfl dX5_firstPace_22 (c_X5_behindBy_74 l base D cA q6.1 x1 x2 x4 x5 q12 h13) rfl ?_
      obtain ⟨v14, e15, h⟩ := let_some h
      refine g_nameI e15 ?_
      refine g_istore (pc' := 27) (lv' := [(6, .int v14), (0, .ref (base + 74)), (1, .ref (base + x1)), (2, .ref (base + x2)), (3, .int x3), (4, .int x4), (5, .int x5)]) C dX5_firstPace_25 (by decide) rfl rfl ?_
      refine g_iload (pc' := 29) C dX5_firstPace_27 0 rfl rfl ?_
      refine g_ldc (pc' := 31) (v := 1000000) C dX5_firstPace_29 mk_X5_41 rfl ?_
      refine g_icmp_eq (pc' := 34) (tgt := 55) C dX5_firstPace_31 (by decide) rfl (fun hc => ?_) (fun hc => ?_)
      · rw [if_pos hc] at h
        exact g_sub C [1, 2, 3, 4, 5, 6] rfl (w_X5_firstPace_74_B55 C hr hR (f_X5_firstPace_74_L6 n) ih _ _ _ _ _ _ h)
      · rw [if_neg hc] at h
        refine g_aload_n (pc' := 35) C dX5_firstPace_34 1 rfl rfl ?_
        refine gg_X5_11 (pc' := 38) (o := 74) (r := 75) C rfl rfl dX5_firstPace_35 rfl ?_
        refine g_iload_n (pc' := 39) C dX5_firstPace_38 4 rfl rfl ?_
        refine g_iconst (pc' := 40) (v := 1) C dX5_firstPace_39 (by decide) rfl ?_
        refine g_iadd (pc' := 41) C dX5_firstPace_40 rfl ?_
        obtain ⟨h18, h⟩ := chk_some h
        refine g_aaldA (pc' := 42) C (o := 75) (by decide) rfl h18 dX5_firstPace_41 rfl ?_
        refine g_iload (pc' := 44) C dX5_firstPace_42 0 rfl rfl ?_
        obtain ⟨h19, h⟩ := chk_some h
        obtain ⟨h20, h⟩ := chk_some h
        refine g_iald (pc' := 45) C (o := 76 + (x3 + 1).toNatClampNeg) (kC_lt h19 (by decide)) (sfC_1346 h19) h20 dX5_firstPace_44 rfl ?_
        refine g_aload_n (pc' := 46) C dX5_firstPace_45 1 rfl rfl ?_
        refine gg_X5_42 (pc' := 49) (o := 74) C rfl dX5_firstPace_46 rfl ?_
        refine g_icmp_ne (pc' := 52) (tgt := 55) C dX5_firstPace_49 (by decide) rfl (fun hc => ?_) (fun hc => ?_)
        · rw [if_neg hc] at h
          exact g_sub C [1, 2, 3, 4, 5, 6] rfl (w_X5_firstPace_74_B55 C hr hR (f_X5_firstPace_74_L6 n) ih _ _ _ _ _ _ h)
        · rw [if_pos hc] at h
          refine g_iload (pc' := 54) C dX5_firstPace_52 6 rfl rfl ?_
          exact g_iret C hr dX5_firstPace_54 h
def f_X5_firstPace_74 (σ : cr_S) (o1 : Nat) (o2 : Nat) (a3 : Int32) (a4 : Int32) : Option (cr_S × Int32) :=
  Option.bind (f_X6_low σ o2) (fun q1 => chk (kC o2 = 6) (cr_let q1.2 (fun v4 => f_X5_firstPace_74_L6 cr_fuel q1.1 o1 o2 a3 a4 v4)))
set_option maxRecDepth 100000 in
set_option maxHeartbeats 4000000 in
theorem w_X5_firstPace_74 (C : cr_C p l e R s m args below meth c sfC 97 base D cA cX5_firstPace 7 RX5) (hr : meth.sig.returnType = some .int) (hR : 2 ≤ R.frames ∧ 47 ≤ R.locals) {res : cr_S × Int32} (σ : cr_S) (o1 : Nat) (o2 : Nat) (a3 : Int32) (a4 : Int32) (h : f_X5_firstPace_74 σ o1 o2 a3 a4 = some res) : cr_W p l e R s m args below meth c sfC 97 base D cA 7 (MQ below (cr_Qi sfC 97 base D cA res) args s 0 0 (cr_A 97 base)) σ 0 [(0, .ref (base + 74)), (1, .ref (base + o1)), (2, .ref (base + o2)), (3, .int a3), (4, .int a4)] [] := by
  unfold f_X5_firstPace_74 at h
  refine g_aload_n (pc' := 1) C dX5_firstPace_0 2 rfl rfl ?_
  obtain ⟨q1, h2, h⟩ := bind_some h
  obtain ⟨h3, h⟩ := chk_some h
  refine g_callVi (pc' := 4) (res := q1) C [] cY_X6_low rfl (o := o2) (kC_lt h3 (by decide)) (sfC_6 h3) mv_X6_low mm_X5_71 ⟨Nat.le_trans (by decide) hR.1, Nat.le_trans (by decide) hR.2⟩ rfl (Nat.le_of_ble_eq_true rfl) rfl dX5_firstPace_1 (c_X6_low l base D cA σ o2 q1 h2) rfl ?_
  obtain ⟨v4, e5, h⟩ := let_some h
  refine g_nameI e5 ?_
  refine g_istore (pc' := 6) (lv' := [(5, .int v4), (0, .ref (base + 74)), (1, .ref (base + o1)), (2, .ref (base + o2)), (3, .int a3), (4, .int a4)]) C dX5_firstPace_4 (by decide) rfl rfl ?_
  exact g_sub C [1, 2, 3, 4, 5, 0] rfl (w_X5_firstPace_74_L6 C hr hR _ _ _ _ _ _ _ h)
theorem c_X5_firstPace_74 (l : Launch) (base : Nat) (D : va_G) (cA : Nat → ClassId) (σ : cr_S) (o1 : Nat) (o2 : Nat) (a3 : Int32) (a4 : Int32) (res : cr_S × Int32) (h : f_X5_firstPace_74 σ o1 o2 a3 a4 = some res) : cr_M l yX5_firstPace cX5_firstPace 7 (some .int) 2 47 sfC 97 base D cA [.ref (base + 74), .ref (base + o1), .ref (base + o2), .int a3, .int a4] σ (cr_Qi sfC 97 base D cA res) := by
  refine cr_enter [.ref (base + 74), .ref (base + o1), .ref (base + o2), .int a3, .int a4] [(0, .ref (base + 74)), (1, .ref (base + o1)), (2, .ref (base + o2)), (3, .int a3), (4, .int a4)] (by decide) (Nat.le_of_ble_eq_true rfl) rfl ?_
  intro p e R s m below meth c C hr hR
  exact w_X5_firstPace_74 C hr hR σ o1 o2 a3 a4 h
def f_X5_tellPaces_74_1_L9  : Nat → cr_S → Nat → Int32 → Int32 → Int32 → Option (cr_S)
  | 0, _, _, _, _, _ => none
  | n + 1, σ, x2, x3, x4, x5 =>
    (if (rF σ 1 5) ≤ x5 then some σ else chk (inb x5 6) (Option.bind (f_X5_measure_74 σ (9 + x5.toNatClampNeg) x3 (100 + ((x5 + 1) * 41))) (fun q4 => chk (inb x5 6) (Option.bind (f_X5_firstPace_74 q4 (9 + x5.toNatClampNeg) x2 x5 x4) (fun q7 => chk (inb x5 6) (cr_let (sA q7.1 84 x5 q7.2) (fun s10 => chk (inb x5 6) (chk (kC (9 + x5.toNatClampNeg) = 3) (chk (inb x5 6) (Option.bind (f_X10_secondsFor s10 (rF s10 (9 + x5.toNatClampNeg) 1) (rA s10 84 x5)) (fun q15 => Option.bind (f_X6_span q15.1 x2) (fun q17 => chk (kC x2 = 6) (chk (inb x5 6) (Option.bind (f_X10_secondsFor q17.1 q17.2 (rA q17.1 84 x5)) (fun q21 => cr_let (x4 + (q15.2 + q21.2)) (fun v23 => cr_let (x5 + 1) (fun v25 => f_X5_tellPaces_74_1_L9 n q21.1 x2 x3 v23 v25)))))))))))))))))
set_option maxRecDepth 100000 in
set_option maxHeartbeats 4000000 in
theorem w_X5_tellPaces_74_1_L9 (C : cr_C p l e R s m args below meth c sfC 97 base D cA cX5_tellPaces 6 RX5) (hr : meth.sig.returnType = none) (hR : 4 ≤ R.frames ∧ 89 ≤ R.locals) {res : cr_S}  : ∀ (n : Nat) (σ : cr_S) (x2 : Nat) (x3 : Int32) (x4 : Int32) (x5 : Int32), f_X5_tellPaces_74_1_L9 n σ x2 x3 x4 x5 = some res → cr_W p l e R s m args below meth c sfC 97 base D cA 6 (MQ below (cr_Qv sfC 97 base D cA res) args s 0 0 (cr_A 97 base)) σ 9 [(0, .ref (base + 74)), (1, .ref (base + 1)), (2, .ref (base + x2)), (3, .int x3), (4, .int x4), (5, .int x5)] [] := by
  intro n
  induction n with
  | zero =>
    intro σ x2 x3 x4 x5 h
    cases h
  | succ n ih =>
    intro σ x2 x3 x4 x5 h
    rw [f_X5_tellPaces_74_1_L9] at h
    refine g_iload (pc' := 11) C dX5_tellPaces_9 5 rfl rfl ?_
    refine g_aload_n (pc' := 12) C dX5_tellPaces_11 1 rfl rfl ?_
    refine gg_X5_23 (pc' := 15) (o := 1) C rfl dX5_tellPaces_12 rfl ?_
    refine g_icmp_ge (pc' := 18) (tgt := 109) C dX5_tellPaces_15 (by decide) rfl (fun hc => ?_) (fun hc => ?_)
    · rw [if_pos hc] at h
      exact g_vret C hr dX5_tellPaces_109 h
    · rw [if_neg hc] at h
      refine g_aload_n (pc' := 19) C dX5_tellPaces_18 0 rfl rfl ?_
      refine g_aload_n (pc' := 20) C dX5_tellPaces_19 1 rfl rfl ?_
      refine gg_X5_29 (pc' := 23) (o := 1) (r := 2) C rfl rfl dX5_tellPaces_20 rfl ?_
      refine g_iload (pc' := 25) C dX5_tellPaces_23 5 rfl rfl ?_
      obtain ⟨h3, h⟩ := chk_some h
      refine g_aald (pc' := 26) C (o := 2) (by decide) rfl (cn := "ClashRocks$Pair") rfl h3 dX5_tellPaces_25 rfl ?_
      refine g_iload_n (pc' := 27) C dX5_tellPaces_26 3 rfl rfl ?_
      refine g_bipush (pc' := 29) (v := 100) C dX5_tellPaces_27 (by decide) rfl ?_
      refine g_iload (pc' := 31) C dX5_tellPaces_29 5 rfl rfl ?_
      refine g_iconst (pc' := 32) (v := 1) C dX5_tellPaces_31 (by decide) rfl ?_
      refine g_iadd (pc' := 33) C dX5_tellPaces_32 rfl ?_
      refine g_bipush (pc' := 35) (v := 41) C dX5_tellPaces_33 (by decide) rfl ?_
      refine g_imul (pc' := 36) C dX5_tellPaces_35 rfl ?_
      refine g_iadd (pc' := 37) C dX5_tellPaces_36 rfl ?_
      obtain ⟨q4, h5, h⟩ := bind_some h
      refine g_callVv (pc' := 40) (res := q4) C [.ref (base + (9 + x5.toNatClampNeg)), .int x3, .int (100 + ((x5 + 1) * 41))] cY_X5_measure rfl (o := 74) (by decide) rfl mv_X5_measure mm_X5_33 ⟨Nat.le_trans (by decide) hR.1, Nat.le_trans (by decide) hR.2⟩ rfl (Nat.le_of_ble_eq_true rfl) rfl dX5_tellPaces_37 (c_X5_measure_74 l base D cA σ (9 + x5.toNatClampNeg) x3 (100 + ((x5 + 1) * 41)) q4 h5) rfl ?_
      refine g_aload_n (pc' := 41) C dX5_tellPaces_40 0 rfl rfl ?_
      refine gg_X5_20 (pc' := 44) (o := 74) (r := 84) C rfl rfl dX5_tellPaces_41 rfl ?_
      refine g_iload (pc' := 46) C dX5_tellPaces_44 5 rfl rfl ?_
      refine g_aload_n (pc' := 47) C dX5_tellPaces_46 0 rfl rfl ?_
      refine g_aload_n (pc' := 48) C dX5_tellPaces_47 1 rfl rfl ?_
      refine gg_X5_29 (pc' := 51) (o := 1) (r := 2) C rfl rfl dX5_tellPaces_48 rfl ?_
      refine g_iload (pc' := 53) C dX5_tellPaces_51 5 rfl rfl ?_
      obtain ⟨h6, h⟩ := chk_some h
      refine g_aald (pc' := 54) C (o := 2) (by decide) rfl (cn := "ClashRocks$Pair") rfl h6 dX5_tellPaces_53 rfl ?_
      refine g_aload_n (pc' := 55) C dX5_tellPaces_54 2 rfl rfl ?_
      refine g_iload (pc' := 57) C dX5_tellPaces_55 5 rfl rfl ?_
      refine g_iload (pc' := 59) C dX5_tellPaces_57 4 rfl rfl ?_
      obtain ⟨q7, h8, h⟩ := bind_some h
      refine g_callVi (pc' := 62) (res := q7) C [.ref (base + (9 + x5.toNatClampNeg)), .ref (base + x2), .int x5, .int x4] cY_X5_firstPace rfl (o := 74) (by decide) rfl mv_X5_firstPace mm_X5_85 ⟨Nat.le_trans (by decide) hR.1, Nat.le_trans (by decide) hR.2⟩ rfl (Nat.le_of_ble_eq_true rfl) rfl dX5_tellPaces_59 (c_X5_firstPace_74 l base D cA q4 (9 + x5.toNatClampNeg) x2 x5 x4 q7 h8) rfl ?_
      obtain ⟨h9, h⟩ := chk_some h
      obtain ⟨s10, e11, h⟩ := let_some h
      refine g_iast (pc' := 63) C (o := 84) (by decide) rfl h9 dX5_tellPaces_62 rfl e11 ?_
      refine g_iload (pc' := 65) C dX5_tellPaces_63 4 rfl rfl ?_
      refine g_aload_n (pc' := 66) C dX5_tellPaces_65 1 rfl rfl ?_
      refine gg_X5_29 (pc' := 69) (o := 1) (r := 2) C rfl rfl dX5_tellPaces_66 rfl ?_
      refine g_iload (pc' := 71) C dX5_tellPaces_69 5 rfl rfl ?_
      obtain ⟨h12, h⟩ := chk_some h
      refine g_aald (pc' := 72) C (o := 2) (by decide) rfl (cn := "ClashRocks$Pair") rfl h12 dX5_tellPaces_71 rfl ?_
      obtain ⟨h13, h⟩ := chk_some h
      refine gg_X5_58 (pc' := 75) (o := 9 + x5.toNatClampNeg) C h13 dX5_tellPaces_72 rfl ?_
      refine g_aload_n (pc' := 76) C dX5_tellPaces_75 0 rfl rfl ?_
      refine gg_X5_20 (pc' := 79) (o := 74) (r := 84) C rfl rfl dX5_tellPaces_76 rfl ?_
      refine g_iload (pc' := 81) C dX5_tellPaces_79 5 rfl rfl ?_
      obtain ⟨h14, h⟩ := chk_some h
      refine g_iald (pc' := 82) C (o := 84) (by decide) rfl h14 dX5_tellPaces_81 rfl ?_
      obtain ⟨q15, h16, h⟩ := bind_some h
      refine g_callNi (pc' := 85) (res := q15) C [.int (rF s10 (9 + x5.toNatClampNeg) 1), .int (rA s10 84 x5)] cY_X10_secondsFor mv_X10_secondsFor mn_X5_61 ⟨Nat.le_trans (by decide) hR.1, Nat.le_trans (by decide) hR.2⟩ rfl (Nat.le_of_ble_eq_true rfl) rfl dX5_tellPaces_82 (c_X10_secondsFor l base D cA s10 (rF s10 (9 + x5.toNatClampNeg) 1) (rA s10 84 x5) q15 h16) rfl ?_
      refine g_aload_n (pc' := 86) C dX5_tellPaces_85 2 rfl rfl ?_
      obtain ⟨q17, h18, h⟩ := bind_some h
      obtain ⟨h19, h⟩ := chk_some h
      refine g_callVi (pc' := 89) (res := q17) C [] cY_X6_span rfl (o := x2) (kC_lt h19 (by decide)) (sfC_6 h19) mv_X6_span mm_X5_65 ⟨Nat.le_trans (by decide) hR.1, Nat.le_trans (by decide) hR.2⟩ rfl (Nat.le_of_ble_eq_true rfl) rfl dX5_tellPaces_86 (c_X6_span l base D cA q15.1 x2 q17 h18) rfl ?_
      refine g_aload_n (pc' := 90) C dX5_tellPaces_89 0 rfl rfl ?_
      refine gg_X5_20 (pc' := 93) (o := 74) (r := 84) C rfl rfl dX5_tellPaces_90 rfl ?_
      refine g_iload (pc' := 95) C dX5_tellPaces_93 5 rfl rfl ?_
      obtain ⟨h20, h⟩ := chk_some h
      refine g_iald (pc' := 96) C (o := 84) (by decide) rfl h20 dX5_tellPaces_95 rfl ?_
      obtain ⟨q21, h22, h⟩ := bind_some h
      refine g_callNi (pc' := 99) (res := q21) C [.int q17.2, .int (rA q17.1 84 x5)] cY_X10_secondsFor mv_X10_secondsFor mn_X5_61 ⟨Nat.le_trans (by decide) hR.1, Nat.le_trans (by decide) hR.2⟩ rfl (Nat.le_of_ble_eq_true rfl) rfl dX5_tellPaces_96 (c_X10_secondsFor l base D cA q17.1 q17.2 (rA q17.1 84 x5) q21 h22) rfl ?_
      refine g_iadd (pc' := 100) C dX5_tellPaces_99 rfl ?_
      refine g_iadd (pc' := 101) C dX5_tellPaces_100 rfl ?_
      obtain ⟨v23, e24, h⟩ := let_some h
      refine g_nameI e24 ?_
      refine g_istore (pc' := 103) (lv' := [(4, .int v23), (0, .ref (base + 74)), (1, .ref (base + 1)), (2, .ref (base + x2)), (3, .int x3), (5, .int x5)]) C dX5_tellPaces_101 (by decide) rfl rfl ?_
      obtain ⟨v25, e26, h⟩ := let_some h
      refine g_iinc (pc' := 106) (v := v25) (lv' := [(5, .int v25), (4, .int v23), (0, .ref (base + 74)), (1, .ref (base + 1)), (2, .ref (base + x2)), (3, .int x3)]) C dX5_tellPaces_103 5 rfl (by rw [e26]; rfl) (by decide) rfl rfl ?_
      refine g_goto (tgt := 9) C dX5_tellPaces_106 (by decide) ?_
      exact g_sub C [2, 3, 4, 5, 1, 0] rfl (ih _ _ _ _ _ h)
def f_X5_tellPaces_74_1 (σ : cr_S) (o2 : Nat) (a3 : Int32) : Option (cr_S) :=
  cr_let (rF σ 74 3) (fun v1 => f_X5_tellPaces_74_1_L9 cr_fuel σ o2 a3 v1 0)
set_option maxRecDepth 100000 in
set_option maxHeartbeats 4000000 in
theorem w_X5_tellPaces_74_1 (C : cr_C p l e R s m args below meth c sfC 97 base D cA cX5_tellPaces 6 RX5) (hr : meth.sig.returnType = none) (hR : 4 ≤ R.frames ∧ 89 ≤ R.locals) {res : cr_S} (σ : cr_S) (o2 : Nat) (a3 : Int32) (h : f_X5_tellPaces_74_1 σ o2 a3 = some res) : cr_W p l e R s m args below meth c sfC 97 base D cA 6 (MQ below (cr_Qv sfC 97 base D cA res) args s 0 0 (cr_A 97 base)) σ 0 [(0, .ref (base + 74)), (1, .ref (base + 1)), (2, .ref (base + o2)), (3, .int a3)] [] := by
  unfold f_X5_tellPaces_74_1 at h
  refine g_aload_n (pc' := 1) C dX5_tellPaces_0 0 rfl rfl ?_
  refine gg_X5_45 (pc' := 4) (o := 74) C rfl dX5_tellPaces_1 rfl ?_
  obtain ⟨v1, e2, h⟩ := let_some h
  refine g_nameI e2 ?_
  refine g_istore (pc' := 6) (lv' := [(4, .int v1), (0, .ref (base + 74)), (1, .ref (base + 1)), (2, .ref (base + o2)), (3, .int a3)]) C dX5_tellPaces_4 (by decide) rfl rfl ?_
  refine g_iconst (pc' := 7) (v := 0) C dX5_tellPaces_6 (by decide) rfl ?_
  refine g_istore (pc' := 9) (lv' := [(5, .int 0), (4, .int v1), (0, .ref (base + 74)), (1, .ref (base + 1)), (2, .ref (base + o2)), (3, .int a3)]) C dX5_tellPaces_7 (by decide) rfl rfl ?_
  exact g_sub C [2, 3, 4, 5, 1, 0] rfl (w_X5_tellPaces_74_1_L9 C hr hR _ _ _ _ _ _ h)
theorem c_X5_tellPaces_74_1 (l : Launch) (base : Nat) (D : va_G) (cA : Nat → ClassId) (σ : cr_S) (o2 : Nat) (a3 : Int32) (res : cr_S) (h : f_X5_tellPaces_74_1 σ o2 a3 = some res) : cr_M l yX5_tellPaces cX5_tellPaces 6 none 4 89 sfC 97 base D cA [.ref (base + 74), .ref (base + 1), .ref (base + o2), .int a3] σ (cr_Qv sfC 97 base D cA res) := by
  refine cr_enter [.ref (base + 74), .ref (base + 1), .ref (base + o2), .int a3] [(0, .ref (base + 74)), (1, .ref (base + 1)), (2, .ref (base + o2)), (3, .int a3)] (by decide) (Nat.le_of_ble_eq_true rfl) rfl ?_
  intro p e R s m below meth c C hr hR
  exact w_X5_tellPaces_74_1 C hr hR σ o2 a3 h
def f_X5_soonestEnd_74_B56 (r10 : cr_S → Nat → Nat → Int32 → Int32 → Int32 → Int32 → Option (cr_S × Int32)) (σ : cr_S) (x1 : Nat) (x2 : Nat) (x3 : Int32) (x4 : Int32) (x5 : Int32) (x6 : Int32) : Option (cr_S × Int32) :=
  cr_let (x6 + 1) (fun v13 => r10 σ x1 x2 x3 x4 x5 v13)
set_option maxRecDepth 100000 in
set_option maxHeartbeats 4000000 in
theorem w_X5_soonestEnd_74_B56 (C : cr_C p l e R s m args below meth c sfC 97 base D cA cX5_soonestEnd 8 RX5) (hr : meth.sig.returnType = some .int) (hR : 2 ≤ R.frames ∧ 47 ≤ R.locals) {res : cr_S × Int32} (r10 : cr_S → Nat → Nat → Int32 → Int32 → Int32 → Int32 → Option (cr_S × Int32)) (hr10 : ∀ (σ : cr_S) (x1 : Nat) (x2 : Nat) (x3 : Int32) (x4 : Int32) (x5 : Int32) (x6 : Int32), r10 σ x1 x2 x3 x4 x5 x6 = some res → cr_W p l e R s m args below meth c sfC 97 base D cA 8 (MQ below (cr_Qi sfC 97 base D cA res) args s 0 0 (cr_A 97 base)) σ 10 [(0, .ref (base + 74)), (1, .ref (base + x1)), (2, .ref (base + x2)), (3, .int x3), (4, .int x4), (5, .int x5), (6, .int x6)] []) (σ : cr_S) (x1 : Nat) (x2 : Nat) (x3 : Int32) (x4 : Int32) (x5 : Int32) (x6 : Int32) (h : f_X5_soonestEnd_74_B56 r10 σ x1 x2 x3 x4 x5 x6 = some res) : cr_W p l e R s m args below meth c sfC 97 base D cA 8 (MQ below (cr_Qi sfC 97 base D cA res) args s 0 0 (cr_A 97 base)) σ 56 [(0, .ref (base + 74)), (1, .ref (base + x1)), (2, .ref (base + x2)), (3, .int x3), (4, .int x4), (5, .int x5), (6, .int x6)] [] := by
  unfold f_X5_soonestEnd_74_B56 at h
  obtain ⟨v13, e14, h⟩ := let_some h
  refine g_iinc (pc' := 59) (v := v13) (lv' := [(6, .int v13), (0, .ref (base + 74)), (1, .ref (base + x1)), (2, .ref (base + x2)), (3, .int x3), (4, .int x4), (5, .int x5)]) C dX5_soonestEnd_56 6 rfl (by rw [e14]; rfl) (by decide) rfl rfl ?_
  refine g_goto (tgt := 10) C dX5_soonestEnd_59 (by decide) ?_
  exact g_sub C [1, 2, 3, 4, 5, 6, 0] rfl (hr10 _ _ _ _ _ _ _ h)
def f_X5_soonestEnd_74_L10  : Nat → cr_S → Nat → Nat → Int32 → Int32 → Int32 → Int32 → Option (cr_S × Int32)
  | 0, _, _, _, _, _, _, _ => none
  | n + 1, σ, x1, x2, x3, x4, x5, x6 =>
    Option.bind (f_X6_high σ x2) (fun q6 => chk (kC x2 = 6) ((if q6.2 < x6 then some (q6.1, x5) else Option.bind (f_X5_behindBy_74 q6.1 x1 x2 x4 x6) (fun q9 => cr_let q9.2 (fun v11 => (if v11 = 1000000 then f_X5_soonestEnd_74_B56 (f_X5_soonestEnd_74_L10 n) q9.1 x1 x2 x3 x4 x5 x6 else chk (inb (x3 + 1) 7) (chk (kC (76 + (x3 + 1).toNatClampNeg) = 1346) (chk (inb v11 346) (cr_let (if (rA q9.1 (76 + (x3 + 1).toNatClampNeg) v11) < x5 then rA q9.1 (76 + (x3 + 1).toNatClampNeg) v11 else x5) (fun v18 => f_X5_soonestEnd_74_B56 (f_X5_soonestEnd_74_L10 n) q9.1 x1 x2 x3 x4 v18 x6))))))))))
set_option maxRecDepth 100000 in
set_option maxHeartbeats 4000000 in
theorem w_X5_soonestEnd_74_L10 (C : cr_C p l e R s m args below meth c sfC 97 base D cA cX5_soonestEnd 8 RX5) (hr : meth.sig.returnType = some .int) (hR : 2 ≤ R.frames ∧ 47 ≤ R.locals) {res : cr_S × Int32}  : ∀ (n : Nat) (σ : cr_S) (x1 : Nat) (x2 : Nat) (x3 : Int32) (x4 : Int32) (x5 : Int32) (x6 : Int32), f_X5_soonestEnd_74_L10 n σ x1 x2 x3 x4 x5 x6 = some res → cr_W p l e R s m args below meth c sfC 97 base D cA 8 (MQ below (cr_Qi sfC 97 base D cA res) args s 0 0 (cr_A 97 base)) σ 10 [(0, .ref (base + 74)), (1, .ref (base + x1)), (2, .ref (base + x2)), (3, .int x3), (4, .int x4), (5, .int x5), (6, .int x6)] [] := by
  intro n
  induction n with
  | zero =>
    intro σ x1 x2 x3 x4 x5 x6 h
    cases h
  | succ n ih =>
    intro σ x1 x2 x3 x4 x5 x6 h
    rw [f_X5_soonestEnd_74_L10] at h
    refine g_iload (pc' := 12) C dX5_soonestEnd_10 6 rfl rfl ?_
    refine g_aload_n (pc' := 13) C dX5_soonestEnd_12 2 rfl rfl ?_
    obtain ⟨q6, h7, h⟩ := bind_some h
    obtain ⟨h8, h⟩ := chk_some h
    refine g_callVi (pc' := 16) (res := q6) C [] cY_X6_high rfl (o := x2) (kC_lt h8 (by decide)) (sfC_6 h8) mv_X6_high mm_X5_74 ⟨Nat.le_trans (by decide) hR.1, Nat.le_trans (by decide) hR.2⟩ rfl (Nat.le_of_ble_eq_true rfl) rfl dX5_soonestEnd_13 (c_X6_high l base D cA σ x2 q6 h7) rfl ?_
    refine g_icmp_gt (pc' := 19) (tgt := 62) C dX5_soonestEnd_16 (by decide) rfl (fun hc => ?_) (fun hc => ?_)
    · rw [if_pos hc] at h
      refine g_iload (pc' := 64) C dX5_soonestEnd_62 5 rfl rfl ?_
      exact g_iret C hr dX5_soonestEnd_64 h
    · rw [if_neg hc] at h
      refine g_aload_n (pc' := 20) C dX5_soonestEnd_19 0 rfl rfl ?_
      refine g_aload_n (pc' := 21) C dX5_soonestEnd_20 1 rfl rfl ?_
      refine g_aload_n (pc' := 22) C dX5_soonestEnd_21 2 rfl rfl ?_
      refine g_iload (pc' := 24) C dX5_soonestEnd_22 4 rfl rfl ?_
      refine g_iload (pc' := 26) C dX5_soonestEnd_24 6 rfl rfl ?_
      obtain ⟨q9, h10, h⟩ := bind_some h
      refine g_callVi (pc' := 29) (res := q9) C [.ref (base + x1), .ref (base + x2), .int x4, .int x6] cY_X5_behindBy rfl (o := 74) (by decide) rfl mv_X5_behindBy mm_X5_77 ⟨Nat.le_trans (by decide) hR.1, Nat.le_trans (by decide) hR.2⟩ rfl (Nat.le_of_ble_eq_true rfl) rfl dX5_soonestEnd_26 (c_X5_behindBy_74 l base D cA q6.1 x1 x2 x4 x6 q9 h10) rfl ?_
      obtain ⟨v11, e12, h⟩ := let_some h
      refine g_nameI e12 ?_
      refine g_istore (pc' := 31) (lv' := [(7, .int v11), (0, .ref (base + 74)), (1, .ref (base + x1)), (2, .ref (base + x2)), (3, .int x3), (4, .int x4), (5, .int x5), (6, .int x6)]) C dX5_soonestEnd_29 (by decide) rfl rfl ?_
      refine g_iload (pc' := 33) C dX5_soonestEnd_31 0 rfl rfl ?_
      refine g_ldc (pc' := 35) (v := 1000000) C dX5_soonestEnd_33 mk_X5_41 rfl ?_
      refine g_icmp_eq (pc' := 38) (tgt := 56) C dX5_soonestEnd_35 (by decide) rfl (fun hc => ?_) (fun hc => ?_)
      · rw [if_pos hc] at h
        exact g_sub C [1, 2, 3, 4, 5, 6, 7] rfl (w_X5_soonestEnd_74_B56 C hr hR (f_X5_soonestEnd_74_L10 n) ih _ _ _ _ _ _ _ h)
      · rw [if_neg hc] at h
        refine g_iload (pc' := 40) C dX5_soonestEnd_38 6 rfl rfl ?_
        refine g_aload_n (pc' := 41) C dX5_soonestEnd_40 1 rfl rfl ?_
        refine gg_X5_11 (pc' := 44) (o := 74) (r := 75) C rfl rfl dX5_soonestEnd_41 rfl ?_
        refine g_iload_n (pc' := 45) C dX5_soonestEnd_44 4 rfl rfl ?_
        refine g_iconst (pc' := 46) (v := 1) C dX5_soonestEnd_45 (by decide) rfl ?_
        refine g_iadd (pc' := 47) C dX5_soonestEnd_46 rfl ?_
        obtain ⟨h15, h⟩ := chk_some h
        refine g_aaldA (pc' := 48) C (o := 75) (by decide) rfl h15 dX5_soonestEnd_47 rfl ?_
        refine g_iload (pc' := 50) C dX5_soonestEnd_48 0 rfl rfl ?_
        obtain ⟨h16, h⟩ := chk_some h
        obtain ⟨h17, h⟩ := chk_some h
        refine g_iald (pc' := 51) C (o := 76 + (x3 + 1).toNatClampNeg) (kC_lt h16 (by decide)) (sfC_1346 h16) h17 dX5_soonestEnd_50 rfl ?_
        refine g_mmin (pc' := 54) C mm_X5_80 ⟨Nat.le_trans (by decide) hR.1, Nat.le_trans (by decide) hR.2⟩ (Nat.le_of_ble_eq_true rfl) dX5_soonestEnd_51 rfl ?_
        obtain ⟨v18, e19, h⟩ := let_some h
        refine g_nameI e19 ?_
        refine g_istore (pc' := 56) (lv' := [(5, .int v18), (7, .int v11), (0, .ref (base + 74)), (1, .ref (base + x1)), (2, .ref (base + x2)), (3, .int x3), (4, .int x4), (6, .int x6)]) C dX5_soonestEnd_54 (by decide) rfl rfl ?_
        exact g_sub C [2, 3, 4, 5, 6, 0, 7] rfl (w_X5_soonestEnd_74_B56 C hr hR (f_X5_soonestEnd_74_L10 n) ih _ _ _ _ _ _ _ h)
def f_X5_soonestEnd_74 (σ : cr_S) (o1 : Nat) (o2 : Nat) (a3 : Int32) (a4 : Int32) : Option (cr_S × Int32) :=
  Option.bind (f_X6_low σ o2) (fun q1 => chk (kC o2 = 6) (cr_let q1.2 (fun v4 => f_X5_soonestEnd_74_L10 cr_fuel q1.1 o1 o2 a3 a4 1000000 v4)))
set_option maxRecDepth 100000 in
set_option maxHeartbeats 4000000 in
theorem w_X5_soonestEnd_74 (C : cr_C p l e R s m args below meth c sfC 97 base D cA cX5_soonestEnd 8 RX5) (hr : meth.sig.returnType = some .int) (hR : 2 ≤ R.frames ∧ 47 ≤ R.locals) {res : cr_S × Int32} (σ : cr_S) (o1 : Nat) (o2 : Nat) (a3 : Int32) (a4 : Int32) (h : f_X5_soonestEnd_74 σ o1 o2 a3 a4 = some res) : cr_W p l e R s m args below meth c sfC 97 base D cA 8 (MQ below (cr_Qi sfC 97 base D cA res) args s 0 0 (cr_A 97 base)) σ 0 [(0, .ref (base + 74)), (1, .ref (base + o1)), (2, .ref (base + o2)), (3, .int a3), (4, .int a4)] [] := by
  unfold f_X5_soonestEnd_74 at h
  refine g_ldc (pc' := 2) (v := 1000000) C dX5_soonestEnd_0 mk_X5_41 rfl ?_
  refine g_istore (pc' := 4) (lv' := [(5, .int 1000000), (0, .ref (base + 74)), (1, .ref (base + o1)), (2, .ref (base + o2)), (3, .int a3), (4, .int a4)]) C dX5_soonestEnd_2 (by decide) rfl rfl ?_
  refine g_aload_n (pc' := 5) C dX5_soonestEnd_4 3 rfl rfl ?_
  obtain ⟨q1, h2, h⟩ := bind_some h
  obtain ⟨h3, h⟩ := chk_some h
  refine g_callVi (pc' := 8) (res := q1) C [] cY_X6_low rfl (o := o2) (kC_lt h3 (by decide)) (sfC_6 h3) mv_X6_low mm_X5_71 ⟨Nat.le_trans (by decide) hR.1, Nat.le_trans (by decide) hR.2⟩ rfl (Nat.le_of_ble_eq_true rfl) rfl dX5_soonestEnd_5 (c_X6_low l base D cA σ o2 q1 h2) rfl ?_
  obtain ⟨v4, e5, h⟩ := let_some h
  refine g_nameI e5 ?_
  refine g_istore (pc' := 10) (lv' := [(6, .int v4), (5, .int 1000000), (0, .ref (base + 74)), (1, .ref (base + o1)), (2, .ref (base + o2)), (3, .int a3), (4, .int a4)]) C dX5_soonestEnd_8 (by decide) rfl rfl ?_
  exact g_sub C [2, 3, 4, 5, 6, 1, 0] rfl (w_X5_soonestEnd_74_L10 C hr hR _ _ _ _ _ _ _ _ h)
theorem c_X5_soonestEnd_74 (l : Launch) (base : Nat) (D : va_G) (cA : Nat → ClassId) (σ : cr_S) (o1 : Nat) (o2 : Nat) (a3 : Int32) (a4 : Int32) (res : cr_S × Int32) (h : f_X5_soonestEnd_74 σ o1 o2 a3 a4 = some res) : cr_M l yX5_soonestEnd cX5_soonestEnd 8 (some .int) 2 47 sfC 97 base D cA [.ref (base + 74), .ref (base + o1), .ref (base + o2), .int a3, .int a4] σ (cr_Qi sfC 97 base D cA res) := by
  refine cr_enter [.ref (base + 74), .ref (base + o1), .ref (base + o2), .int a3, .int a4] [(0, .ref (base + 74)), (1, .ref (base + o1)), (2, .ref (base + o2)), (3, .int a3), (4, .int a4)] (by decide) (Nat.le_of_ble_eq_true rfl) rfl ?_
  intro p e R s m below meth c C hr hR
  exact w_X5_soonestEnd_74 C hr hR σ o1 o2 a3 a4 h
def f_X5_findSoonest_74_1_B192  (σ : cr_S) (x2 : Nat) (x3 : Int32) : Option (cr_S) :=
  (if (rF σ 74 4) = 1000000 then some σ else Option.bind (f_X5_tellPaces_74_1 σ x2 x3) (fun q7 => some q7))
set_option maxRecDepth 100000 in
set_option maxHeartbeats 4000000 in
theorem w_X5_findSoonest_74_1_B192 (C : cr_C p l e R s m args below meth c sfC 97 base D cA cX5_findSoonest 8 RX5) (hr : meth.sig.returnType = none) (hR : 5 ≤ R.frames ∧ 114 ≤ R.locals) {res : cr_S}  (σ : cr_S) (x2 : Nat) (x3 : Int32) (h : f_X5_findSoonest_74_1_B192 σ x2 x3 = some res) : cr_W p l e R s m args below meth c sfC 97 base D cA 8 (MQ below (cr_Qv sfC 97 base D cA res) args s 0 0 (cr_A 97 base)) σ 192 [(0, .ref (base + 74)), (1, .ref (base + 1)), (2, .ref (base + x2)), (3, .int x3)] [] := by
  unfold f_X5_findSoonest_74_1_B192 at h
  refine g_aload_n (pc' := 193) C dX5_findSoonest_192 0 rfl rfl ?_
  refine gg_X5_42 (pc' := 196) (o := 74) C rfl dX5_findSoonest_193 rfl ?_
  refine g_ldc (pc' := 198) (v := 1000000) C dX5_findSoonest_196 mk_X5_41 rfl ?_
  refine g_icmp_eq (pc' := 201) (tgt := 208) C dX5_findSoonest_198 (by decide) rfl (fun hc => ?_) (fun hc => ?_)
  · rw [if_pos hc] at h
    exact g_vret C hr dX5_findSoonest_208 h
  · rw [if_neg hc] at h
    refine g_aload_n (pc' := 202) C dX5_findSoonest_201 0 rfl rfl ?_
    refine g_aload_n (pc' := 203) C dX5_findSoonest_202 1 rfl rfl ?_
    refine g_aload_n (pc' := 204) C dX5_findSoonest_203 2 rfl rfl ?_
    refine g_iload_n (pc' := 205) C dX5_findSoonest_204 3 rfl rfl ?_
    obtain ⟨q7, h8, h⟩ := bind_some h
    refine g_callVv (pc' := 208) (res := q7) C [.ref (base + 1), .ref (base + x2), .int x3] cY_X5_tellPaces rfl (o := 74) (by decide) rfl mv_X5_tellPaces mm_X5_48 ⟨Nat.le_trans (by decide) hR.1, Nat.le_trans (by decide) hR.2⟩ rfl (Nat.le_of_ble_eq_true rfl) rfl dX5_findSoonest_205 (c_X5_tellPaces_74_1 l base D cA σ x2 x3 q7 h8) rfl ?_
    exact g_vret C hr dX5_findSoonest_208 h
def f_X5_findSoonest_74_1_B186 (r130 : cr_S → Nat → Int32 → Int32 → Option (cr_S)) (σ : cr_S) (x2 : Nat) (x3 : Int32) (x5 : Int32) : Option (cr_S) :=
  cr_let (x5 + 1) (fun v10 => r130 σ x2 x3 v10)
set_option maxRecDepth 100000 in
set_option maxHeartbeats 4000000 in
theorem w_X5_findSoonest_74_1_B186 (C : cr_C p l e R s m args below meth c sfC 97 base D cA cX5_findSoonest 8 RX5) (hr : meth.sig.returnType = none) (hR : 5 ≤ R.frames ∧ 114 ≤ R.locals) {res : cr_S} (r130 : cr_S → Nat → Int32 → Int32 → Option (cr_S)) (hr130 : ∀ (σ : cr_S) (x2 : Nat) (x3 : Int32) (x5 : Int32), r130 σ x2 x3 x5 = some res → cr_W p l e R s m args below meth c sfC 97 base D cA 8 (MQ below (cr_Qv sfC 97 base D cA res) args s 0 0 (cr_A 97 base)) σ 130 [(0, .ref (base + 74)), (1, .ref (base + 1)), (2, .ref (base + x2)), (3, .int x3), (5, .int x5)] []) (σ : cr_S) (x2 : Nat) (x3 : Int32) (x5 : Int32) (h : f_X5_findSoonest_74_1_B186 r130 σ x2 x3 x5 = some res) : cr_W p l e R s m args below meth c sfC 97 base D cA 8 (MQ below (cr_Qv sfC 97 base D cA res) args s 0 0 (cr_A 97 base)) σ 186 [(0, .ref (base + 74)), (1, .ref (base + 1)), (2, .ref (base + x2)), (3, .int x3), (5, .int x5)] [] := by
  unfold f_X5_findSoonest_74_1_B186 at h
  obtain ⟨v10, e11, h⟩ := let_some h
  refine g_iinc (pc' := 189) (v := v10) (lv' := [(5, .int v10), (0, .ref (base + 74)), (1, .ref (base + 1)), (2, .ref (base + x2)), (3, .int x3)]) C dX5_findSoonest_186 4 rfl (by rw [e11]; rfl) (by decide) rfl rfl ?_
  refine g_goto (tgt := 130) C dX5_findSoonest_189 (by decide) ?_
  exact g_sub C [1, 2, 3, 4, 0] rfl (hr130 _ _ _ _ h)
def f_X5_findSoonest_74_1_L130  : Nat → cr_S → Nat → Int32 → Int32 → Option (cr_S)
  | 0, _, _, _, _ => none
  | n + 1, σ, x2, x3, x5 =>
    (if 100 ≤ x5 then f_X5_findSoonest_74_1_B192 σ x2 x3 else chk (inb x5 346) ((if (rF σ 74 4) < (rA σ 76 x5) then f_X5_findSoonest_74_1_B186 (f_X5_findSoonest_74_1_L130 n) σ x2 x3 x5 else chk (inb x5 346) ((if (rA σ 76 x5) = 1000000 then f_X5_findSoonest_74_1_B186 (f_X5_findSoonest_74_1_L130 n) σ x2 x3 x5 else chk (inb x5 346) (cr_let (sF σ 74 4 (rA σ 76 x5)) (fun s14 => cr_let (sF s14 74 3 x5) (fun s16 => f_X5_findSoonest_74_1_B186 (f_X5_findSoonest_74_1_L130 n) s16 x2 x3 x5))))))))
set_option maxRecDepth 100000 in
set_option maxHeartbeats 4000000 in
theorem w_X5_findSoonest_74_1_L130 (C : cr_C p l e R s m args below meth c sfC 97 base D cA cX5_findSoonest 8 RX5) (hr : meth.sig.returnType = none) (hR : 5 ≤ R.frames ∧ 114 ≤ R.locals) {res : cr_S}  : ∀ (n : Nat) (σ : cr_S) (x2 : Nat) (x3 : Int32) (x5 : Int32), f_X5_findSoonest_74_1_L130 n σ x2 x3 x5 = some res → cr_W p l e R s m args below meth c sfC 97 base D cA 8 (MQ below (cr_Qv sfC 97 base D cA res) args s 0 0 (cr_A 97 base)) σ 130 [(0, .ref (base + 74)), (1, .ref (base + 1)), (2, .ref (base + x2)), (3, .int x3), (5, .int x5)] [] := by
  intro n
  induction n with
  | zero =>
    intro σ x2 x3 x5 h
    cases h
  | succ n ih =>
    intro σ x2 x3 x5 h
    rw [f_X5_findSoonest_74_1_L130] at h
    refine g_iload (pc' := 132) C dX5_findSoonest_130 4 rfl rfl ?_
    refine g_bipush (pc' := 134) (v := 100) C dX5_findSoonest_132 (by decide) rfl ?_
    refine g_icmp_ge (pc' := 137) (tgt := 192) C dX5_findSoonest_134 (by decide) rfl (fun hc => ?_) (fun hc => ?_)
    · rw [if_pos hc] at h
      exact g_sub C [0, 1, 2, 3] rfl (w_X5_findSoonest_74_1_B192 C hr hR _ _ _ h)
    · rw [if_neg hc] at h
      refine g_aload_n (pc' := 138) C dX5_findSoonest_137 0 rfl rfl ?_
      refine gg_X5_11 (pc' := 141) (o := 74) (r := 75) C rfl rfl dX5_findSoonest_138 rfl ?_
      refine g_iconst (pc' := 142) (v := 0) C dX5_findSoonest_141 (by decide) rfl ?_
      refine g_aaldA (pc' := 143) C (o := 75) (by decide) rfl (inb_d (by decide)) dX5_findSoonest_142 rfl ?_
      refine g_iload (pc' := 145) C dX5_findSoonest_143 4 rfl rfl ?_
      obtain ⟨h9, h⟩ := chk_some h
      refine g_iald (pc' := 146) C (o := 76) (by decide) rfl h9 dX5_findSoonest_145 rfl ?_
      refine g_aload_n (pc' := 147) C dX5_findSoonest_146 0 rfl rfl ?_
      refine gg_X5_42 (pc' := 150) (o := 74) C rfl dX5_findSoonest_147 rfl ?_
      refine g_icmp_gt (pc' := 153) (tgt := 186) C dX5_findSoonest_150 (by decide) rfl (fun hc => ?_) (fun hc => ?_)
      · rw [if_pos hc] at h
        exact g_sub C [0, 1, 2, 3, 4] rfl (w_X5_findSoonest_74_1_B186 C hr hR (f_X5_findSoonest_74_1_L130 n) ih _ _ _ _ h)
      · rw [if_neg hc] at h
        refine g_aload_n (pc' := 154) C dX5_findSoonest_153 0 rfl rfl ?_
        refine gg_X5_11 (pc' := 157) (o := 74) (r := 75) C rfl rfl dX5_findSoonest_154 rfl ?_
        refine g_iconst (pc' := 158) (v := 0) C dX5_findSoonest_157 (by decide) rfl ?_
        refine g_aaldA (pc' := 159) C (o := 75) (by decide) rfl (inb_d (by decide)) dX5_findSoonest_158 rfl ?_
        refine g_iload (pc' := 161) C dX5_findSoonest_159 4 rfl rfl ?_
        obtain ⟨h12, h⟩ := chk_some h
        refine g_iald (pc' := 162) C (o := 76) (by decide) rfl h12 dX5_findSoonest_161 rfl ?_
        refine g_ldc (pc' := 164) (v := 1000000) C dX5_findSoonest_162 mk_X5_41 rfl ?_
        refine g_icmp_eq (pc' := 167) (tgt := 186) C dX5_findSoonest_164 (by decide) rfl (fun hc => ?_) (fun hc => ?_)
        · rw [if_pos hc] at h
          exact g_sub C [0, 1, 2, 3, 4] rfl (w_X5_findSoonest_74_1_B186 C hr hR (f_X5_findSoonest_74_1_L130 n) ih _ _ _ _ h)
        · rw [if_neg hc] at h
          refine g_aload_n (pc' := 168) C dX5_findSoonest_167 0 rfl rfl ?_
          refine g_aload_n (pc' := 169) C dX5_findSoonest_168 0 rfl rfl ?_
          refine gg_X5_11 (pc' := 172) (o := 74) (r := 75) C rfl rfl dX5_findSoonest_169 rfl ?_
          refine g_iconst (pc' := 173) (v := 0) C dX5_findSoonest_172 (by decide) rfl ?_
          refine g_aaldA (pc' := 174) C (o := 75) (by decide) rfl (inb_d (by decide)) dX5_findSoonest_173 rfl ?_
          refine g_iload (pc' := 176) C dX5_findSoonest_174 4 rfl rfl ?_
          obtain ⟨h13, h⟩ := chk_some h
          refine g_iald (pc' := 177) C (o := 76) (by decide) rfl h13 dX5_findSoonest_176 rfl ?_
          obtain ⟨s14, e15, h⟩ := let_some h
          refine gp_X5_42 (pc' := 180) (o := 74) C rfl dX5_findSoonest_177 rfl e15 ?_
          refine g_aload_n (pc' := 181) C dX5_findSoonest_180 0 rfl rfl ?_
          refine g_iload (pc' := 183) C dX5_findSoonest_181 4 rfl rfl ?_
          obtain ⟨s16, e17, h⟩ := let_some h
          refine gp_X5_45 (pc' := 186) (o := 74) C rfl dX5_findSoonest_183 rfl e17 ?_
          exact g_sub C [0, 1, 2, 3, 4] rfl (w_X5_findSoonest_74_1_B186 C hr hR (f_X5_findSoonest_74_1_L130 n) ih _ _ _ _ h)
def f_X5_findSoonest_74_1_B121  (σ : cr_S) (x2 : Nat) (x3 : Int32) : Option (cr_S) :=
  cr_let (sF σ 74 4 1000000) (fun s5 => f_X5_findSoonest_74_1_L130 cr_fuel s5 x2 x3 0)
set_option maxRecDepth 100000 in
set_option maxHeartbeats 4000000 in
theorem w_X5_findSoonest_74_1_B121 (C : cr_C p l e R s m args below meth c sfC 97 base D cA cX5_findSoonest 8 RX5) (hr : meth.sig.returnType = none) (hR : 5 ≤ R.frames ∧ 114 ≤ R.locals) {res : cr_S}  (σ : cr_S) (x2 : Nat) (x3 : Int32) (h : f_X5_findSoonest_74_1_B121 σ x2 x3 = some res) : cr_W p l e R s m args below meth c sfC 97 base D cA 8 (MQ below (cr_Qv sfC 97 base D cA res) args s 0 0 (cr_A 97 base)) σ 121 [(0, .ref (base + 74)), (1, .ref (base + 1)), (2, .ref (base + x2)), (3, .int x3)] [] := by
  unfold f_X5_findSoonest_74_1_B121 at h
  refine g_aload_n (pc' := 122) C dX5_findSoonest_121 0 rfl rfl ?_
  refine g_ldc (pc' := 124) (v := 1000000) C dX5_findSoonest_122 mk_X5_41 rfl ?_
  obtain ⟨s5, e6, h⟩ := let_some h
  refine gp_X5_42 (pc' := 127) (o := 74) C rfl dX5_findSoonest_124 rfl e6 ?_
  refine g_iconst (pc' := 128) (v := 0) C dX5_findSoonest_127 (by decide) rfl ?_
  refine g_istore (pc' := 130) (lv' := [(5, .int 0), (0, .ref (base + 74)), (1, .ref (base + 1)), (2, .ref (base + x2)), (3, .int x3)]) C dX5_findSoonest_128 (by decide) rfl rfl ?_
  exact g_sub C [1, 2, 3, 4, 0] rfl (w_X5_findSoonest_74_1_L130 C hr hR _ _ _ _ _ h)
def f_X5_findSoonest_74_1_B115 (r41 : cr_S → Nat → Int32 → Int32 → Option (cr_S)) (σ : cr_S) (x2 : Nat) (x3 : Int32) (x5 : Int32) : Option (cr_S) :=
  cr_let (x5 + (-1)) (fun v23 => r41 σ x2 x3 v23)
set_option maxRecDepth 100000 in
set_option maxHeartbeats 4000000 in
theorem w_X5_findSoonest_74_1_B115 (C : cr_C p l e R s m args below meth c sfC 97 base D cA cX5_findSoonest 8 RX5) (hr : meth.sig.returnType = none) (hR : 5 ≤ R.frames ∧ 114 ≤ R.locals) {res : cr_S} (r41 : cr_S → Nat → Int32 → Int32 → Option (cr_S)) (hr41 : ∀ (σ : cr_S) (x2 : Nat) (x3 : Int32) (x5 : Int32), r41 σ x2 x3 x5 = some res → cr_W p l e R s m args below meth c sfC 97 base D cA 8 (MQ below (cr_Qv sfC 97 base D cA res) args s 0 0 (cr_A 97 base)) σ 41 [(0, .ref (base + 74)), (1, .ref (base + 1)), (2, .ref (base + x2)), (3, .int x3), (5, .int x5)] []) (σ : cr_S) (x2 : Nat) (x3 : Int32) (x5 : Int32) (h : f_X5_findSoonest_74_1_B115 r41 σ x2 x3 x5 = some res) : cr_W p l e R s m args below meth c sfC 97 base D cA 8 (MQ below (cr_Qv sfC 97 base D cA res) args s 0 0 (cr_A 97 base)) σ 115 [(0, .ref (base + 74)), (1, .ref (base + 1)), (2, .ref (base + x2)), (3, .int x3), (5, .int x5)] [] := by
  unfold f_X5_findSoonest_74_1_B115 at h
  obtain ⟨v23, e24, h⟩ := let_some h
  refine g_iinc (pc' := 118) (v := v23) (lv' := [(5, .int v23), (0, .ref (base + 74)), (1, .ref (base + 1)), (2, .ref (base + x2)), (3, .int x3)]) C dX5_findSoonest_115 4 rfl (by rw [e24]; rfl) (by decide) rfl rfl ?_
  refine g_goto (tgt := 41) C dX5_findSoonest_118 (by decide) ?_
  exact g_sub C [1, 2, 3, 4, 0] rfl (hr41 _ _ _ _ h)
def f_X5_findSoonest_74_1_L76 (r41 : cr_S → Nat → Int32 → Int32 → Option (cr_S)) : Nat → cr_S → Nat → Int32 → Int32 → Int32 → Int32 → Option (cr_S)
  | 0, _, _, _, _, _, _ => none
  | n + 1, σ, x2, x3, x5, x6, x7 =>
    (if x6 ≤ x7 then f_X5_findSoonest_74_1_B115 r41 σ x2 x3 x5 else chk (inb x5 7) (chk (inb x5 6) (Option.bind (f_X5_soonestEnd_74 σ (9 + x5.toNatClampNeg) x2 x5 x7) (fun q27 => chk (kC (76 + x5.toNatClampNeg) = 1346) (chk (inb x7 346) (cr_let (sA q27.1 (76 + x5.toNatClampNeg) x7 q27.2) (fun s31 => cr_let (x7 + 1) (fun v33 => f_X5_findSoonest_74_1_L76 r41 n s31 x2 x3 x5 x6 v33))))))))
set_option maxRecDepth 100000 in
set_option maxHeartbeats 4000000 in
theorem w_X5_findSoonest_74_1_L76 (C : cr_C p l e R s m args below meth c sfC 97 base D cA cX5_findSoonest 8 RX5) (hr : meth.sig.returnType = none) (hR : 5 ≤ R.frames ∧ 114 ≤ R.locals) {res : cr_S} (r41 : cr_S → Nat → Int32 → Int32 → Option (cr_S)) (hr41 : ∀ (σ : cr_S) (x2 : Nat) (x3 : Int32) (x5 : Int32), r41 σ x2 x3 x5 = some res → cr_W p l e R s m args below meth c sfC 97 base D cA 8 (MQ below (cr_Qv sfC 97 base D cA res) args s 0 0 (cr_A 97 base)) σ 41 [(0, .ref (base + 74)), (1, .ref (base + 1)), (2, .ref (base + x2)), (3, .int x3), (5, .int x5)] []) : ∀ (n : Nat) (σ : cr_S) (x2 : Nat) (x3 : Int32) (x5 : Int32) (x6 : Int32) (x7 : Int32), f_X5_findSoonest_74_1_L76 r41 n σ x2 x3 x5 x6 x7 = some res → cr_W p l e R s m args below meth c sfC 97 base D cA 8 (MQ below (cr_Qv sfC 97 base D cA res) args s 0 0 (cr_A 97 base)) σ 76 [(0, .ref (base + 74)), (1, .ref (base + 1)), (2, .ref (base + x2)), (3, .int x3), (5, .int x5), (6, .int x6), (7, .int x7)] [] := by
  intro n
  induction n with
  | zero =>
    intro σ x2 x3 x5 x6 x7 h
    cases h
  | succ n ih =>
    intro σ x2 x3 x5 x6 x7 h
    rw [f_X5_findSoonest_74_1_L76] at h
    refine g_iload (pc' := 78) C dX5_findSoonest_76 6 rfl rfl ?_
    refine g_iload (pc' := 80) C dX5_findSoonest_78 5 rfl rfl ?_
    refine g_icmp_ge (pc' := 83) (tgt := 115) C dX5_findSoonest_80 (by decide) rfl (fun hc => ?_) (fun hc => ?_)
    · rw [if_pos hc] at h
      exact g_sub C [0, 1, 2, 3, 4] rfl (w_X5_findSoonest_74_1_B115 C hr hR r41 hr41 _ _ _ _ h)
    · rw [if_neg hc] at h
      refine g_aload_n (pc' := 84) C dX5_findSoonest_83 0 rfl rfl ?_
      refine gg_X5_11 (pc' := 87) (o := 74) (r := 75) C rfl rfl dX5_findSoonest_84 rfl ?_
      refine g_iload (pc' := 89) C dX5_findSoonest_87 4 rfl rfl ?_
      obtain ⟨h25, h⟩ := chk_some h
      refine g_aaldA (pc' := 90) C (o := 75) (by decide) rfl h25 dX5_findSoonest_89 rfl ?_
      refine g_iload (pc' := 92) C dX5_findSoonest_90 6 rfl rfl ?_
      refine g_aload_n (pc' := 93) C dX5_findSoonest_92 0 rfl rfl ?_
      refine g_aload_n (pc' := 94) C dX5_findSoonest_93 1 rfl rfl ?_
      refine gg_X5_29 (pc' := 97) (o := 1) (r := 2) C rfl rfl dX5_findSoonest_94 rfl ?_
      refine g_iload (pc' := 99) C dX5_findSoonest_97 4 rfl rfl ?_
      obtain ⟨h26, h⟩ := chk_some h
      refine g_aald (pc' := 100) C (o := 2) (by decide) rfl (cn := "ClashRocks$Pair") rfl h26 dX5_findSoonest_99 rfl ?_
      refine g_aload_n (pc' := 101) C dX5_findSoonest_100 2 rfl rfl ?_
      refine g_iload (pc' := 103) C dX5_findSoonest_101 4 rfl rfl ?_
      refine g_iload (pc' := 105) C dX5_findSoonest_103 6 rfl rfl ?_
      obtain ⟨q27, h28, h⟩ := bind_some h
      refine g_callVi (pc' := 108) (res := q27) C [.ref (base + (9 + x5.toNatClampNeg)), .ref (base + x2), .int x5, .int x7] cY_X5_soonestEnd rfl (o := 74) (by decide) rfl mv_X5_soonestEnd mm_X5_37 ⟨Nat.le_trans (by decide) hR.1, Nat.le_trans (by decide) hR.2⟩ rfl (Nat.le_of_ble_eq_true rfl) rfl dX5_findSoonest_105 (c_X5_soonestEnd_74 l base D cA σ (9 + x5.toNatClampNeg) x2 x5 x7 q27 h28) rfl ?_
      obtain ⟨h29, h⟩ := chk_some h
      obtain ⟨h30, h⟩ := chk_some h
      obtain ⟨s31, e32, h⟩ := let_some h
      refine g_iast (pc' := 109) C (o := 76 + x5.toNatClampNeg) (kC_lt h29 (by decide)) (sfC_1346 h29) h30 dX5_findSoonest_108 rfl e32 ?_
      obtain ⟨v33, e34, h⟩ := let_some h
      refine g_iinc (pc' := 112) (v := v33) (lv' := [(7, .int v33), (0, .ref (base + 74)), (1, .ref (base + 1)), (2, .ref (base + x2)), (3, .int x3), (5, .int x5), (6, .int x6)]) C dX5_findSoonest_109 6 rfl (by rw [e34]; rfl) (by decide) rfl rfl ?_
      refine g_goto (tgt := 76) C dX5_findSoonest_112 (by decide) ?_
      exact g_sub C [1, 2, 3, 4, 5, 6, 0] rfl (ih _ _ _ _ _ _ h)
def f_X5_findSoonest_74_1_L41  : Nat → cr_S → Nat → Int32 → Int32 → Option (cr_S)
  | 0, _, _, _, _ => none
  | n + 1, σ, x2, x3, x5 =>
    (if x5 < 0 then f_X5_findSoonest_74_1_B121 σ x2 x3 else cr_let (100 + (x5 * 41)) (fun v18 => chk (inb x5 6) (Option.bind (f_X5_measure_74 σ (9 + x5.toNatClampNeg) x3 (v18 + 41)) (fun q21 => f_X5_findSoonest_74_1_L76 (f_X5_findSoonest_74_1_L41 n) cr_fuel q21 x2 x3 x5 v18 0))))
set_option maxRecDepth 100000 in
set_option maxHeartbeats 4000000 in
theorem w_X5_findSoonest_74_1_L41 (C : cr_C p l e R s m args below meth c sfC 97 base D cA cX5_findSoonest 8 RX5) (hr : meth.sig.returnType = none) (hR : 5 ≤ R.frames ∧ 114 ≤ R.locals) {res : cr_S}  : ∀ (n : Nat) (σ : cr_S) (x2 : Nat) (x3 : Int32) (x5 : Int32), f_X5_findSoonest_74_1_L41 n σ x2 x3 x5 = some res → cr_W p l e R s m args below meth c sfC 97 base D cA 8 (MQ below (cr_Qv sfC 97 base D cA res) args s 0 0 (cr_A 97 base)) σ 41 [(0, .ref (base + 74)), (1, .ref (base + 1)), (2, .ref (base + x2)), (3, .int x3), (5, .int x5)] [] := by
  intro n
  induction n with
  | zero =>
    intro σ x2 x3 x5 h
    cases h
  | succ n ih =>
    intro σ x2 x3 x5 h
    rw [f_X5_findSoonest_74_1_L41] at h
    refine g_iload (pc' := 43) C dX5_findSoonest_41 4 rfl rfl ?_
    refine g_if_lt (pc' := 46) (tgt := 121) C dX5_findSoonest_43 (by decide) rfl (fun hc => ?_) (fun hc => ?_)
    · rw [if_pos hc] at h
      exact g_sub C [0, 1, 2, 3] rfl (w_X5_findSoonest_74_1_B121 C hr hR _ _ _ h)
    · rw [if_neg hc] at h
      refine g_bipush (pc' := 48) (v := 100) C dX5_findSoonest_46 (by decide) rfl ?_
      refine g_iload (pc' := 50) C dX5_findSoonest_48 4 rfl rfl ?_
      refine g_bipush (pc' := 52) (v := 41) C dX5_findSoonest_50 (by decide) rfl ?_
      refine g_imul (pc' := 53) C dX5_findSoonest_52 rfl ?_
      refine g_iadd (pc' := 54) C dX5_findSoonest_53 rfl ?_
      obtain ⟨v18, e19, h⟩ := let_some h
      refine g_nameI e19 ?_
      refine g_istore (pc' := 56) (lv' := [(6, .int v18), (0, .ref (base + 74)), (1, .ref (base + 1)), (2, .ref (base + x2)), (3, .int x3), (5, .int x5)]) C dX5_findSoonest_54 (by decide) rfl rfl ?_
      refine g_aload_n (pc' := 57) C dX5_findSoonest_56 1 rfl rfl ?_
      refine g_aload_n (pc' := 58) C dX5_findSoonest_57 2 rfl rfl ?_
      refine gg_X5_29 (pc' := 61) (o := 1) (r := 2) C rfl rfl dX5_findSoonest_58 rfl ?_
      refine g_iload (pc' := 63) C dX5_findSoonest_61 5 rfl rfl ?_
      obtain ⟨h20, h⟩ := chk_some h
      refine g_aald (pc' := 64) C (o := 2) (by decide) rfl (cn := "ClashRocks$Pair") rfl h20 dX5_findSoonest_63 rfl ?_
      refine g_iload_n (pc' := 65) C dX5_findSoonest_64 4 rfl rfl ?_
      refine g_iload (pc' := 67) C dX5_findSoonest_65 0 rfl rfl ?_
      refine g_bipush (pc' := 69) (v := 41) C dX5_findSoonest_67 (by decide) rfl ?_
      refine g_iadd (pc' := 70) C dX5_findSoonest_69 rfl ?_
      obtain ⟨q21, h22, h⟩ := bind_some h
      refine g_callVv (pc' := 73) (res := q21) C [.ref (base + (9 + x5.toNatClampNeg)), .int x3, .int (v18 + 41)] cY_X5_measure rfl (o := 74) (by decide) rfl mv_X5_measure mm_X5_33 ⟨Nat.le_trans (by decide) hR.1, Nat.le_trans (by decide) hR.2⟩ rfl (Nat.le_of_ble_eq_true rfl) rfl dX5_findSoonest_70 (c_X5_measure_74 l base D cA σ (9 + x5.toNatClampNeg) x3 (v18 + 41) q21 h22) rfl ?_
      refine g_iconst (pc' := 74) (v := 0) C dX5_findSoonest_73 (by decide) rfl ?_
      refine g_istore (pc' := 76) (lv' := [(7, .int 0), (6, .int v18), (0, .ref (base + 74)), (1, .ref (base + 1)), (2, .ref (base + x2)), (3, .int x3), (5, .int x5)]) C dX5_findSoonest_74 (by decide) rfl rfl ?_
      exact g_sub C [2, 3, 4, 5, 6, 1, 0] rfl (w_X5_findSoonest_74_1_L76 C hr hR (f_X5_findSoonest_74_1_L41 n) ih _ _ _ _ _ _ _ h)
def f_X5_findSoonest_74_1_B35  (σ : cr_S) (x2 : Nat) (x3 : Int32) (x4 : Int32) : Option (cr_S) :=
  cr_let (x4 - 1) (fun v3 => f_X5_findSoonest_74_1_L41 cr_fuel σ x2 x3 v3)
set_option maxRecDepth 100000 in
set_option maxHeartbeats 4000000 in
theorem w_X5_findSoonest_74_1_B35 (C : cr_C p l e R s m args below meth c sfC 97 base D cA cX5_findSoonest 8 RX5) (hr : meth.sig.returnType = none) (hR : 5 ≤ R.frames ∧ 114 ≤ R.locals) {res : cr_S}  (σ : cr_S) (x2 : Nat) (x3 : Int32) (x4 : Int32) (h : f_X5_findSoonest_74_1_B35 σ x2 x3 x4 = some res) : cr_W p l e R s m args below meth c sfC 97 base D cA 8 (MQ below (cr_Qv sfC 97 base D cA res) args s 0 0 (cr_A 97 base)) σ 35 [(0, .ref (base + 74)), (1, .ref (base + 1)), (2, .ref (base + x2)), (3, .int x3), (4, .int x4)] [] := by
  unfold f_X5_findSoonest_74_1_B35 at h
  refine g_iload (pc' := 37) C dX5_findSoonest_35 4 rfl rfl ?_
  refine g_iconst (pc' := 38) (v := 1) C dX5_findSoonest_37 (by decide) rfl ?_
  refine g_isub (pc' := 39) C dX5_findSoonest_38 rfl ?_
  obtain ⟨v3, e4, h⟩ := let_some h
  refine g_nameI e4 ?_
  refine g_istore (pc' := 41) (lv' := [(5, .int v3), (0, .ref (base + 74)), (1, .ref (base + 1)), (2, .ref (base + x2)), (3, .int x3), (4, .int x4)]) C dX5_findSoonest_39 (by decide) rfl rfl ?_
  exact g_sub C [1, 2, 3, 4, 0] rfl (w_X5_findSoonest_74_1_L41 C hr hR _ _ _ _ _ h)
def f_X5_findSoonest_74_1_L9  : Nat → cr_S → Nat → Int32 → Int32 → Int32 → Option (cr_S)
  | 0, _, _, _, _, _ => none
  | n + 1, σ, x2, x3, x4, x5 =>
    (if 346 ≤ x5 then f_X5_findSoonest_74_1_B35 σ x2 x3 x4 else chk (inb x4 7) (chk (kC (76 + x4.toNatClampNeg) = 1346) (chk (inb x5 346) (cr_let (sA σ (76 + x4.toNatClampNeg) x5 x5) (fun s38 => cr_let (x5 + 1) (fun v40 => f_X5_findSoonest_74_1_L9 n s38 x2 x3 x4 v40))))))
set_option maxRecDepth 100000 in
set_option maxHeartbeats 4000000 in
theorem w_X5_findSoonest_74_1_L9 (C : cr_C p l e R s m args below meth c sfC 97 base D cA cX5_findSoonest 8 RX5) (hr : meth.sig.returnType = none) (hR : 5 ≤ R.frames ∧ 114 ≤ R.locals) {res : cr_S}  : ∀ (n : Nat) (σ : cr_S) (x2 : Nat) (x3 : Int32) (x4 : Int32) (x5 : Int32), f_X5_findSoonest_74_1_L9 n σ x2 x3 x4 x5 = some res → cr_W p l e R s m args below meth c sfC 97 base D cA 8 (MQ below (cr_Qv sfC 97 base D cA res) args s 0 0 (cr_A 97 base)) σ 9 [(0, .ref (base + 74)), (1, .ref (base + 1)), (2, .ref (base + x2)), (3, .int x3), (4, .int x4), (5, .int x5)] [] := by
  intro n
  induction n with
  | zero =>
    intro σ x2 x3 x4 x5 h
    cases h
  | succ n ih =>
    intro σ x2 x3 x4 x5 h
    rw [f_X5_findSoonest_74_1_L9] at h
    refine g_iload (pc' := 11) C dX5_findSoonest_9 5 rfl rfl ?_
    refine g_sipush (pc' := 14) (v := 346) C dX5_findSoonest_11 (by decide) rfl ?_
    refine g_icmp_ge (pc' := 17) (tgt := 35) C dX5_findSoonest_14 (by decide) rfl (fun hc => ?_) (fun hc => ?_)
    · rw [if_pos hc] at h
      exact g_sub C [0, 1, 2, 3, 4] rfl (w_X5_findSoonest_74_1_B35 C hr hR _ _ _ _ h)
    · rw [if_neg hc] at h
      refine g_aload_n (pc' := 18) C dX5_findSoonest_17 0 rfl rfl ?_
      refine gg_X5_11 (pc' := 21) (o := 74) (r := 75) C rfl rfl dX5_findSoonest_18 rfl ?_
      refine g_iload (pc' := 23) C dX5_findSoonest_21 4 rfl rfl ?_
      obtain ⟨h35, h⟩ := chk_some h
      refine g_aaldA (pc' := 24) C (o := 75) (by decide) rfl h35 dX5_findSoonest_23 rfl ?_
      refine g_iload (pc' := 26) C dX5_findSoonest_24 5 rfl rfl ?_
      refine g_iload (pc' := 28) C dX5_findSoonest_26 5 rfl rfl ?_
      obtain ⟨h36, h⟩ := chk_some h
      obtain ⟨h37, h⟩ := chk_some h
      obtain ⟨s38, e39, h⟩ := let_some h
      refine g_iast (pc' := 29) C (o := 76 + x4.toNatClampNeg) (kC_lt h36 (by decide)) (sfC_1346 h36) h37 dX5_findSoonest_28 rfl e39 ?_
      obtain ⟨v40, e41, h⟩ := let_some h
      refine g_iinc (pc' := 32) (v := v40) (lv' := [(5, .int v40), (0, .ref (base + 74)), (1, .ref (base + 1)), (2, .ref (base + x2)), (3, .int x3), (4, .int x4)]) C dX5_findSoonest_29 5 rfl (by rw [e41]; rfl) (by decide) rfl rfl ?_
      refine g_goto (tgt := 9) C dX5_findSoonest_32 (by decide) ?_
      exact g_sub C [1, 2, 3, 4, 5, 0] rfl (ih _ _ _ _ _ h)
def f_X5_findSoonest_74_1 (σ : cr_S) (o2 : Nat) (a3 : Int32) : Option (cr_S) :=
  cr_let (rF σ 1 5) (fun v1 => f_X5_findSoonest_74_1_L9 cr_fuel σ o2 a3 v1 0)
set_option maxRecDepth 100000 in
set_option maxHeartbeats 4000000 in
theorem w_X5_findSoonest_74_1 (C : cr_C p l e R s m args below meth c sfC 97 base D cA cX5_findSoonest 8 RX5) (hr : meth.sig.returnType = none) (hR : 5 ≤ R.frames ∧ 114 ≤ R.locals) {res : cr_S} (σ : cr_S) (o2 : Nat) (a3 : Int32) (h : f_X5_findSoonest_74_1 σ o2 a3 = some res) : cr_W p l e R s m args below meth c sfC 97 base D cA 8 (MQ below (cr_Qv sfC 97 base D cA res) args s 0 0 (cr_A 97 base)) σ 0 [(0, .ref (base + 74)), (1, .ref (base + 1)), (2, .ref (base + o2)), (3, .int a3)] [] := by
  unfold f_X5_findSoonest_74_1 at h
  refine g_aload_n (pc' := 1) C dX5_findSoonest_0 1 rfl rfl ?_
  refine gg_X5_23 (pc' := 4) (o := 1) C rfl dX5_findSoonest_1 rfl ?_
  obtain ⟨v1, e2, h⟩ := let_some h
  refine g_nameI e2 ?_
  refine g_istore (pc' := 6) (lv' := [(4, .int v1), (0, .ref (base + 74)), (1, .ref (base + 1)), (2, .ref (base + o2)), (3, .int a3)]) C dX5_findSoonest_4 (by decide) rfl rfl ?_
  refine g_iconst (pc' := 7) (v := 0) C dX5_findSoonest_6 (by decide) rfl ?_
  refine g_istore (pc' := 9) (lv' := [(5, .int 0), (4, .int v1), (0, .ref (base + 74)), (1, .ref (base + 1)), (2, .ref (base + o2)), (3, .int a3)]) C dX5_findSoonest_7 (by decide) rfl rfl ?_
  exact g_sub C [2, 3, 4, 5, 1, 0] rfl (w_X5_findSoonest_74_1_L9 C hr hR _ _ _ _ _ _ h)
theorem c_X5_findSoonest_74_1 (l : Launch) (base : Nat) (D : va_G) (cA : Nat → ClassId) (σ : cr_S) (o2 : Nat) (a3 : Int32) (res : cr_S) (h : f_X5_findSoonest_74_1 σ o2 a3 = some res) : cr_M l yX5_findSoonest cX5_findSoonest 8 none 5 114 sfC 97 base D cA [.ref (base + 74), .ref (base + 1), .ref (base + o2), .int a3] σ (cr_Qv sfC 97 base D cA res) := by
  refine cr_enter [.ref (base + 74), .ref (base + 1), .ref (base + o2), .int a3] [(0, .ref (base + 74)), (1, .ref (base + 1)), (2, .ref (base + o2)), (3, .int a3)] (by decide) (Nat.le_of_ble_eq_true rfl) rfl ?_
  intro p e R s m below meth c C hr hR
  exact w_X5_findSoonest_74_1 C hr hR σ o2 a3 h
end

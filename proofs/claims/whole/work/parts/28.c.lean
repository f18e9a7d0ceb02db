section
variable {p : Program} {l : Launch} {e : Env} {R : Room} {s : State} {m : MethodId} {args : Array Value} {below : List Frame} {meth : Method} {c : Code} {base : Nat} {D : va_G} {cA : Nat → ClassId}
noncomputable def f_X2_take_33_6_B38  (σ : cr_S) : Option (cr_S) :=
  cr_let (sF σ 33 2 (rF σ 6 2)) (fun s1 => some s1)
set_option maxRecDepth 100000 in
set_option maxHeartbeats 4000000 in
theorem w_X2_take_33_6_B38 (C : cr_C p l e R s m args below meth c sfC 97 base D cA cX2_take 3 RX2) (hr : meth.sig.returnType = none) (hR : 0 ≤ R.frames ∧ 0 ≤ R.locals) {res : cr_S}  (σ : cr_S) (h : f_X2_take_33_6_B38 σ = some res) : cr_W p l e R s m args below meth c sfC 97 base D cA 3 (MQ below (cr_Qv sfC 97 base D cA res) args s 0 0 (cr_A 97 base)) σ 38 [(0, .ref (base + 33)), (1, .ref (base + 6))] [] := by
  unfold f_X2_take_33_6_B38 at h
  refine g_aload_n (pc' := 39) C dX2_take_38 0 rfl rfl ?_
  refine g_aload_n (pc' := 40) C dX2_take_39 1 rfl rfl ?_
  refine gg_X2_18 (pc' := 43) (o := 6) C rfl dX2_take_40 rfl ?_
  obtain ⟨s1, e2, h⟩ := let_some h
  refine gp_X2_18 (pc' := 46) (o := 33) C rfl dX2_take_43 rfl e2 ?_
  exact g_vret C hr dX2_take_46 h
noncomputable def f_X2_take_33_6_L2  : Nat → cr_S → Int32 → Option (cr_S)
  | 0, _, _ => none
  | n + 1, σ, x2 =>
    (if 12 ≤ x2 then f_X2_take_33_6_B38 σ else chk (inb x2 12) (chk (inb x2 12) (cr_let (sA σ 34 x2 (rA σ 7 x2)) (fun s5 => chk (inb x2 12) (chk (inb x2 12) (cr_let (sA s5 35 x2 (rA s5 8 x2)) (fun s9 => cr_let (x2 + 1) (fun v11 => f_X2_take_33_6_L2 n s9 v11))))))))
set_option maxRecDepth 100000 in
set_option maxHeartbeats 4000000 in
theorem w_X2_take_33_6_L2 (C : cr_C p l e R s m args below meth c sfC 97 base D cA cX2_take 3 RX2) (hr : meth.sig.returnType = none) (hR : 0 ≤ R.frames ∧ 0 ≤ R.locals) {res : cr_S}  : ∀ (n : Nat) (σ : cr_S) (x2 : Int32), f_X2_take_33_6_L2 n σ x2 = some res → cr_W p l e R s m args below meth c sfC 97 base D cA 3 (MQ below (cr_Qv sfC 97 base D cA res) args s 0 0 (cr_A 97 base)) σ 2 [(0, .ref (base + 33)), (1, .ref (base + 6)), (2, .int x2)] [] := by
  intro n
  induction n with
  | zero =>
    intro σ x2 h
    cases h
  | succ n ih =>
    intro σ x2 h
    rw [f_X2_take_33_6_L2] at h
    refine g_iload_n (pc' := 3) C dX2_take_2 2 rfl rfl ?_
    refine g_bipush (pc' := 5) (v := 12) C dX2_take_3 (by decide) rfl ?_
    refine g_icmp_ge (pc' := 8) (tgt := 38) C dX2_take_5 (by decide) rfl (fun hc => ?_) (fun hc => ?_)
    · rw [if_pos hc] at h
      exact g_sub C [0, 1] rfl (w_X2_take_33_6_B38 C hr hR _ h)
    · rw [if_neg hc] at h
      refine g_aload_n (pc' := 9) C dX2_take_8 0 rfl rfl ?_
      refine gg_X2_9 (pc' := 12) (o := 33) (r := 34) C rfl rfl dX2_take_9 rfl ?_
      refine g_iload_n (pc' := 13) C dX2_take_12 2 rfl rfl ?_
      refine g_aload_n (pc' := 14) C dX2_take_13 1 rfl rfl ?_
      refine gg_X2_9 (pc' := 17) (o := 6) (r := 7) C rfl rfl dX2_take_14 rfl ?_
      refine g_iload_n (pc' := 18) C dX2_take_17 2 rfl rfl ?_
      obtain ⟨h3, h⟩ := chk_some h
      refine g_iald (pc' := 19) C (o := 7) (by decide) rfl (inb_d h3) dX2_take_18 rfl ?_
      obtain ⟨h4, h⟩ := chk_some h
      obtain ⟨s5, e6, h⟩ := let_some h
      refine g_iast (pc' := 20) C (o := 34) (by decide) rfl (inb_d h4) dX2_take_19 rfl e6 ?_
      refine g_aload_n (pc' := 21) C dX2_take_20 0 rfl rfl ?_
      refine gg_X2_15 (pc' := 24) (o := 33) (r := 35) C rfl rfl dX2_take_21 rfl ?_
      refine g_iload_n (pc' := 25) C dX2_take_24 2 rfl rfl ?_
      refine g_aload_n (pc' := 26) C dX2_take_25 1 rfl rfl ?_
      refine gg_X2_15 (pc' := 29) (o := 6) (r := 8) C rfl rfl dX2_take_26 rfl ?_
      refine g_iload_n (pc' := 30) C dX2_take_29 2 rfl rfl ?_
      obtain ⟨h7, h⟩ := chk_some h
      refine g_iald (pc' := 31) C (o := 8) (by decide) rfl (inb_d h7) dX2_take_30 rfl ?_
      obtain ⟨h8, h⟩ := chk_some h
      obtain ⟨s9, e10, h⟩ := let_some h
      refine g_iast (pc' := 32) C (o := 35) (by decide) rfl (inb_d h8) dX2_take_31 rfl e10 ?_
      obtain ⟨v11, e12, h⟩ := let_some h
      refine g_iinc (pc' := 35) (v := v11) (lv' := [(2, .int v11), (0, .ref (base + 33)), (1, .ref (base + 6))]) C dX2_take_32 2 rfl (by rw [e12]; rfl) (by decide) rfl rfl ?_
      refine g_goto (tgt := 2) C dX2_take_35 (by decide) ?_
      exact g_sub C [1, 2, 0] rfl (ih _ _ h)
noncomputable def f_X2_take_33_6 (σ : cr_S) : Option (cr_S) :=
  f_X2_take_33_6_L2 cr_fuel σ 0
set_option maxRecDepth 100000 in
set_option maxHeartbeats 4000000 in
theorem w_X2_take_33_6 (C : cr_C p l e R s m args below meth c sfC 97 base D cA cX2_take 3 RX2) (hr : meth.sig.returnType = none) (hR : 0 ≤ R.frames ∧ 0 ≤ R.locals) {res : cr_S} (σ : cr_S) (h : f_X2_take_33_6 σ = some res) : cr_W p l e R s m args below meth c sfC 97 base D cA 3 (MQ below (cr_Qv sfC 97 base D cA res) args s 0 0 (cr_A 97 base)) σ 0 [(0, .ref (base + 33)), (1, .ref (base + 6))] [] := by
  unfold f_X2_take_33_6 at h
  refine g_iconst (pc' := 1) (v := 0) C dX2_take_0 (by decide) rfl ?_
  refine g_istore_n (pc' := 2) (lv' := [(2, .int 0), (0, .ref (base + 33)), (1, .ref (base + 6))]) C dX2_take_1 rfl (by decide) rfl rfl ?_
  exact g_sub C [1, 2, 0] rfl (w_X2_take_33_6_L2 C hr hR _ _ _ h)
theorem c_X2_take_33_6 (l : Launch) (base : Nat) (D : va_G) (cA : Nat → ClassId) (σ : cr_S) (res : cr_S) (h : f_X2_take_33_6 σ = some res) : cr_M l yX2_take cX2_take 3 none 0 0 sfC 97 base D cA [.ref (base + 33), .ref (base + 6)] σ (cr_Qv sfC 97 base D cA res) := by
  refine cr_enter [.ref (base + 33), .ref (base + 6)] [(0, .ref (base + 33)), (1, .ref (base + 6))] (by decide) (Nat.le_of_ble_eq_true rfl) rfl ?_
  intro p e R s m below meth c C hr hR
  exact w_X2_take_33_6 C hr hR σ h
noncomputable def f_X9_take_28_1_B60  (σ : cr_S) : Option (cr_S) :=
  cr_let (sF σ 28 7 (rF σ 1 7)) (fun s5 => cr_let (sF s5 28 8 (rF s5 1 8)) (fun s7 => Option.bind (f_X2_take_33_6 s7) (fun q9 => some q9)))
set_option maxRecDepth 100000 in
set_option maxHeartbeats 4000000 in
theorem w_X9_take_28_1_B60 (C : cr_C p l e R s m args below meth c sfC 97 base D cA cX9_take 3 RX9) (hr : meth.sig.returnType = none) (hR : 3 ≤ R.frames ∧ 70 ≤ R.locals) {res : cr_S}  (σ : cr_S) (h : f_X9_take_28_1_B60 σ = some res) : cr_W p l e R s m args below meth c sfC 97 base D cA 3 (MQ below (cr_Qv sfC 97 base D cA res) args s 0 0 (cr_A 97 base)) σ 60 [(0, .ref (base + 28)), (1, .ref (base + 1))] [] := by
  unfold f_X9_take_28_1_B60 at h
  refine g_aload_n (pc' := 61) C dX9_take_60 0 rfl rfl ?_
  refine g_aload_n (pc' := 62) C dX9_take_61 1 rfl rfl ?_
  refine gg_X9_61 (pc' := 65) (o := 1) C rfl dX9_take_62 rfl ?_
  obtain ⟨s5, e6, h⟩ := let_some h
  refine gp_X9_61 (pc' := 68) (o := 28) C rfl dX9_take_65 rfl e6 ?_
  refine g_aload_n (pc' := 69) C dX9_take_68 0 rfl rfl ?_
  refine g_aload_n (pc' := 70) C dX9_take_69 1 rfl rfl ?_
  refine gg_X9_41 (pc' := 73) (o := 1) C rfl dX9_take_70 rfl ?_
  obtain ⟨s7, e8, h⟩ := let_some h
  refine gp_X9_41 (pc' := 76) (o := 28) C rfl dX9_take_73 rfl e8 ?_
  refine g_aload_n (pc' := 77) C dX9_take_76 0 rfl rfl ?_
  refine gg_X9_37 (pc' := 80) (o := 28) (r := 33) C rfl rfl dX9_take_77 rfl ?_
  refine g_aload_n (pc' := 81) C dX9_take_80 1 rfl rfl ?_
  refine gg_X9_37 (pc' := 84) (o := 1) (r := 6) C rfl rfl dX9_take_81 rfl ?_
  obtain ⟨q9, h10, h⟩ := bind_some h
  refine g_callVv (pc' := 87) (res := q9) C [.ref (base + 6)] cY_X2_take rfl (o := 33) (by decide) rfl mv_X2_take mm_X9_64 ⟨Nat.le_trans (by decide) hR.1, Nat.le_trans (by decide) hR.2⟩ rfl (Nat.le_of_ble_eq_true rfl) rfl dX9_take_84 (c_X2_take_33_6 l base D cA s7 q9 h10) rfl ?_
  exact g_vret C hr dX9_take_87 h
noncomputable def f_X9_take_28_1_L33  : Nat → cr_S → Int32 → Option (cr_S)
  | 0, _, _ => none
  | n + 1, σ, x2 =>
    (if 8 ≤ x2 then f_X9_take_28_1_B60 σ else chk (inb x2 8) (chk (inb x2 8) (Option.bind (f_X8_take σ (47 + x2.toNatClampNeg) (20 + x2.toNatClampNeg)) (fun q13 => chk (kC (47 + x2.toNatClampNeg) = 8) (cr_let (x2 + 1) (fun v16 => f_X9_take_28_1_L33 n q13 v16))))))
set_option maxRecDepth 100000 in
set_option maxHeartbeats 4000000 in
theorem w_X9_take_28_1_L33 (C : cr_C p l e R s m args below meth c sfC 97 base D cA cX9_take 3 RX9) (hr : meth.sig.returnType = none) (hR : 3 ≤ R.frames ∧ 70 ≤ R.locals) {res : cr_S}  : ∀ (n : Nat) (σ : cr_S) (x2 : Int32), f_X9_take_28_1_L33 n σ x2 = some res → cr_W p l e R s m args below meth c sfC 97 base D cA 3 (MQ below (cr_Qv sfC 97 base D cA res) args s 0 0 (cr_A 97 base)) σ 33 [(0, .ref (base + 28)), (1, .ref (base + 1)), (2, .int x2)] [] := by
  intro n
  induction n with
  | zero =>
    intro σ x2 h
    cases h
  | succ n ih =>
    intro σ x2 h
    rw [f_X9_take_28_1_L33] at h
    refine g_iload_n (pc' := 34) C dX9_take_33 2 rfl rfl ?_
    refine g_bipush (pc' := 36) (v := 8) C dX9_take_34 (by decide) rfl ?_
    refine g_icmp_ge (pc' := 39) (tgt := 60) C dX9_take_36 (by decide) rfl (fun hc => ?_) (fun hc => ?_)
    · rw [if_pos hc] at h
      exact g_sub C [0, 1] rfl (w_X9_take_28_1_B60 C hr hR _ h)
    · rw [if_neg hc] at h
      refine g_aload_n (pc' := 40) C dX9_take_39 0 rfl rfl ?_
      refine gg_X9_30 (pc' := 43) (o := 28) (r := 32) C rfl rfl dX9_take_40 rfl ?_
      refine g_iload_n (pc' := 44) C dX9_take_43 2 rfl rfl ?_
      obtain ⟨h11, h⟩ := chk_some h
      refine g_aald (pc' := 45) C (o := 32) (by decide) rfl (cn := "ClashRocks$Voyage") rfl (inb_d h11) dX9_take_44 rfl ?_
      refine g_aload_n (pc' := 46) C dX9_take_45 1 rfl rfl ?_
      refine gg_X9_30 (pc' := 49) (o := 1) (r := 5) C rfl rfl dX9_take_46 rfl ?_
      refine g_iload_n (pc' := 50) C dX9_take_49 2 rfl rfl ?_
      obtain ⟨h12, h⟩ := chk_some h
      refine g_aald (pc' := 51) C (o := 5) (by decide) rfl (cn := "ClashRocks$Voyage") rfl (inb_d h12) dX9_take_50 rfl ?_
      obtain ⟨q13, h14, h⟩ := bind_some h
      obtain ⟨h15, h⟩ := chk_some h
      refine g_callVv (pc' := 54) (res := q13) C [.ref (base + (20 + x2.toNatClampNeg))] cY_X8_take rfl (o := 47 + x2.toNatClampNeg) (kC_lt h15 (by decide)) (sfC_8 h15) mv_X8_take mm_X9_57 ⟨Nat.le_trans (by decide) hR.1, Nat.le_trans (by decide) hR.2⟩ rfl (Nat.le_of_ble_eq_true rfl) rfl dX9_take_51 (c_X8_take l base D cA σ (47 + x2.toNatClampNeg) (20 + x2.toNatClampNeg) q13 h14) rfl ?_
      obtain ⟨v16, e17, h⟩ := let_some h
      refine g_iinc (pc' := 57) (v := v16) (lv' := [(2, .int v16), (0, .ref (base + 28)), (1, .ref (base + 1))]) C dX9_take_54 2 rfl (by rw [e17]; rfl) (by decide) rfl rfl ?_
      refine g_goto (tgt := 33) C dX9_take_57 (by decide) ?_
      exact g_sub C [1, 2, 0] rfl (ih _ _ h)
noncomputable def f_X9_take_28_1 (σ : cr_S) : Option (cr_S) :=
  Option.bind (f_X9_takePairsAndShips_28_2_3 σ (rF σ 1 5) (rF σ 1 6)) (fun q1 => Option.bind (f_X8_take q1 31 4) (fun q3 => f_X9_take_28_1_L33 cr_fuel q3 0))
set_option maxRecDepth 100000 in
set_option maxHeartbeats 4000000 in
theorem w_X9_take_28_1 (C : cr_C p l e R s m args below meth c sfC 97 base D cA cX9_take 3 RX9) (hr : meth.sig.returnType = none) (hR : 3 ≤ R.frames ∧ 70 ≤ R.locals) {res : cr_S} (σ : cr_S) (h : f_X9_take_28_1 σ = some res) : cr_W p l e R s m args below meth c sfC 97 base D cA 3 (MQ below (cr_Qv sfC 97 base D cA res) args s 0 0 (cr_A 97 base)) σ 0 [(0, .ref (base + 28)), (1, .ref (base + 1))] [] := by
  unfold f_X9_take_28_1 at h
  refine g_aload_n (pc' := 1) C dX9_take_0 0 rfl rfl ?_
  refine g_aload_n (pc' := 2) C dX9_take_1 1 rfl rfl ?_
  refine gg_X9_11 (pc' := 5) (o := 1) (r := 2) C rfl rfl dX9_take_2 rfl ?_
  refine g_aload_n (pc' := 6) C dX9_take_5 1 rfl rfl ?_
  refine gg_X9_47 (pc' := 9) (o := 1) C rfl dX9_take_6 rfl ?_
  refine g_aload_n (pc' := 10) C dX9_take_9 1 rfl rfl ?_
  refine gg_X9_19 (pc' := 13) (o := 1) (r := 3) C rfl rfl dX9_take_10 rfl ?_
  refine g_aload_n (pc' := 14) C dX9_take_13 1 rfl rfl ?_
  refine gg_X9_50 (pc' := 17) (o := 1) C rfl dX9_take_14 rfl ?_
  obtain ⟨q1, h2, h⟩ := bind_some h
  refine g_callVv (pc' := 20) (res := q1) C [.ref (base + 2), .int (rF σ 1 5), .ref (base + 3), .int (rF σ 1 6)] cY_X9_takePairsAndShips rfl (o := 28) (by decide) rfl mv_X9_takePairsAndShips mm_X9_53 ⟨Nat.le_trans (by decide) hR.1, Nat.le_trans (by decide) hR.2⟩ rfl (Nat.le_of_ble_eq_true rfl) rfl dX9_take_17 (c_X9_takePairsAndShips_28_2_3 l base D cA σ (rF σ 1 5) (rF σ 1 6) q1 h2) rfl ?_
  refine g_aload_n (pc' := 21) C dX9_take_20 0 rfl rfl ?_
  refine gg_X9_26 (pc' := 24) (o := 28) (r := 31) C rfl rfl dX9_take_21 rfl ?_
  refine g_aload_n (pc' := 25) C dX9_take_24 1 rfl rfl ?_
  refine gg_X9_26 (pc' := 28) (o := 1) (r := 4) C rfl rfl dX9_take_25 rfl ?_
  obtain ⟨q3, h4, h⟩ := bind_some h
  refine g_callVv (pc' := 31) (res := q3) C [.ref (base + 4)] cY_X8_take rfl (o := 31) (by decide) rfl mv_X8_take mm_X9_57 ⟨Nat.le_trans (by decide) hR.1, Nat.le_trans (by decide) hR.2⟩ rfl (Nat.le_of_ble_eq_true rfl) rfl dX9_take_28 (c_X8_take l base D cA q1 31 4 q3 h4) rfl ?_
  refine g_iconst (pc' := 32) (v := 0) C dX9_take_31 (by decide) rfl ?_
  refine g_istore_n (pc' := 33) (lv' := [(2, .int 0), (0, .ref (base + 28)), (1, .ref (base + 1))]) C dX9_take_32 rfl (by decide) rfl rfl ?_
  exact g_sub C [1, 2, 0] rfl (w_X9_take_28_1_L33 C hr hR _ _ _ h)
theorem c_X9_take_28_1 (l : Launch) (base : Nat) (D : va_G) (cA : Nat → ClassId) (σ : cr_S) (res : cr_S) (h : f_X9_take_28_1 σ = some res) : cr_M l yX9_take cX9_take 3 none 3 70 sfC 97 base D cA [.ref (base + 28), .ref (base + 1)] σ (cr_Qv sfC 97 base D cA res) := by
  refine cr_enter [.ref (base + 28), .ref (base + 1)] [(0, .ref (base + 28)), (1, .ref (base + 1))] (by decide) (Nat.le_of_ble_eq_true rfl) rfl ?_
  intro p e R s m below meth c C hr hR
  exact w_X9_take_28_1 C hr hR σ h
noncomputable def f_X10_image (σ : cr_S) : Option (cr_S × Int32) :=
  Option.bind (f_X9_take_28_1 σ) (fun q1 => cr_let (sF q1 0 2 1) (fun s3 => some (s3, 1)))
set_option maxRecDepth 100000 in
set_option maxHeartbeats 4000000 in
theorem w_X10_image (C : cr_C p l e R s m args below meth c sfC 97 base D cA cX10_image 1 RX10) (hr : meth.sig.returnType = some .int) (hR : 4 ≤ R.frames ∧ 92 ≤ R.locals) {res : cr_S × Int32} (σ : cr_S) (h : f_X10_image σ = some res) : cr_W p l e R s m args below meth c sfC 97 base D cA 1 (MQ below (cr_Qi sfC 97 base D cA res) args s 0 0 (cr_A 97 base)) σ 0 [(0, .ref (base + 0))] [] := by
  unfold f_X10_image at h
  refine g_aload_n (pc' := 1) C dX10_image_0 0 rfl rfl ?_
  refine gg_X10_16 (pc' := 4) (o := 0) (r := 28) C rfl rfl dX10_image_1 rfl ?_
  refine g_aload_n (pc' := 5) C dX10_image_4 0 rfl rfl ?_
  refine gg_X10_12 (pc' := 8) (o := 0) (r := 1) C rfl rfl dX10_image_5 rfl ?_
  obtain ⟨q1, h2, h⟩ := bind_some h
  refine g_callVv (pc' := 11) (res := q1) C [.ref (base + 1)] cY_X9_take rfl (o := 28) (by decide) rfl mv_X9_take mm_X10_281 ⟨Nat.le_trans (by decide) hR.1, Nat.le_trans (by decide) hR.2⟩ rfl (Nat.le_of_ble_eq_true rfl) rfl dX10_image_8 (c_X9_take_28_1 l base D cA σ q1 h2) rfl ?_
  refine g_aload_n (pc' := 12) C dX10_image_11 0 rfl rfl ?_
  refine g_iconst (pc' := 13) (v := 1) C dX10_image_12 (by decide) rfl ?_
  obtain ⟨s3, e4, h⟩ := let_some h
  refine gp_X10_285 (pc' := 16) (o := 0) C rfl rfl rfl dX10_image_13 rfl e4 ?_
  refine g_iconst (pc' := 17) (v := 1) C dX10_image_16 (by decide) rfl ?_
  exact g_iret C hr dX10_image_17 h
theorem c_X10_image (l : Launch) (base : Nat) (D : va_G) (cA : Nat → ClassId) (σ : cr_S) (res : cr_S × Int32) (h : f_X10_image σ = some res) : cr_M l yX10_image cX10_image 1 (some .int) 4 92 sfC 97 base D cA [.ref (base + 0)] σ (cr_Qi sfC 97 base D cA res) := by
  refine cr_enter [.ref (base + 0)] [(0, .ref (base + 0))] (by decide) (Nat.le_of_ble_eq_true rfl) rfl ?_
  intro p e R s m below meth c C hr hR
  exact w_X10_image C hr hR σ h
noncomputable def f_X9_takePairsAndShips_1_29_30_B72  (σ : cr_S) (x2 : Int32) (x4 : Int32) : Option (cr_S) :=
  cr_let (sF σ 1 5 x2) (fun s1 => cr_let (sF s1 1 6 x4) (fun s3 => some s3))
set_option maxRecDepth 100000 in
set_option maxHeartbeats 4000000 in
theorem w_X9_takePairsAndShips_1_29_30_B72 (C : cr_C p l e R s m args below meth c sfC 97 base D cA cX9_takePairsAndShips 6 RX9) (hr : meth.sig.returnType = none) (hR : 2 ≤ R.frames ∧ 45 ≤ R.locals) {res : cr_S}  (σ : cr_S) (x2 : Int32) (x4 : Int32) (h : f_X9_takePairsAndShips_1_29_30_B72 σ x2 x4 = some res) : cr_W p l e R s m args below meth c sfC 97 base D cA 6 (MQ below (cr_Qv sfC 97 base D cA res) args s 0 0 (cr_A 97 base)) σ 72 [(0, .ref (base + 1)), (2, .int x2), (4, .int x4)] [] := by
  unfold f_X9_takePairsAndShips_1_29_30_B72 at h
  refine g_aload_n (pc' := 73) C dX9_takePairsAndShips_72 0 rfl rfl ?_
  refine g_iload_n (pc' := 74) C dX9_takePairsAndShips_73 1 rfl rfl ?_
  obtain ⟨s1, e2, h⟩ := let_some h
  refine gp_X9_47 (pc' := 77) (o := 1) C rfl dX9_takePairsAndShips_74 rfl e2 ?_
  refine g_aload_n (pc' := 78) C dX9_takePairsAndShips_77 0 rfl rfl ?_
  refine g_iload (pc' := 80) C dX9_takePairsAndShips_78 2 rfl rfl ?_
  obtain ⟨s3, e4, h⟩ := let_some h
  refine gp_X9_50 (pc' := 83) (o := 1) C rfl dX9_takePairsAndShips_80 rfl e4 ?_
  exact g_vret C hr dX9_takePairsAndShips_83 h
noncomputable def f_X9_takePairsAndShips_1_29_30_L39  : Nat → cr_S → Int32 → Int32 → Int32 → Option (cr_S)
  | 0, _, _, _, _ => none
  | n + 1, σ, x2, x4, x5 =>
    (if x4 ≤ x5 then f_X9_takePairsAndShips_1_29_30_B72 σ x2 x4 else (if 5 ≤ x5 then f_X9_takePairsAndShips_1_29_30_B72 σ x2 x4 else chk (inb x5 5) (chk (inb x5 5) (Option.bind (f_X6_take σ (15 + x5.toNatClampNeg) (42 + x5.toNatClampNeg)) (fun q7 => chk (kC (15 + x5.toNatClampNeg) = 6) (cr_let (x5 + 1) (fun v10 => f_X9_takePairsAndShips_1_29_30_L39 n q7 x2 x4 v10)))))))
set_option maxRecDepth 100000 in
set_option maxHeartbeats 4000000 in
theorem w_X9_takePairsAndShips_1_29_30_L39 (C : cr_C p l e R s m args below meth c sfC 97 base D cA cX9_takePairsAndShips 6 RX9) (hr : meth.sig.returnType = none) (hR : 2 ≤ R.frames ∧ 45 ≤ R.locals) {res : cr_S}  : ∀ (n : Nat) (σ : cr_S) (x2 : Int32) (x4 : Int32) (x5 : Int32), f_X9_takePairsAndShips_1_29_30_L39 n σ x2 x4 x5 = some res → cr_W p l e R s m args below meth c sfC 97 base D cA 6 (MQ below (cr_Qv sfC 97 base D cA res) args s 0 0 (cr_A 97 base)) σ 39 [(0, .ref (base + 1)), (2, .int x2), (3, .ref (base + 30)), (4, .int x4), (5, .int x5)] [] := by
  intro n
  induction n with
  | zero =>
    intro σ x2 x4 x5 h
    cases h
  | succ n ih =>
    intro σ x2 x4 x5 h
    rw [f_X9_takePairsAndShips_1_29_30_L39] at h
    refine g_iload (pc' := 41) C dX9_takePairsAndShips_39 4 rfl rfl ?_
    refine g_iload (pc' := 43) C dX9_takePairsAndShips_41 3 rfl rfl ?_
    refine g_icmp_ge (pc' := 46) (tgt := 72) C dX9_takePairsAndShips_43 (by decide) rfl (fun hc => ?_) (fun hc => ?_)
    · rw [if_pos hc] at h
      exact g_sub C [0, 1, 3] rfl (w_X9_takePairsAndShips_1_29_30_B72 C hr hR _ _ _ h)
    · rw [if_neg hc] at h
      refine g_iload (pc' := 48) C dX9_takePairsAndShips_46 4 rfl rfl ?_
      refine g_iconst (pc' := 49) (v := 5) C dX9_takePairsAndShips_48 (by decide) rfl ?_
      refine g_icmp_ge (pc' := 52) (tgt := 72) C dX9_takePairsAndShips_49 (by decide) rfl (fun hc => ?_) (fun hc => ?_)
      · rw [if_pos hc] at h
        exact g_sub C [0, 1, 3] rfl (w_X9_takePairsAndShips_1_29_30_B72 C hr hR _ _ _ h)
      · rw [if_neg hc] at h
        refine g_aload_n (pc' := 53) C dX9_takePairsAndShips_52 0 rfl rfl ?_
        refine gg_X9_19 (pc' := 56) (o := 1) (r := 3) C rfl rfl dX9_takePairsAndShips_53 rfl ?_
        refine g_iload (pc' := 58) C dX9_takePairsAndShips_56 4 rfl rfl ?_
        obtain ⟨h5, h⟩ := chk_some h
        refine g_aald (pc' := 59) C (o := 3) (by decide) rfl (cn := "ClashRocks$Ship") rfl (inb_d h5) dX9_takePairsAndShips_58 rfl ?_
        refine g_aload_n (pc' := 60) C dX9_takePairsAndShips_59 2 rfl rfl ?_
        refine g_iload (pc' := 62) C dX9_takePairsAndShips_60 4 rfl rfl ?_
        obtain ⟨h6, h⟩ := chk_some h
        refine g_aald (pc' := 63) C (o := 30) (by decide) rfl (cn := "ClashRocks$Ship") rfl (inb_d h6) dX9_takePairsAndShips_62 rfl ?_
        obtain ⟨q7, h8, h⟩ := bind_some h
        obtain ⟨h9, h⟩ := chk_some h
        refine g_callVv (pc' := 66) (res := q7) C [.ref (base + (42 + x5.toNatClampNeg))] cY_X6_take rfl (o := 15 + x5.toNatClampNeg) (kC_lt h9 (by decide)) (sfC_6 h9) mv_X6_take mm_X9_80 ⟨Nat.le_trans (by decide) hR.1, Nat.le_trans (by decide) hR.2⟩ rfl (Nat.le_of_ble_eq_true rfl) rfl dX9_takePairsAndShips_63 (c_X6_take l base D cA σ (15 + x5.toNatClampNeg) (42 + x5.toNatClampNeg) q7 h8) rfl ?_
        obtain ⟨v10, e11, h⟩ := let_some h
        refine g_iinc (pc' := 69) (v := v10) (lv' := [(5, .int v10), (0, .ref (base + 1)), (2, .int x2), (3, .ref (base + 30)), (4, .int x4)]) C dX9_takePairsAndShips_66 4 rfl (by rw [e11]; rfl) (by decide) rfl rfl ?_
        refine g_goto (tgt := 39) C dX9_takePairsAndShips_69 (by decide) ?_
        exact g_sub C [1, 2, 3, 4, 0] rfl (ih _ _ _ _ h)
noncomputable def f_X9_takePairsAndShips_1_29_30_B36  (σ : cr_S) (x2 : Int32) (x4 : Int32) : Option (cr_S) :=
  f_X9_takePairsAndShips_1_29_30_L39 cr_fuel σ x2 x4 0
set_option maxRecDepth 100000 in
set_option maxHeartbeats 4000000 in
theorem w_X9_takePairsAndShips_1_29_30_B36 (C : cr_C p l e R s m args below meth c sfC 97 base D cA cX9_takePairsAndShips 6 RX9) (hr : meth.sig.returnType = none) (hR : 2 ≤ R.frames ∧ 45 ≤ R.locals) {res : cr_S}  (σ : cr_S) (x2 : Int32) (x4 : Int32) (h : f_X9_takePairsAndShips_1_29_30_B36 σ x2 x4 = some res) : cr_W p l e R s m args below meth c sfC 97 base D cA 6 (MQ below (cr_Qv sfC 97 base D cA res) args s 0 0 (cr_A 97 base)) σ 36 [(0, .ref (base + 1)), (2, .int x2), (3, .ref (base + 30)), (4, .int x4)] [] := by
  unfold f_X9_takePairsAndShips_1_29_30_B36 at h
  refine g_iconst (pc' := 37) (v := 0) C dX9_takePairsAndShips_36 (by decide) rfl ?_
  refine g_istore (pc' := 39) (lv' := [(5, .int 0), (0, .ref (base + 1)), (2, .int x2), (3, .ref (base + 30)), (4, .int x4)]) C dX9_takePairsAndShips_37 (by decide) rfl rfl ?_
  exact g_sub C [1, 2, 3, 4, 0] rfl (w_X9_takePairsAndShips_1_29_30_L39 C hr hR _ _ _ _ _ h)
noncomputable def f_X9_takePairsAndShips_1_29_30_L3  : Nat → cr_S → Int32 → Int32 → Int32 → Option (cr_S)
  | 0, _, _, _, _ => none
  | n + 1, σ, x2, x4, x5 =>
    (if x2 ≤ x5 then f_X9_takePairsAndShips_1_29_30_B36 σ x2 x4 else (if 6 ≤ x5 then f_X9_takePairsAndShips_1_29_30_B36 σ x2 x4 else chk (inb x5 6) (chk (inb x5 6) (Option.bind (f_X3_take σ (9 + x5.toNatClampNeg) (36 + x5.toNatClampNeg)) (fun q14 => chk (kC (9 + x5.toNatClampNeg) = 3) (cr_let (x5 + 1) (fun v17 => f_X9_takePairsAndShips_1_29_30_L3 n q14 x2 x4 v17)))))))
set_option maxRecDepth 100000 in
set_option maxHeartbeats 4000000 in
theorem w_X9_takePairsAndShips_1_29_30_L3 (C : cr_C p l e R s m args below meth c sfC 97 base D cA cX9_takePairsAndShips 6 RX9) (hr : meth.sig.returnType = none) (hR : 2 ≤ R.frames ∧ 45 ≤ R.locals) {res : cr_S}  : ∀ (n : Nat) (σ : cr_S) (x2 : Int32) (x4 : Int32) (x5 : Int32), f_X9_takePairsAndShips_1_29_30_L3 n σ x2 x4 x5 = some res → cr_W p l e R s m args below meth c sfC 97 base D cA 6 (MQ below (cr_Qv sfC 97 base D cA res) args s 0 0 (cr_A 97 base)) σ 3 [(0, .ref (base + 1)), (1, .ref (base + 29)), (2, .int x2), (3, .ref (base + 30)), (4, .int x4), (5, .int x5)] [] := by
  intro n
  induction n with
  | zero =>
    intro σ x2 x4 x5 h
    cases h
  | succ n ih =>
    intro σ x2 x4 x5 h
    rw [f_X9_takePairsAndShips_1_29_30_L3] at h
    refine g_iload (pc' := 5) C dX9_takePairsAndShips_3 5 rfl rfl ?_
    refine g_iload_n (pc' := 6) C dX9_takePairsAndShips_5 2 rfl rfl ?_
    refine g_icmp_ge (pc' := 9) (tgt := 36) C dX9_takePairsAndShips_6 (by decide) rfl (fun hc => ?_) (fun hc => ?_)
    · rw [if_pos hc] at h
      exact g_sub C [0, 2, 3, 4] rfl (w_X9_takePairsAndShips_1_29_30_B36 C hr hR _ _ _ h)
    · rw [if_neg hc] at h
      refine g_iload (pc' := 11) C dX9_takePairsAndShips_9 5 rfl rfl ?_
      refine g_bipush (pc' := 13) (v := 6) C dX9_takePairsAndShips_11 (by decide) rfl ?_
      refine g_icmp_ge (pc' := 16) (tgt := 36) C dX9_takePairsAndShips_13 (by decide) rfl (fun hc => ?_) (fun hc => ?_)
      · rw [if_pos hc] at h
        exact g_sub C [0, 2, 3, 4] rfl (w_X9_takePairsAndShips_1_29_30_B36 C hr hR _ _ _ h)
      · rw [if_neg hc] at h
        refine g_aload_n (pc' := 17) C dX9_takePairsAndShips_16 0 rfl rfl ?_
        refine gg_X9_11 (pc' := 20) (o := 1) (r := 2) C rfl rfl dX9_takePairsAndShips_17 rfl ?_
        refine g_iload (pc' := 22) C dX9_takePairsAndShips_20 5 rfl rfl ?_
        obtain ⟨h12, h⟩ := chk_some h
        refine g_aald (pc' := 23) C (o := 2) (by decide) rfl (cn := "ClashRocks$Pair") rfl (inb_d h12) dX9_takePairsAndShips_22 rfl ?_
        refine g_aload_n (pc' := 24) C dX9_takePairsAndShips_23 1 rfl rfl ?_
        refine g_iload (pc' := 26) C dX9_takePairsAndShips_24 5 rfl rfl ?_
        obtain ⟨h13, h⟩ := chk_some h
        refine g_aald (pc' := 27) C (o := 29) (by decide) rfl (cn := "ClashRocks$Pair") rfl (inb_d h13) dX9_takePairsAndShips_26 rfl ?_
        obtain ⟨q14, h15, h⟩ := bind_some h
        obtain ⟨h16, h⟩ := chk_some h
        refine g_callVv (pc' := 30) (res := q14) C [.ref (base + (36 + x5.toNatClampNeg))] cY_X3_take rfl (o := 9 + x5.toNatClampNeg) (kC_lt h16 (by decide)) (sfC_3 h16) mv_X3_take mm_X9_77 ⟨Nat.le_trans (by decide) hR.1, Nat.le_trans (by decide) hR.2⟩ rfl (Nat.le_of_ble_eq_true rfl) rfl dX9_takePairsAndShips_27 (c_X3_take l base D cA σ (9 + x5.toNatClampNeg) (36 + x5.toNatClampNeg) q14 h15) rfl ?_
        obtain ⟨v17, e18, h⟩ := let_some h
        refine g_iinc (pc' := 33) (v := v17) (lv' := [(5, .int v17), (0, .ref (base + 1)), (1, .ref (base + 29)), (2, .int x2), (3, .ref (base + 30)), (4, .int x4)]) C dX9_takePairsAndShips_30 5 rfl (by rw [e18]; rfl) (by decide) rfl rfl ?_
        refine g_goto (tgt := 3) C dX9_takePairsAndShips_33 (by decide) ?_
        exact g_sub C [1, 2, 3, 4, 5, 0] rfl (ih _ _ _ _ h)
noncomputable def f_X9_takePairsAndShips_1_29_30 (σ : cr_S) (a2 : Int32) (a4 : Int32) : Option (cr_S) :=
  f_X9_takePairsAndShips_1_29_30_L3 cr_fuel σ a2 a4 0
set_option maxRecDepth 100000 in
set_option maxHeartbeats 4000000 in
theorem w_X9_takePairsAndShips_1_29_30 (C : cr_C p l e R s m args below meth c sfC 97 base D cA cX9_takePairsAndShips 6 RX9) (hr : meth.sig.returnType = none) (hR : 2 ≤ R.frames ∧ 45 ≤ R.locals) {res : cr_S} (σ : cr_S) (a2 : Int32) (a4 : Int32) (h : f_X9_takePairsAndShips_1_29_30 σ a2 a4 = some res) : cr_W p l e R s m args below meth c sfC 97 base D cA 6 (MQ below (cr_Qv sfC 97 base D cA res) args s 0 0 (cr_A 97 base)) σ 0 [(0, .ref (base + 1)), (1, .ref (base + 29)), (2, .int a2), (3, .ref (base + 30)), (4, .int a4)] [] := by
  unfold f_X9_takePairsAndShips_1_29_30 at h
  refine g_iconst (pc' := 1) (v := 0) C dX9_takePairsAndShips_0 (by decide) rfl ?_
  refine g_istore (pc' := 3) (lv' := [(5, .int 0), (0, .ref (base + 1)), (1, .ref (base + 29)), (2, .int a2), (3, .ref (base + 30)), (4, .int a4)]) C dX9_takePairsAndShips_1 (by decide) rfl rfl ?_
  exact g_sub C [1, 2, 3, 4, 5, 0] rfl (w_X9_takePairsAndShips_1_29_30_L3 C hr hR _ _ _ _ _ h)
theorem c_X9_takePairsAndShips_1_29_30 (l : Launch) (base : Nat) (D : va_G) (cA : Nat → ClassId) (σ : cr_S) (a2 : Int32) (a4 : Int32) (res : cr_S) (h : f_X9_takePairsAndShips_1_29_30 σ a2 a4 = some res) : cr_M l yX9_takePairsAndShips cX9_takePairsAndShips 6 none 2 45 sfC 97 base D cA [.ref (base + 1), .ref (base + 29), .int a2, .ref (base + 30), .int a4] σ (cr_Qv sfC 97 base D cA res) := by
  refine cr_enter [.ref (base + 1), .ref (base + 29), .int a2, .ref (base + 30), .int a4] [(0, .ref (base + 1)), (1, .ref (base + 29)), (2, .int a2), (3, .ref (base + 30)), (4, .int a4)] (by decide) (Nat.le_of_ble_eq_true rfl) rfl ?_
  intro p e R s m below meth c C hr hR
  exact w_X9_takePairsAndShips_1_29_30 C hr hR σ a2 a4 h
noncomputable def f_X2_take_6_33_B38  (σ : cr_S) : Option (cr_S) :=
  cr_let (sF σ 6 2 (rF σ 33 2)) (fun s1 => some s1)
set_option maxRecDepth 100000 in
set_option maxHeartbeats 4000000 in
theorem w_X2_take_6_33_B38 (C : cr_C p l e R s m args below meth c sfC 97 base D cA cX2_take 3 RX2) (hr : meth.sig.returnType = none) (hR : 0 ≤ R.frames ∧ 0 ≤ R.locals) {res : cr_S}  (σ : cr_S) (h : f_X2_take_6_33_B38 σ = some res) : cr_W p l e R s m args below meth c sfC 97 base D cA 3 (MQ below (cr_Qv sfC 97 base D cA res) args s 0 0 (cr_A 97 base)) σ 38 [(0, .ref (base + 6)), (1, .ref (base + 33))] [] := by
  unfold f_X2_take_6_33_B38 at h
  refine g_aload_n (pc' := 39) C dX2_take_38 0 rfl rfl ?_
  refine g_aload_n (pc' := 40) C dX2_take_39 1 rfl rfl ?_
  refine gg_X2_18 (pc' := 43) (o := 33) C rfl dX2_take_40 rfl ?_
  obtain ⟨s1, e2, h⟩ := let_some h
  refine gp_X2_18 (pc' := 46) (o := 6) C rfl dX2_take_43 rfl e2 ?_
  exact g_vret C hr dX2_take_46 h
noncomputable def f_X2_take_6_33_L2  : Nat → cr_S → Int32 → Option (cr_S)
  | 0, _, _ => none
  | n + 1, σ, x2 =>
    (if 12 ≤ x2 then f_X2_take_6_33_B38 σ else chk (inb x2 12) (chk (inb x2 12) (cr_let (sA σ 7 x2 (rA σ 34 x2)) (fun s5 => chk (inb x2 12) (chk (inb x2 12) (cr_let (sA s5 8 x2 (rA s5 35 x2)) (fun s9 => cr_let (x2 + 1) (fun v11 => f_X2_take_6_33_L2 n s9 v11))))))))
set_option maxRecDepth 100000 in
set_option maxHeartbeats 4000000 in
theorem w_X2_take_6_33_L2 (C : cr_C p l e R s m args below meth c sfC 97 base D cA cX2_take 3 RX2) (hr : meth.sig.returnType = none) (hR : 0 ≤ R.frames ∧ 0 ≤ R.locals) {res : cr_S}  : ∀ (n : Nat) (σ : cr_S) (x2 : Int32), f_X2_take_6_33_L2 n σ x2 = some res → cr_W p l e R s m args below meth c sfC 97 base D cA 3 (MQ below (cr_Qv sfC 97 base D cA res) args s 0 0 (cr_A 97 base)) σ 2 [(0, .ref (base + 6)), (1, .ref (base + 33)), (2, .int x2)] [] := by
  intro n
  induction n with
  | zero =>
    intro σ x2 h
    cases h
  | succ n ih =>
    intro σ x2 h
    rw [f_X2_take_6_33_L2] at h
    refine g_iload_n (pc' := 3) C dX2_take_2 2 rfl rfl ?_
    refine g_bipush (pc' := 5) (v := 12) C dX2_take_3 (by decide) rfl ?_
    refine g_icmp_ge (pc' := 8) (tgt := 38) C dX2_take_5 (by decide) rfl (fun hc => ?_) (fun hc => ?_)
    · rw [if_pos hc] at h
      exact g_sub C [0, 1] rfl (w_X2_take_6_33_B38 C hr hR _ h)
    · rw [if_neg hc] at h
      refine g_aload_n (pc' := 9) C dX2_take_8 0 rfl rfl ?_
      refine gg_X2_9 (pc' := 12) (o := 6) (r := 7) C rfl rfl dX2_take_9 rfl ?_
      refine g_iload_n (pc' := 13) C dX2_take_12 2 rfl rfl ?_
      refine g_aload_n (pc' := 14) C dX2_take_13 1 rfl rfl ?_
      refine gg_X2_9 (pc' := 17) (o := 33) (r := 34) C rfl rfl dX2_take_14 rfl ?_
      refine g_iload_n (pc' := 18) C dX2_take_17 2 rfl rfl ?_
      obtain ⟨h3, h⟩ := chk_some h
      refine g_iald (pc' := 19) C (o := 34) (by decide) rfl (inb_d h3) dX2_take_18 rfl ?_
      obtain ⟨h4, h⟩ := chk_some h
      obtain ⟨s5, e6, h⟩ := let_some h
      refine g_iast (pc' := 20) C (o := 7) (by decide) rfl (inb_d h4) dX2_take_19 rfl e6 ?_
      refine g_aload_n (pc' := 21) C dX2_take_20 0 rfl rfl ?_
      refine gg_X2_15 (pc' := 24) (o := 6) (r := 8) C rfl rfl dX2_take_21 rfl ?_
      refine g_iload_n (pc' := 25) C dX2_take_24 2 rfl rfl ?_
      refine g_aload_n (pc' := 26) C dX2_take_25 1 rfl rfl ?_
      refine gg_X2_15 (pc' := 29) (o := 33) (r := 35) C rfl rfl dX2_take_26 rfl ?_
      refine g_iload_n (pc' := 30) C dX2_take_29 2 rfl rfl ?_
      obtain ⟨h7, h⟩ := chk_some h
      refine g_iald (pc' := 31) C (o := 35) (by decide) rfl (inb_d h7) dX2_take_30 rfl ?_
      obtain ⟨h8, h⟩ := chk_some h
      obtain ⟨s9, e10, h⟩ := let_some h
      refine g_iast (pc' := 32) C (o := 8) (by decide) rfl (inb_d h8) dX2_take_31 rfl e10 ?_
      obtain ⟨v11, e12, h⟩ := let_some h
      refine g_iinc (pc' := 35) (v := v11) (lv' := [(2, .int v11), (0, .ref (base + 6)), (1, .ref (base + 33))]) C dX2_take_32 2 rfl (by rw [e12]; rfl) (by decide) rfl rfl ?_
      refine g_goto (tgt := 2) C dX2_take_35 (by decide) ?_
      exact g_sub C [1, 2, 0] rfl (ih _ _ h)
noncomputable def f_X2_take_6_33 (σ : cr_S) : Option (cr_S) :=
  f_X2_take_6_33_L2 cr_fuel σ 0
set_option maxRecDepth 100000 in
set_option maxHeartbeats 4000000 in
theorem w_X2_take_6_33 (C : cr_C p l e R s m args below meth c sfC 97 base D cA cX2_take 3 RX2) (hr : meth.sig.returnType = none) (hR : 0 ≤ R.frames ∧ 0 ≤ R.locals) {res : cr_S} (σ : cr_S) (h : f_X2_take_6_33 σ = some res) : cr_W p l e R s m args below meth c sfC 97 base D cA 3 (MQ below (cr_Qv sfC 97 base D cA res) args s 0 0 (cr_A 97 base)) σ 0 [(0, .ref (base + 6)), (1, .ref (base + 33))] [] := by
  unfold f_X2_take_6_33 at h
  refine g_iconst (pc' := 1) (v := 0) C dX2_take_0 (by decide) rfl ?_
  refine g_istore_n (pc' := 2) (lv' := [(2, .int 0), (0, .ref (base + 6)), (1, .ref (base + 33))]) C dX2_take_1 rfl (by decide) rfl rfl ?_
  exact g_sub C [1, 2, 0] rfl (w_X2_take_6_33_L2 C hr hR _ _ _ h)
theorem c_X2_take_6_33 (l : Launch) (base : Nat) (D : va_G) (cA : Nat → ClassId) (σ : cr_S) (res : cr_S) (h : f_X2_take_6_33 σ = some res) : cr_M l yX2_take cX2_take 3 none 0 0 sfC 97 base D cA [.ref (base + 6), .ref (base + 33)] σ (cr_Qv sfC 97 base D cA res) := by
  refine cr_enter [.ref (base + 6), .ref (base + 33)] [(0, .ref (base + 6)), (1, .ref (base + 33))] (by decide) (Nat.le_of_ble_eq_true rfl) rfl ?_
  intro p e R s m below meth c C hr hR
  exact w_X2_take_6_33 C hr hR σ h
noncomputable def f_X9_take_1_28_B60  (σ : cr_S) : Option (cr_S) :=
  cr_let (sF σ 1 7 (rF σ 28 7)) (fun s5 => cr_let (sF s5 1 8 (rF s5 28 8)) (fun s7 => Option.bind (f_X2_take_6_33 s7) (fun q9 => some q9)))
set_option maxRecDepth 100000 in
set_option maxHeartbeats 4000000 in
theorem w_X9_take_1_28_B60 (C : cr_C p l e R s m args below meth c sfC 97 base D cA cX9_take 3 RX9) (hr : meth.sig.returnType = none) (hR : 3 ≤ R.frames ∧ 70 ≤ R.locals) {res : cr_S}  (σ : cr_S) (h : f_X9_take_1_28_B60 σ = some res) : cr_W p l e R s m args below meth c sfC 97 base D cA 3 (MQ below (cr_Qv sfC 97 base D cA res) args s 0 0 (cr_A 97 base)) σ 60 [(0, .ref (base + 1)), (1, .ref (base + 28))] [] := by
  unfold f_X9_take_1_28_B60 at h
  refine g_aload_n (pc' := 61) C dX9_take_60 0 rfl rfl ?_
  refine g_aload_n (pc' := 62) C dX9_take_61 1 rfl rfl ?_
  refine gg_X9_61 (pc' := 65) (o := 28) C rfl dX9_take_62 rfl ?_
  obtain ⟨s5, e6, h⟩ := let_some h
  refine gp_X9_61 (pc' := 68) (o := 1) C rfl dX9_take_65 rfl e6 ?_
  refine g_aload_n (pc' := 69) C dX9_take_68 0 rfl rfl ?_
  refine g_aload_n (pc' := 70) C dX9_take_69 1 rfl rfl ?_
  refine gg_X9_41 (pc' := 73) (o := 28) C rfl dX9_take_70 rfl ?_
  obtain ⟨s7, e8, h⟩ := let_some h
  refine gp_X9_41 (pc' := 76) (o := 1) C rfl dX9_take_73 rfl e8 ?_
  refine g_aload_n (pc' := 77) C dX9_take_76 0 rfl rfl ?_
  refine gg_X9_37 (pc' := 80) (o := 1) (r := 6) C rfl rfl dX9_take_77 rfl ?_
  refine g_aload_n (pc' := 81) C dX9_take_80 1 rfl rfl ?_
  refine gg_X9_37 (pc' := 84) (o := 28) (r := 33) C rfl rfl dX9_take_81 rfl ?_
  obtain ⟨q9, h10, h⟩ := bind_some h
  refine g_callVv (pc' := 87) (res := q9) C [.ref (base + 33)] cY_X2_take rfl (o := 6) (by decide) rfl mv_X2_take mm_X9_64 ⟨Nat.le_trans (by decide) hR.1, Nat.le_trans (by decide) hR.2⟩ rfl (Nat.le_of_ble_eq_true rfl) rfl dX9_take_84 (c_X2_take_6_33 l base D cA s7 q9 h10) rfl ?_
  exact g_vret C hr dX9_take_87 h
noncomputable def f_X9_take_1_28_L33  : Nat → cr_S → Int32 → Option (cr_S)
  | 0, _, _ => none
  | n + 1, σ, x2 =>
    (if 8 ≤ x2 then f_X9_take_1_28_B60 σ else chk (inb x2 8) (chk (inb x2 8) (Option.bind (f_X8_take σ (20 + x2.toNatClampNeg) (47 + x2.toNatClampNeg)) (fun q13 => chk (kC (20 + x2.toNatClampNeg) = 8) (cr_let (x2 + 1) (fun v16 => f_X9_take_1_28_L33 n q13 v16))))))
set_option maxRecDepth 100000 in
set_option maxHeartbeats 4000000 in
theorem w_X9_take_1_28_L33 (C : cr_C p l e R s m args below meth c sfC 97 base D cA cX9_take 3 RX9) (hr : meth.sig.returnType = none) (hR : 3 ≤ R.frames ∧ 70 ≤ R.locals) {res : cr_S}  : ∀ (n : Nat) (σ : cr_S) (x2 : Int32), f_X9_take_1_28_L33 n σ x2 = some res → cr_W p l e R s m args below meth c sfC 97 base D cA 3 (MQ below (cr_Qv sfC 97 base D cA res) args s 0 0 (cr_A 97 base)) σ 33 [(0, .ref (base + 1)), (1, .ref (base + 28)), (2, .int x2)] [] := by
  intro n
  induction n with
  | zero =>
    intro σ x2 h
    cases h
  | succ n ih =>
    intro σ x2 h
    rw [f_X9_take_1_28_L33] at h
    refine g_iload_n (pc' := 34) C dX9_take_33 2 rfl rfl ?_
    refine g_bipush (pc' := 36) (v := 8) C dX9_take_34 (by decide) rfl ?_
    refine g_icmp_ge (pc' := 39) (tgt := 60) C dX9_take_36 (by decide) rfl (fun hc => ?_) (fun hc => ?_)
    · rw [if_pos hc] at h
      exact g_sub C [0, 1] rfl (w_X9_take_1_28_B60 C hr hR _ h)
    · rw [if_neg hc] at h
      refine g_aload_n (pc' := 40) C dX9_take_39 0 rfl rfl ?_
      refine gg_X9_30 (pc' := 43) (o := 1) (r := 5) C rfl rfl dX9_take_40 rfl ?_
      refine g_iload_n (pc' := 44) C dX9_take_43 2 rfl rfl ?_
      obtain ⟨h11, h⟩ := chk_some h
      refine g_aald (pc' := 45) C (o := 5) (by decide) rfl (cn := "ClashRocks$Voyage") rfl (inb_d h11) dX9_take_44 rfl ?_
      refine g_aload_n (pc' := 46) C dX9_take_45 1 rfl rfl ?_
      refine gg_X9_30 (pc' := 49) (o := 28) (r := 32) C rfl rfl dX9_take_46 rfl ?_
      refine g_iload_n (pc' := 50) C dX9_take_49 2 rfl rfl ?_
      obtain ⟨h12, h⟩ := chk_some h
      refine g_aald (pc' := 51) C (o := 32) (by decide) rfl (cn := "ClashRocks$Voyage") rfl (inb_d h12) dX9_take_50 rfl ?_
      obtain ⟨q13, h14, h⟩ := bind_some h
      obtain ⟨h15, h⟩ := chk_some h
      refine g_callVv (pc' := 54) (res := q13) C [.ref (base + (47 + x2.toNatClampNeg))] cY_X8_take rfl (o := 20 + x2.toNatClampNeg) (kC_lt h15 (by decide)) (sfC_8 h15) mv_X8_take mm_X9_57 ⟨Nat.le_trans (by decide) hR.1, Nat.le_trans (by decide) hR.2⟩ rfl (Nat.le_of_ble_eq_true rfl) rfl dX9_take_51 (c_X8_take l base D cA σ (20 + x2.toNatClampNeg) (47 + x2.toNatClampNeg) q13 h14) rfl ?_
      obtain ⟨v16, e17, h⟩ := let_some h
      refine g_iinc (pc' := 57) (v := v16) (lv' := [(2, .int v16), (0, .ref (base + 1)), (1, .ref (base + 28))]) C dX9_take_54 2 rfl (by rw [e17]; rfl) (by decide) rfl rfl ?_
      refine g_goto (tgt := 33) C dX9_take_57 (by decide) ?_
      exact g_sub C [1, 2, 0] rfl (ih _ _ h)
noncomputable def f_X9_take_1_28 (σ : cr_S) : Option (cr_S) :=
  Option.bind (f_X9_takePairsAndShips_1_29_30 σ (rF σ 28 5) (rF σ 28 6)) (fun q1 => Option.bind (f_X8_take q1 4 31) (fun q3 => f_X9_take_1_28_L33 cr_fuel q3 0))
set_option maxRecDepth 100000 in
set_option maxHeartbeats 4000000 in
theorem w_X9_take_1_28 (C : cr_C p l e R s m args below meth c sfC 97 base D cA cX9_take 3 RX9) (hr : meth.sig.returnType = none) (hR : 3 ≤ R.frames ∧ 70 ≤ R.locals) {res : cr_S} (σ : cr_S) (h : f_X9_take_1_28 σ = some res) : cr_W p l e R s m args below meth c sfC 97 base D cA 3 (MQ below (cr_Qv sfC 97 base D cA res) args s 0 0 (cr_A 97 base)) σ 0 [(0, .ref (base + 1)), (1, .ref (base + 28))] [] := by
  unfold f_X9_take_1_28 at h
  refine g_aload_n (pc' := 1) C dX9_take_0 0 rfl rfl ?_
  refine g_aload_n (pc' := 2) C dX9_take_1 1 rfl rfl ?_
  refine gg_X9_11 (pc' := 5) (o := 28) (r := 29) C rfl rfl dX9_take_2 rfl ?_
  refine g_aload_n (pc' := 6) C dX9_take_5 1 rfl rfl ?_
  refine gg_X9_47 (pc' := 9) (o := 28) C rfl dX9_take_6 rfl ?_
  refine g_aload_n (pc' := 10) C dX9_take_9 1 rfl rfl ?_
  refine gg_X9_19 (pc' := 13) (o := 28) (r := 30) C rfl rfl dX9_take_10 rfl ?_
  refine g_aload_n (pc' := 14) C dX9_take_13 1 rfl rfl ?_
  refine gg_X9_50 (pc' := 17) (o := 28) C rfl dX9_take_14 rfl ?_
  obtain ⟨q1, h2, h⟩ := bind_some h
  refine g_callVv (pc' := 20) (res := q1) C [.ref (base + 29), .int (rF σ 28 5), .ref (base + 30), .int (rF σ 28 6)] cY_X9_takePairsAndShips rfl (o := 1) (by decide) rfl mv_X9_takePairsAndShips mm_X9_53 ⟨Nat.le_trans (by decide) hR.1, Nat.le_trans (by decide) hR.2⟩ rfl (Nat.le_of_ble_eq_true rfl) rfl dX9_take_17 (c_X9_takePairsAndShips_1_29_30 l base D cA σ (rF σ 28 5) (rF σ 28 6) q1 h2) rfl ?_
  refine g_aload_n (pc' := 21) C dX9_take_20 0 rfl rfl ?_
  refine gg_X9_26 (pc' := 24) (o := 1) (r := 4) C rfl rfl dX9_take_21 rfl ?_
  refine g_aload_n (pc' := 25) C dX9_take_24 1 rfl rfl ?_
  refine gg_X9_26 (pc' := 28) (o := 28) (r := 31) C rfl rfl dX9_take_25 rfl ?_
  obtain ⟨q3, h4, h⟩ := bind_some h
  refine g_callVv (pc' := 31) (res := q3) C [.ref (base + 31)] cY_X8_take rfl (o := 4) (by decide) rfl mv_X8_take mm_X9_57 ⟨Nat.le_trans (by decide) hR.1, Nat.le_trans (by decide) hR.2⟩ rfl (Nat.le_of_ble_eq_true rfl) rfl dX9_take_28 (c_X8_take l base D cA q1 4 31 q3 h4) rfl ?_
  refine g_iconst (pc' := 32) (v := 0) C dX9_take_31 (by decide) rfl ?_
  refine g_istore_n (pc' := 33) (lv' := [(2, .int 0), (0, .ref (base + 1)), (1, .ref (base + 28))]) C dX9_take_32 rfl (by decide) rfl rfl ?_
  exact g_sub C [1, 2, 0] rfl (w_X9_take_1_28_L33 C hr hR _ _ _ h)
theorem c_X9_take_1_28 (l : Launch) (base : Nat) (D : va_G) (cA : Nat → ClassId) (σ : cr_S) (res : cr_S) (h : f_X9_take_1_28 σ = some res) : cr_M l yX9_take cX9_take 3 none 3 70 sfC 97 base D cA [.ref (base + 1), .ref (base + 28)] σ (cr_Qv sfC 97 base D cA res) := by
  refine cr_enter [.ref (base + 1), .ref (base + 28)] [(0, .ref (base + 1)), (1, .ref (base + 28))] (by decide) (Nat.le_of_ble_eq_true rfl) rfl ?_
  intro p e R s m below meth c C hr hR
  exact w_X9_take_1_28 C hr hR σ h
noncomputable def f_X10_restore (σ : cr_S) : Option (cr_S × Int32) :=
  (if (rF σ 0 2) = 0 then some (σ, (-4)) else Option.bind (f_X9_take_1_28 σ) (fun q1 => some (q1, 1)))
set_option maxRecDepth 100000 in
set_option maxHeartbeats 4000000 in
theorem w_X10_restore (C : cr_C p l e R s m args below meth c sfC 97 base D cA cX10_restore 1 RX10) (hr : meth.sig.returnType = some .int) (hR : 4 ≤ R.frames ∧ 92 ≤ R.locals) {res : cr_S × Int32} (σ : cr_S) (h : f_X10_restore σ = some res) : cr_W p l e R s m args below meth c sfC 97 base D cA 1 (MQ below (cr_Qi sfC 97 base D cA res) args s 0 0 (cr_A 97 base)) σ 0 [(0, .ref (base + 0))] [] := by
  unfold f_X10_restore at h
  refine g_aload_n (pc' := 1) C dX10_restore_0 0 rfl rfl ?_
  refine gg_X10_285 (pc' := 4) (o := 0) C rfl dX10_restore_1 rfl ?_
  refine g_if_ne (pc' := 7) (tgt := 10) C dX10_restore_4 (by decide) rfl (fun hc => ?_) (fun hc => ?_)
  · rw [if_neg hc] at h
    refine g_aload_n (pc' := 11) C dX10_restore_10 0 rfl rfl ?_
    refine gg_X10_12 (pc' := 14) (o := 0) (r := 1) C rfl rfl dX10_restore_11 rfl ?_
    refine g_aload_n (pc' := 15) C dX10_restore_14 0 rfl rfl ?_
    refine gg_X10_16 (pc' := 18) (o := 0) (r := 28) C rfl rfl dX10_restore_15 rfl ?_
    obtain ⟨q1, h2, h⟩ := bind_some h
    refine g_callVv (pc' := 21) (res := q1) C [.ref (base + 28)] cY_X9_take rfl (o := 1) (by decide) rfl mv_X9_take mm_X10_281 ⟨Nat.le_trans (by decide) hR.1, Nat.le_trans (by decide) hR.2⟩ rfl (Nat.le_of_ble_eq_true rfl) rfl dX10_restore_18 (c_X9_take_1_28 l base D cA σ q1 h2) rfl ?_
    refine g_iconst (pc' := 22) (v := 1) C dX10_restore_21 (by decide) rfl ?_
    exact g_iret C hr dX10_restore_22 h
  · rw [if_pos hc] at h
    refine g_bipush (pc' := 9) (v := (-4)) C dX10_restore_7 (by decide) rfl ?_
    exact g_iret C hr dX10_restore_9 h
theorem c_X10_restore (l : Launch) (base : Nat) (D : va_G) (cA : Nat → ClassId) (σ : cr_S) (res : cr_S × Int32) (h : f_X10_restore σ = some res) : cr_M l yX10_restore cX10_restore 1 (some .int) 4 92 sfC 97 base D cA [.ref (base + 0)] σ (cr_Qi sfC 97 base D cA res) := by
  refine cr_enter [.ref (base + 0)] [(0, .ref (base + 0))] (by decide) (Nat.le_of_ble_eq_true rfl) rfl ?_
  intro p e R s m below meth c C hr hR
  exact w_X10_restore C hr hR σ h
noncomputable def f_X10_isRow (σ : cr_S) (a1 : Int32) (a2 : Int32) : Option (cr_S × Int32) :=
  Option.bind (f_X10_isWithin σ a1 0 3) (fun q1 => (if q1.2 = 0 then some (q1.1, 0) else Option.bind (f_X10_isWithin q1.1 a2 0 3) (fun q3 => (if q3.2 = 0 then some (q3.1, 0) else some (q3.1, 1)))))
set_option maxRecDepth 100000 in
set_option maxHeartbeats 4000000 in
theorem w_X10_isRow (C : cr_C p l e R s m args below meth c sfC 97 base D cA cX10_isRow 3 RX10) (hr : meth.sig.returnType = some .boolean) (hR : 1 ≤ R.frames ∧ 22 ≤ R.locals) {res : cr_S × Int32} (σ : cr_S) (a1 : Int32) (a2 : Int32) (h : f_X10_isRow σ a1 a2 = some res) : cr_W p l e R s m args below meth c sfC 97 base D cA 3 (MQ below (cr_Qi sfC 97 base D cA res) args s 0 0 (cr_A 97 base)) σ 0 [(0, .ref (base + 0)), (1, .int a1), (2, .int a2)] [] := by
  unfold f_X10_isRow at h
  refine g_iload_n (pc' := 1) C dX10_isRow_0 1 rfl rfl ?_
  refine g_iconst (pc' := 2) (v := 0) C dX10_isRow_1 (by decide) rfl ?_
  refine g_iconst (pc' := 3) (v := 3) C dX10_isRow_2 (by decide) rfl ?_
  obtain ⟨q1, h2, h⟩ := bind_some h
  refine g_callSi (pc' := 6) (res := q1) C [.int a1, .int 0, .int 3] cY_X10_isWithin mv_X10_isWithin mm_X10_54 ⟨Nat.le_trans (by decide) hR.1, Nat.le_trans (by decide) hR.2⟩ rfl (Nat.le_of_ble_eq_true rfl) rfl dX10_isRow_3 (c_X10_isWithin l base D cA σ a1 0 3 q1 h2) rfl ?_
  refine g_if_eq (pc' := 9) (tgt := 22) C dX10_isRow_6 (by decide) rfl (fun hc => ?_) (fun hc => ?_)
  · rw [if_pos hc] at h
    refine g_iconst (pc' := 23) (v := 0) C dX10_isRow_22 (by decide) rfl ?_
    exact g_zret C hr rfl dX10_isRow_23 h
  · rw [if_neg hc] at h
    refine g_iload_n (pc' := 10) C dX10_isRow_9 2 rfl rfl ?_
    refine g_iconst (pc' := 11) (v := 0) C dX10_isRow_10 (by decide) rfl ?_
    refine g_iconst (pc' := 12) (v := 3) C dX10_isRow_11 (by decide) rfl ?_
    obtain ⟨q3, h4, h⟩ := bind_some h
    refine g_callSi (pc' := 15) (res := q3) C [.int a2, .int 0, .int 3] cY_X10_isWithin mv_X10_isWithin mm_X10_54 ⟨Nat.le_trans (by decide) hR.1, Nat.le_trans (by decide) hR.2⟩ rfl (Nat.le_of_ble_eq_true rfl) rfl dX10_isRow_12 (c_X10_isWithin l base D cA q1.1 a2 0 3 q3 h4) rfl ?_
    refine g_if_eq (pc' := 18) (tgt := 22) C dX10_isRow_15 (by decide) rfl (fun hc => ?_) (fun hc => ?_)
    · rw [if_pos hc] at h
      refine g_iconst (pc' := 23) (v := 0) C dX10_isRow_22 (by decide) rfl ?_
      exact g_zret C hr rfl dX10_isRow_23 h
    · rw [if_neg hc] at h
      refine g_iconst (pc' := 19) (v := 1) C dX10_isRow_18 (by decide) rfl ?_
      refine g_goto (tgt := 23) C dX10_isRow_19 (by decide) ?_
      exact g_zret C hr rfl dX10_isRow_23 h
theorem c_X10_isRow (l : Launch) (base : Nat) (D : va_G) (cA : Nat → ClassId) (σ : cr_S) (a1 : Int32) (a2 : Int32) (res : cr_S × Int32) (h : f_X10_isRow σ a1 a2 = some res) : cr_M l yX10_isRow cX10_isRow 3 (some .boolean) 1 22 sfC 97 base D cA [.ref (base + 0), .int a1, .int a2] σ (cr_Qi sfC 97 base D cA res) := by
  refine cr_enter [.ref (base + 0), .int a1, .int a2] [(0, .ref (base + 0)), (1, .int a1), (2, .int a2)] (by decide) (Nat.le_of_ble_eq_true rfl) rfl ?_
  intro p e R s m below meth c C hr hR
  exact w_X10_isRow C hr hR σ a1 a2 h
noncomputable def f_X4_hasItems (σ : cr_S) (o0 : Nat) (a1 : Int32) (a2 : Int32) : Option (cr_S × Int32) :=
  (if a1 < 0 then some (σ, 0) else (if a2 < 0 then some (σ, 0) else chk (kC o0 = 4) ((if ((rF σ o0 3) - a2) < a1 then some (σ, 0) else some (σ, 1)))))
set_option maxRecDepth 100000 in
set_option maxHeartbeats 4000000 in
theorem w_X4_hasItems (C : cr_C p l e R s m args below meth c sfC 97 base D cA cX4_hasItems 3 RX4) (hr : meth.sig.returnType = some .boolean) (hR : 0 ≤ R.frames ∧ 0 ≤ R.locals) {res : cr_S × Int32} (σ : cr_S) (o0 : Nat) (a1 : Int32) (a2 : Int32) (h : f_X4_hasItems σ o0 a1 a2 = some res) : cr_W p l e R s m args below meth c sfC 97 base D cA 3 (MQ below (cr_Qi sfC 97 base D cA res) args s 0 0 (cr_A 97 base)) σ 0 [(0, .ref (base + o0)), (1, .int a1), (2, .int a2)] [] := by
  unfold f_X4_hasItems at h
  refine g_iload_n (pc' := 1) C dX4_hasItems_0 1 rfl rfl ?_
  refine g_if_lt (pc' := 4) (tgt := 22) C dX4_hasItems_1 (by decide) rfl (fun hc => ?_) (fun hc => ?_)
  · rw [if_pos hc] at h
    refine g_iconst (pc' := 23) (v := 0) C dX4_hasItems_22 (by decide) rfl ?_
    exact g_zret C hr rfl dX4_hasItems_23 h
  · rw [if_neg hc] at h
    refine g_iload_n (pc' := 5) C dX4_hasItems_4 2 rfl rfl ?_
    refine g_if_lt (pc' := 8) (tgt := 22) C dX4_hasItems_5 (by decide) rfl (fun hc => ?_) (fun hc => ?_)
    · rw [if_pos hc] at h
      refine g_iconst (pc' := 23) (v := 0) C dX4_hasItems_22 (by decide) rfl ?_
      exact g_zret C hr rfl dX4_hasItems_23 h
    · rw [if_neg hc] at h
      refine g_iload_n (pc' := 9) C dX4_hasItems_8 1 rfl rfl ?_
      refine g_aload_n (pc' := 10) C dX4_hasItems_9 0 rfl rfl ?_
      obtain ⟨h1, h⟩ := chk_some h
      refine gg_X4_23 (pc' := 13) (o := o0) C h1 dX4_hasItems_10 rfl ?_
      refine g_iload_n (pc' := 14) C dX4_hasItems_13 2 rfl rfl ?_
      refine g_isub (pc' := 15) C dX4_hasItems_14 rfl ?_
      refine g_icmp_gt (pc' := 18) (tgt := 22) C dX4_hasItems_15 (by decide) rfl (fun hc => ?_) (fun hc => ?_)
      · rw [if_pos hc] at h
        refine g_iconst (pc' := 23) (v := 0) C dX4_hasItems_22 (by decide) rfl ?_
        exact g_zret C hr rfl dX4_hasItems_23 h
      · rw [if_neg hc] at h
        refine g_iconst (pc' := 19) (v := 1) C dX4_hasItems_18 (by decide) rfl ?_
        refine g_goto (tgt := 23) C dX4_hasItems_19 (by decide) ?_
        exact g_zret C hr rfl dX4_hasItems_23 h
theorem c_X4_hasItems (l : Launch) (base : Nat) (D : va_G) (cA : Nat → ClassId) (σ : cr_S) (o0 : Nat) (a1 : Int32) (a2 : Int32) (res : cr_S × Int32) (h : f_X4_hasItems σ o0 a1 a2 = some res) : cr_M l yX4_hasItems cX4_hasItems 3 (some .boolean) 0 0 sfC 97 base D cA [.ref (base + o0), .int a1, .int a2] σ (cr_Qi sfC 97 base D cA res) := by
  refine cr_enter [.ref (base + o0), .int a1, .int a2] [(0, .ref (base + o0)), (1, .int a1), (2, .int a2)] (by decide) (Nat.le_of_ble_eq_true rfl) rfl ?_
  intro p e R s m below meth c C hr hR
  exact w_X4_hasItems C hr hR σ o0 a1 a2 h
noncomputable def f_X4_refusal (σ : cr_S) (o0 : Nat) (a1 : Int32) (a2 : Int32) (a3 : Int32) : Option (cr_S × Int32) :=
  chk (kC o0 = 4) ((if (rF σ o0 1) = 0 then some (σ, (-11)) else chk (kC o0 = 4) ((if (rF σ o0 2) = a1 then Option.bind (f_X4_hasItems σ o0 a2 a3) (fun q3 => chk (kC o0 = 4) (some (q3.1, if q3.2 = 0 then (-13) else 0))) else some (σ, (-12))))))
set_option maxRecDepth 100000 in
set_option maxHeartbeats 4000000 in
theorem w_X4_refusal (C : cr_C p l e R s m args below meth c sfC 97 base D cA cX4_refusal 4 RX4) (hr : meth.sig.returnType = some .int) (hR : 1 ≤ R.frames ∧ 22 ≤ R.locals) {res : cr_S × Int32} (σ : cr_S) (o0 : Nat) (a1 : Int32) (a2 : Int32) (a3 : Int32) (h : f_X4_refusal σ o0 a1 a2 a3 = some res) : cr_W p l e R s m args below meth c sfC 97 base D cA 4 (MQ below (cr_Qi sfC 97 base D cA res) args s 0 0 (cr_A 97 base)) σ 0 [(0, .ref (base + o0)), (1, .int a1), (2, .int a2), (3, .int a3)] [] := by
  unfold f_X4_refusal at h
  refine g_aload_n (pc' := 1) C dX4_refusal_0 0 rfl rfl ?_
  obtain ⟨h1, h⟩ := chk_some h
  refine gg_X4_15 (pc' := 4) (o := o0) C h1 dX4_refusal_1 rfl ?_
  refine g_if_ne (pc' := 7) (tgt := 10) C dX4_refusal_4 (by decide) rfl (fun hc => ?_) (fun hc => ?_)
  · rw [if_neg hc] at h
    refine g_aload_n (pc' := 11) C dX4_refusal_10 0 rfl rfl ?_
    obtain ⟨h2, h⟩ := chk_some h
    refine gg_X4_19 (pc' := 14) (o := o0) C h2 dX4_refusal_11 rfl ?_
    refine g_iload_n (pc' := 15) C dX4_refusal_14 1 rfl rfl ?_
    refine g_icmp_eq (pc' := 18) (tgt := 21) C dX4_refusal_15 (by decide) rfl (fun hc => ?_) (fun hc => ?_)
    · rw [if_pos hc] at h
      refine g_aload_n (pc' := 22) C dX4_refusal_21 0 rfl rfl ?_
      refine g_iload_n (pc' := 23) C dX4_refusal_22 2 rfl rfl ?_
      refine g_iload_n (pc' := 24) C dX4_refusal_23 3 rfl rfl ?_
      obtain ⟨q3, h4, h⟩ := bind_some h
      obtain ⟨h5, h⟩ := chk_some h
      refine g_callVi (pc' := 27) (res := q3) C [.int a2, .int a3] cY_X4_hasItems rfl (o := o0) (kC_lt h5 (by decide)) (sfC_4 h5) mv_X4_hasItems mm_X4_32 ⟨Nat.le_trans (by decide) hR.1, Nat.le_trans (by decide) hR.2⟩ rfl (Nat.le_of_ble_eq_true rfl) rfl dX4_refusal_24 (c_X4_hasItems l base D cA σ o0 a2 a3 q3 h4) rfl ?_
      refine g_iteI (σ := q3.1) (pj := 36) (lv := [(0, .ref (base + o0)), (1, .int a1), (2, .int a2), (3, .int a3)]) (st := []) (cd := q3.2 = 0) (a := (-13)) (b := 0) C ?_ (fun kt kf => ?_)
      · exact g_iret C hr dX4_refusal_36 h
      · refine g_if_eq (pc' := 30) (tgt := 34) C dX4_refusal_27 (by decide) rfl (fun hc => ?_) (fun hc => ?_)
        · refine g_bipush (pc' := 36) (v := (-13)) C dX4_refusal_34 (by decide) rfl ?_
          exact kt hc
        · refine g_iconst (pc' := 31) (v := 0) C dX4_refusal_30 (by decide) rfl ?_
          refine g_goto (tgt := 36) C dX4_refusal_31 (by decide) ?_
          exact kf hc
    · rw [if_neg hc] at h
      refine g_bipush (pc' := 20) (v := (-12)) C dX4_refusal_18 (by decide) rfl ?_
      exact g_iret C hr dX4_refusal_20 h
  · rw [if_pos hc] at h
    refine g_bipush (pc' := 9) (v := (-11)) C dX4_refusal_7 (by decide) rfl ?_
    exact g_iret C hr dX4_refusal_9 h
theorem c_X4_refusal (l : Launch) (base : Nat) (D : va_G) (cA : Nat → ClassId) (σ : cr_S) (o0 : Nat) (a1 : Int32) (a2 : Int32) (a3 : Int32) (res : cr_S × Int32) (h : f_X4_refusal σ o0 a1 a2 a3 = some res) : cr_M l yX4_refusal cX4_refusal 4 (some .int) 1 22 sfC 97 base D cA [.ref (base + o0), .int a1, .int a2, .int a3] σ (cr_Qi sfC 97 base D cA res) := by
  refine cr_enter [.ref (base + o0), .int a1, .int a2, .int a3] [(0, .ref (base + o0)), (1, .int a1), (2, .int a2), (3, .int a3)] (by decide) (Nat.le_of_ble_eq_true rfl) rfl ?_
  intro p e R s m below meth c C hr hR
  exact w_X4_refusal C hr hR σ o0 a1 a2 a3 h
noncomputable def f_X10_judged_B150  (σ : cr_S) (x2 : Int32) (x6 : Int32) (x9 : Nat) : Option (cr_S × Int32) :=
  Option.bind (f_X0_go_70_1 σ x9 x2) (fun q14 => Option.bind (f_X0_judgement_70 q14 x6) (fun q16 => some (q16.1, q16.2)))
set_option maxRecDepth 100000 in
set_option maxHeartbeats 4000000 in
theorem w_X10_judged_B150 (C : cr_C p l e R s m args below meth c sfC 97 base D cA cX10_judged 13 RX10) (hr : meth.sig.returnType = some .int) (hR : 5 ≤ R.frames ∧ 120 ≤ R.locals) {res : cr_S × Int32}  (σ : cr_S) (x2 : Int32) (x6 : Int32) (x9 : Nat) (h : f_X10_judged_B150 σ x2 x6 x9 = some res) : cr_W p l e R s m args below meth c sfC 97 base D cA 13 (MQ below (cr_Qi sfC 97 base D cA res) args s 0 0 (cr_A 97 base)) σ 150 [(0, .ref (base + 0)), (2, .int x2), (6, .int x6), (9, .ref (base + x9))] [] := by
  unfold f_X10_judged_B150 at h
  refine g_aload_n (pc' := 151) C dX10_judged_150 0 rfl rfl ?_
  refine gg_X10_29 (pc' := 154) (o := 0) (r := 70) C rfl rfl dX10_judged_151 rfl ?_
  refine g_aload_n (pc' := 155) C dX10_judged_154 0 rfl rfl ?_
  refine gg_X10_12 (pc' := 158) (o := 0) (r := 1) C rfl rfl dX10_judged_155 rfl ?_
  refine g_aload (pc' := 160) C dX10_judged_158 3 rfl rfl ?_
  refine g_iload_n (pc' := 161) C dX10_judged_160 1 rfl rfl ?_
  obtain ⟨q14, h15, h⟩ := bind_some h
  refine g_callVv (pc' := 164) (res := q14) C [.ref (base + 1), .ref (base + x9), .int x2] cY_X0_go rfl (o := 70) (by decide) rfl mv_X0_go mm_X10_300 ⟨Nat.le_trans (by decide) hR.1, Nat.le_trans (by decide) hR.2⟩ rfl (Nat.le_of_ble_eq_true rfl) rfl dX10_judged_161 (c_X0_go_70_1 l base D cA σ x9 x2 q14 h15) rfl ?_
  refine g_aload_n (pc' := 165) C dX10_judged_164 0 rfl rfl ?_
  refine gg_X10_29 (pc' := 168) (o := 0) (r := 70) C rfl rfl dX10_judged_165 rfl ?_
  refine g_iload (pc' := 170) C dX10_judged_168 2 rfl rfl ?_
  obtain ⟨q16, h17, h⟩ := bind_some h
  refine g_callVi (pc' := 173) (res := q16) C [.int x6] cY_X0_judgement rfl (o := 70) (by decide) rfl mv_X0_judgement mm_X10_228 ⟨Nat.le_trans (by decide) hR.1, Nat.le_trans (by decide) hR.2⟩ rfl (Nat.le_of_ble_eq_true rfl) rfl dX10_judged_170 (c_X0_judgement_70 l base D cA q14 x6 q16 h17) rfl ?_
  exact g_iret C hr dX10_judged_173 h
noncomputable def f_X10_judged_L79  : Nat → cr_S → Int32 → Int32 → Int32 → Nat → Nat → Int32 → Option (cr_S × Int32)
  | 0, _, _, _, _, _, _, _ => none
  | n + 1, σ, x2, x5, x6, x7, x9, x10 =>
    (if (rF σ 1 5) ≤ x10 then f_X10_judged_B150 σ x2 x6 x9 else chk (kC x7 = 4) (chk (kC (x7 + 1) = 3016) (chk (inb (x5 + x10) 16) (cr_let (rL σ (x7 + 1) (x5 + x10)) (fun v21 => Option.bind (f_X6_low σ x9) (fun q23 => chk (kC x9 = 6) ((if (lg_cmp v21 (Int32.toInt64 q23.2)) < 0 then some (q23.1, (-2)) else Option.bind (f_X6_high q23.1 x9) (fun q26 => chk (kC x9 = 6) ((if (lg_cmp v21 (Int32.toInt64 q26.2)) ≤ 0 then chk (inb x10 6) (cr_let (sA q26.1 71 x10 (Int64.toInt32 v21)) (fun s30 => cr_let (x10 + 1) (fun v32 => f_X10_judged_L79 n s30 x2 x5 x6 x7 x9 v32))) else some (q26.1, (-2)))))))))))))
set_option maxRecDepth 100000 in
set_option maxHeartbeats 4000000 in
theorem w_X10_judged_L79 (C : cr_C p l e R s m args below meth c sfC 97 base D cA cX10_judged 13 RX10) (hr : meth.sig.returnType = some .int) (hR : 5 ≤ R.frames ∧ 120 ≤ R.locals) {res : cr_S × Int32}  : ∀ (n : Nat) (σ : cr_S) (x2 : Int32) (x5 : Int32) (x6 : Int32) (x7 : Nat) (x9 : Nat) (x10 : Int32), f_X10_judged_L79 n σ x2 x5 x6 x7 x9 x10 = some res → cr_W p l e R s m args below meth c sfC 97 base D cA 13 (MQ below (cr_Qi sfC 97 base D cA res) args s 0 0 (cr_A 97 base)) σ 79 [(0, .ref (base + 0)), (2, .int x2), (5, .int x5), (6, .int x6), (7, .ref (base + x7)), (9, .ref (base + x9)), (10, .int x10)] [] := by
  intro n
  induction n with
  | zero =>
    intro σ x2 x5 x6 x7 x9 x10 h
    cases h
  | succ n ih =>
    intro σ x2 x5 x6 x7 x9 x10 h
    rw [f_X10_judged_L79] at h
    refine g_iload (pc' := 81) C dX10_judged_79 6 rfl rfl ?_
    refine g_aload_n (pc' := 82) C dX10_judged_81 0 rfl rfl ?_
    refine gg_X10_12 (pc' := 85) (o := 0) (r := 1) C rfl rfl dX10_judged_82 rfl ?_
    refine gg_X10_58 (pc' := 88) (o := 1) C rfl dX10_judged_85 rfl ?_
    refine g_icmp_ge (pc' := 91) (tgt := 150) C dX10_judged_88 (by decide) rfl (fun hc => ?_) (fun hc => ?_)
    · rw [if_pos hc] at h
      exact g_sub C [0, 1, 3, 5] rfl (w_X10_judged_B150 C hr hR _ _ _ _ h)
    · rw [if_neg hc] at h
      refine g_aload (pc' := 93) C dX10_judged_91 4 rfl rfl ?_
      obtain ⟨h18, h⟩ := chk_some h
      refine gg_X10_295 (pc' := 96) (o := x7) (r := x7 + 1) C h18 rfl dX10_judged_93 rfl ?_
      refine g_iload (pc' := 98) C dX10_judged_96 2 rfl rfl ?_
      refine g_iload (pc' := 100) C dX10_judged_98 6 rfl rfl ?_
      refine g_iadd (pc' := 101) C dX10_judged_100 rfl ?_
      obtain ⟨h19, h⟩ := chk_some h
      obtain ⟨h20, h⟩ := chk_some h
      refine g_lald (pc' := 102) C (o := x7 + 1) (kC_lt h19 (by decide)) (sfC_3016 h19) (inb_d h20) dX10_judged_101 rfl ?_
      obtain ⟨v21, e22, h⟩ := let_some h
      refine g_nameL e22 ?_
      refine g_lstore (pc' := 104) (lv' := [(11, .long v21), (0, .ref (base + 0)), (2, .int x2), (5, .int x5), (6, .int x6), (7, .ref (base + x7)), (9, .ref (base + x9)), (10, .int x10)]) C dX10_judged_102 (by decide) rfl rfl ?_
      refine g_lload (pc' := 106) C dX10_judged_104 0 rfl rfl ?_
      refine g_aload (pc' := 108) C dX10_judged_106 6 rfl rfl ?_
      obtain ⟨q23, h24, h⟩ := bind_some h
      obtain ⟨h25, h⟩ := chk_some h
      refine g_callVi (pc' := 111) (res := q23) C [] cY_X6_low rfl (o := x9) (kC_lt h25 (by decide)) (sfC_6 h25) mv_X6_low mm_X10_113 ⟨Nat.le_trans (by decide) hR.1, Nat.le_trans (by decide) hR.2⟩ rfl (Nat.le_of_ble_eq_true rfl) rfl dX10_judged_108 (c_X6_low l base D cA σ x9 q23 h24) rfl ?_
      refine g_i2l (pc' := 112) C dX10_judged_111 rfl ?_
      refine g_lcmp (pc' := 113) C dX10_judged_112 rfl ?_
      refine g_if_lt (pc' := 116) (tgt := 128) C dX10_judged_113 (by decide) rfl (fun hc => ?_) (fun hc => ?_)
      · rw [if_pos hc] at h
        refine g_bipush (pc' := 130) (v := (-2)) C dX10_judged_128 (by decide) rfl ?_
        exact g_iret C hr dX10_judged_130 h
      · rw [if_neg hc] at h
        refine g_lload (pc' := 118) C dX10_judged_116 0 rfl rfl ?_
        refine g_aload (pc' := 120) C dX10_judged_118 6 rfl rfl ?_
        obtain ⟨q26, h27, h⟩ := bind_some h
        obtain ⟨h28, h⟩ := chk_some h
        refine g_callVi (pc' := 123) (res := q26) C [] cY_X6_high rfl (o := x9) (kC_lt h28 (by decide)) (sfC_6 h28) mv_X6_high mm_X10_117 ⟨Nat.le_trans (by decide) hR.1, Nat.le_trans (by decide) hR.2⟩ rfl (Nat.le_of_ble_eq_true rfl) rfl dX10_judged_120 (c_X6_high l base D cA q23.1 x9 q26 h27) rfl ?_
        refine g_i2l (pc' := 124) C dX10_judged_123 rfl ?_
        refine g_lcmp (pc' := 125) C dX10_judged_124 rfl ?_
        refine g_if_le (pc' := 128) (tgt := 131) C dX10_judged_125 (by decide) rfl (fun hc => ?_) (fun hc => ?_)
        · rw [if_pos hc] at h
          refine g_aload_n (pc' := 132) C dX10_judged_131 1 rfl rfl ?_
          refine gg_X10_29 (pc' := 135) (o := 0) (r := 70) C rfl rfl dX10_judged_132 rfl ?_
          refine gg_X10_299 (pc' := 138) (o := 70) (r := 71) C rfl rfl dX10_judged_135 rfl ?_
          refine g_iload (pc' := 140) C dX10_judged_138 7 rfl rfl ?_
          refine g_lload (pc' := 142) C dX10_judged_140 0 rfl rfl ?_
          refine g_l2i (pc' := 143) C dX10_judged_142 rfl ?_
          obtain ⟨h29, h⟩ := chk_some h
          obtain ⟨s30, e31, h⟩ := let_some h
          refine g_iast (pc' := 144) C (o := 71) (by decide) rfl (inb_d h29) dX10_judged_143 rfl e31 ?_
          obtain ⟨v32, e33, h⟩ := let_some h
          refine g_iinc (pc' := 147) (v := v32) (lv' := [(10, .int v32), (11, .long v21), (0, .ref (base + 0)), (2, .int x2), (5, .int x5), (6, .int x6), (7, .ref (base + x7)), (9, .ref (base + x9))]) C dX10_judged_144 7 rfl (by rw [e33]; rfl) (by decide) rfl rfl ?_
          refine g_goto (tgt := 79) C dX10_judged_147 (by decide) ?_
          exact g_sub C [2, 3, 4, 5, 6, 7, 0] rfl (ih _ _ _ _ _ _ _ h)
        · rw [if_neg hc] at h
          refine g_bipush (pc' := 130) (v := (-2)) C dX10_judged_128 (by decide) rfl ?_
          exact g_iret C hr dX10_judged_130 h
noncomputable def f_X10_judged (σ : cr_S) (a1 : Int32) (a2 : Int32) (a3 : Int32) (a4 : Int32) (a5 : Int32) (a6 : Int32) : Option (cr_S × Int32) :=
  Option.bind (f_X10_isBegin σ a1 a2) (fun q1 => (if q1.2 = 0 then some (q1.1, (-1)) else Option.bind (f_X10_isRow q1.1 a3 a4) (fun q3 => (if q3.2 = 0 then some (q3.1, (-1)) else Option.bind (f_X10_isWithin q3.1 a6 0 2) (fun q5 => (if q5.2 = 0 then some (q5.1, (-1)) else chk (inb a3 4) (Option.bind (f_X4_refusal q5.1 (89 + 2 * a3.toNatClampNeg) a4 a5 (rF q5.1 1 5)) (fun q8 => chk (kC (89 + 2 * a3.toNatClampNeg) = 4) (cr_let q8.2 (fun v11 => (if v11 = 0 then chk (inb a1 5) (f_X10_judged_L79 cr_fuel q8.1 a2 a5 a6 (89 + 2 * a3.toNatClampNeg) (15 + a1.toNatClampNeg) 0) else some (q8.1, v11))))))))))))
set_option maxRecDepth 100000 in
set_option maxHeartbeats 4000000 in
theorem w_X10_judged (C : cr_C p l e R s m args below meth c sfC 97 base D cA cX10_judged 13 RX10) (hr : meth.sig.returnType = some .int) (hR : 5 ≤ R.frames ∧ 120 ≤ R.locals) {res : cr_S × Int32} (σ : cr_S) (a1 : Int32) (a2 : Int32) (a3 : Int32) (a4 : Int32) (a5 : Int32) (a6 : Int32) (h : f_X10_judged σ a1 a2 a3 a4 a5 a6 = some res) : cr_W p l e R s m args below meth c sfC 97 base D cA 13 (MQ below (cr_Qi sfC 97 base D cA res) args s 0 0 (cr_A 97 base)) σ 0 [(0, .ref (base + 0)), (1, .int a1), (2, .int a2), (3, .int a3), (4, .int a4), (5, .int a5), (6, .int a6)] [] := by
  unfold f_X10_judged at h
  refine g_aload_n (pc' := 1) C dX10_judged_0 0 rfl rfl ?_
  refine g_iload_n (pc' := 2) C dX10_judged_1 1 rfl rfl ?_
  refine g_iload_n (pc' := 3) C dX10_judged_2 2 rfl rfl ?_
  obtain ⟨q1, h2, h⟩ := bind_some h
  refine g_callVi (pc' := 6) (res := q1) C [.int a1, .int a2] cY_X10_isBegin rfl (o := 0) (by decide) rfl mv_X10_isBegin mm_X10_210 ⟨Nat.le_trans (by decide) hR.1, Nat.le_trans (by decide) hR.2⟩ rfl (Nat.le_of_ble_eq_true rfl) rfl dX10_judged_3 (c_X10_isBegin l base D cA σ a1 a2 q1 h2) rfl ?_
  refine g_if_eq (pc' := 9) (tgt := 29) C dX10_judged_6 (by decide) rfl (fun hc => ?_) (fun hc => ?_)
  · rw [if_pos hc] at h
    refine g_iconst (pc' := 30) (v := (-1)) C dX10_judged_29 (by decide) rfl ?_
    exact g_iret C hr dX10_judged_30 h
  · rw [if_neg hc] at h
    refine g_aload_n (pc' := 10) C dX10_judged_9 0 rfl rfl ?_
    refine g_iload_n (pc' := 11) C dX10_judged_10 3 rfl rfl ?_
    refine g_iload (pc' := 13) C dX10_judged_11 4 rfl rfl ?_
    obtain ⟨q3, h4, h⟩ := bind_some h
    refine g_callVi (pc' := 16) (res := q3) C [.int a3, .int a4] cY_X10_isRow rfl (o := 0) (by decide) rfl mv_X10_isRow mm_X10_289 ⟨Nat.le_trans (by decide) hR.1, Nat.le_trans (by decide) hR.2⟩ rfl (Nat.le_of_ble_eq_true rfl) rfl dX10_judged_13 (c_X10_isRow l base D cA q1.1 a3 a4 q3 h4) rfl ?_
    refine g_if_eq (pc' := 19) (tgt := 29) C dX10_judged_16 (by decide) rfl (fun hc => ?_) (fun hc => ?_)
    · rw [if_pos hc] at h
      refine g_iconst (pc' := 30) (v := (-1)) C dX10_judged_29 (by decide) rfl ?_
      exact g_iret C hr dX10_judged_30 h
    · rw [if_neg hc] at h
      refine g_iload (pc' := 21) C dX10_judged_19 6 rfl rfl ?_
      refine g_iconst (pc' := 22) (v := 0) C dX10_judged_21 (by decide) rfl ?_
      refine g_iconst (pc' := 23) (v := 2) C dX10_judged_22 (by decide) rfl ?_
      obtain ⟨q5, h6, h⟩ := bind_some h
      refine g_callSi (pc' := 26) (res := q5) C [.int a6, .int 0, .int 2] cY_X10_isWithin mv_X10_isWithin mm_X10_54 ⟨Nat.le_trans (by decide) hR.1, Nat.le_trans (by decide) hR.2⟩ rfl (Nat.le_of_ble_eq_true rfl) rfl dX10_judged_23 (c_X10_isWithin l base D cA q3.1 a6 0 2 q5 h6) rfl ?_
      refine g_if_ne (pc' := 29) (tgt := 31) C dX10_judged_26 (by decide) rfl (fun hc => ?_) (fun hc => ?_)
      · rw [if_neg hc] at h
        refine g_aload_n (pc' := 32) C dX10_judged_31 0 rfl rfl ?_
        refine gg_X10_49 (pc' := 35) (o := 0) (r := 88) C rfl rfl dX10_judged_32 rfl ?_
        refine g_iload_n (pc' := 36) C dX10_judged_35 3 rfl rfl ?_
        obtain ⟨h7, h⟩ := chk_some h
        refine g_aald (pc' := 37) C (o := 88) (by decide) rfl (cn := "ClashRocks$Row") rfl (inb_d h7) dX10_judged_36 rfl ?_
        refine g_astore (pc' := 39) (lv' := [(7, .ref (base + (89 + 2 * a3.toNatClampNeg))), (0, .ref (base + 0)), (1, .int a1), (2, .int a2), (3, .int a3), (4, .int a4), (5, .int a5), (6, .int a6)]) C dX10_judged_37 (by decide) rfl rfl ?_
        refine g_aload (pc' := 41) C dX10_judged_39 0 rfl rfl ?_
        refine g_iload (pc' := 43) C dX10_judged_41 5 rfl rfl ?_
        refine g_iload (pc' := 45) C dX10_judged_43 6 rfl rfl ?_
        refine g_aload_n (pc' := 46) C dX10_judged_45 1 rfl rfl ?_
        refine gg_X10_12 (pc' := 49) (o := 0) (r := 1) C rfl rfl dX10_judged_46 rfl ?_
        refine gg_X10_58 (pc' := 52) (o := 1) C rfl dX10_judged_49 rfl ?_
        obtain ⟨q8, h9, h⟩ := bind_some h
        obtain ⟨h10, h⟩ := chk_some h
        refine g_callVi (pc' := 55) (res := q8) C [.int a4, .int a5, .int (rF q5.1 1 5)] cY_X4_refusal rfl (o := 89 + 2 * a3.toNatClampNeg) (kC_lt h10 (by decide)) (sfC_4 h10) mv_X4_refusal mm_X10_292 ⟨Nat.le_trans (by decide) hR.1, Nat.le_trans (by decide) hR.2⟩ rfl (Nat.le_of_ble_eq_true rfl) rfl dX10_judged_52 (c_X4_refusal l base D cA q5.1 (89 + 2 * a3.toNatClampNeg) a4 a5 (rF q5.1 1 5) q8 h9) rfl ?_
        obtain ⟨v11, e12, h⟩ := let_some h
        refine g_nameI e12 ?_
        refine g_istore (pc' := 57) (lv' := [(8, .int v11), (7, .ref (base + (89 + 2 * a3.toNatClampNeg))), (0, .ref (base + 0)), (1, .int a1), (2, .int a2), (3, .int a3), (4, .int a4), (5, .int a5), (6, .int a6)]) C dX10_judged_55 (by decide) rfl rfl ?_
        refine g_iload (pc' := 59) C dX10_judged_57 0 rfl rfl ?_
        refine g_if_eq (pc' := 62) (tgt := 65) C dX10_judged_59 (by decide) rfl (fun hc => ?_) (fun hc => ?_)
        · rw [if_pos hc] at h
          refine g_aload_n (pc' := 66) C dX10_judged_65 2 rfl rfl ?_
          refine gg_X10_12 (pc' := 69) (o := 0) (r := 1) C rfl rfl dX10_judged_66 rfl ?_
          refine gg_X10_85 (pc' := 72) (o := 1) (r := 3) C rfl rfl dX10_judged_69 rfl ?_
          refine g_iload_n (pc' := 73) C dX10_judged_72 3 rfl rfl ?_
          obtain ⟨h13, h⟩ := chk_some h
          refine g_aald (pc' := 74) C (o := 3) (by decide) rfl (cn := "ClashRocks$Ship") rfl (inb_d h13) dX10_judged_73 rfl ?_
          refine g_astore (pc' := 76) (lv' := [(9, .ref (base + (15 + a1.toNatClampNeg))), (8, .int v11), (7, .ref (base + (89 + 2 * a3.toNatClampNeg))), (0, .ref (base + 0)), (1, .int a1), (2, .int a2), (3, .int a3), (4, .int a4), (5, .int a5), (6, .int a6)]) C dX10_judged_74 (by decide) rfl rfl ?_
          refine g_iconst (pc' := 77) (v := 0) C dX10_judged_76 (by decide) rfl ?_
          refine g_istore (pc' := 79) (lv' := [(10, .int 0), (9, .ref (base + (15 + a1.toNatClampNeg))), (8, .int v11), (7, .ref (base + (89 + 2 * a3.toNatClampNeg))), (0, .ref (base + 0)), (1, .int a1), (2, .int a2), (3, .int a3), (4, .int a4), (5, .int a5), (6, .int a6)]) C dX10_judged_77 (by decide) rfl rfl ?_
          exact g_sub C [4, 6, 9, 10, 3, 1, 0] rfl (w_X10_judged_L79 C hr hR _ _ _ _ _ _ _ _ h)
        · rw [if_neg hc] at h
          refine g_iload (pc' := 64) C dX10_judged_62 0 rfl rfl ?_
          exact g_iret C hr dX10_judged_64 h
      · rw [if_pos hc] at h
        refine g_iconst (pc' := 30) (v := (-1)) C dX10_judged_29 (by decide) rfl ?_
        exact g_iret C hr dX10_judged_30 h
theorem c_X10_judged (l : Launch) (base : Nat) (D : va_G) (cA : Nat → ClassId) (σ : cr_S) (a1 : Int32) (a2 : Int32) (a3 : Int32) (a4 : Int32) (a5 : Int32) (a6 : Int32) (res : cr_S × Int32) (h : f_X10_judged σ a1 a2 a3 a4 a5 a6 = some res) : cr_M l yX10_judged cX10_judged 13 (some .int) 5 120 sfC 97 base D cA [.ref (base + 0), .int a1, .int a2, .int a3, .int a4, .int a5, .int a6] σ (cr_Qi sfC 97 base D cA res) := by
  refine cr_enter [.ref (base + 0), .int a1, .int a2, .int a3, .int a4, .int a5, .int a6] [(0, .ref (base + 0)), (1, .int a1), (2, .int a2), (3, .int a3), (4, .int a4), (5, .int a5), (6, .int a6)] (by decide) (Nat.le_of_ble_eq_true rfl) rfl ?_
  intro p e R s m below meth c C hr hR
  exact w_X10_judged C hr hR σ a1 a2 a3 a4 a5 a6 h
noncomputable def f_X10_film_L57  : Nat → cr_S → Int32 → Int32 → Nat → Int32 → Option (cr_S × Int32)
  | 0, _, _, _, _, _ => none
  | n + 1, σ, x1, x4, x5, x7 =>
    (if (rF σ 1 5) ≤ x7 then some (σ, rF σ 1 5) else chk (kC x5 = 4) (chk (inb x7 6) (Option.bind (f_X3_isOpenNow σ (9 + x7.toNatClampNeg) x1) (fun q13 => chk (kC (9 + x7.toNatClampNeg) = 3) (Option.bind (f_X10_oneIf q13.1 q13.2) (fun q16 => chk (kC (x5 + 1) = 3016) (chk (inb (x4 + x7) 16) (cr_let (sL q16.1 (x5 + 1) (x4 + x7) (Int32.toInt64 q16.2)) (fun s20 => cr_let (x7 + 1) (fun v22 => f_X10_film_L57 n s20 x1 x4 x5 v22))))))))))
set_option maxRecDepth 100000 in
set_option maxHeartbeats 4000000 in
theorem w_X10_film_L57 (C : cr_C p l e R s m args below meth c sfC 97 base D cA cX10_film 8 RX10) (hr : meth.sig.returnType = some .int) (hR : 3 ≤ R.frames ∧ 65 ≤ R.locals) {res : cr_S × Int32}  : ∀ (n : Nat) (σ : cr_S) (x1 : Int32) (x4 : Int32) (x5 : Nat) (x7 : Int32), f_X10_film_L57 n σ x1 x4 x5 x7 = some res → cr_W p l e R s m args below meth c sfC 97 base D cA 8 (MQ below (cr_Qi sfC 97 base D cA res) args s 0 0 (cr_A 97 base)) σ 57 [(0, .ref (base + 0)), (1, .int x1), (4, .int x4), (5, .ref (base + x5)), (7, .int x7)] [] := by
  intro n
  induction n with
  | zero =>
    intro σ x1 x4 x5 x7 h
    cases h
  | succ n ih =>
    intro σ x1 x4 x5 x7 h
    rw [f_X10_film_L57] at h
    refine g_iload (pc' := 59) C dX10_film_57 4 rfl rfl ?_
    refine g_aload_n (pc' := 60) C dX10_film_59 0 rfl rfl ?_
    refine gg_X10_12 (pc' := 63) (o := 0) (r := 1) C rfl rfl dX10_film_60 rfl ?_
    refine gg_X10_58 (pc' := 66) (o := 1) C rfl dX10_film_63 rfl ?_
    refine g_icmp_ge (pc' := 69) (tgt := 104) C dX10_film_66 (by decide) rfl (fun hc => ?_) (fun hc => ?_)
    · rw [if_pos hc] at h
      refine g_aload_n (pc' := 105) C dX10_film_104 0 rfl rfl ?_
      refine gg_X10_12 (pc' := 108) (o := 0) (r := 1) C rfl rfl dX10_film_105 rfl ?_
      refine gg_X10_58 (pc' := 111) (o := 1) C rfl dX10_film_108 rfl ?_
      exact g_iret C hr dX10_film_111 h
    · rw [if_neg hc] at h
      refine g_aload (pc' := 71) C dX10_film_69 3 rfl rfl ?_
      obtain ⟨h11, h⟩ := chk_some h
      refine gg_X10_295 (pc' := 74) (o := x5) (r := x5 + 1) C h11 rfl dX10_film_71 rfl ?_
      refine g_iload (pc' := 76) C dX10_film_74 2 rfl rfl ?_
      refine g_iload (pc' := 78) C dX10_film_76 4 rfl rfl ?_
      refine g_iadd (pc' := 79) C dX10_film_78 rfl ?_
      refine g_aload_n (pc' := 80) C dX10_film_79 0 rfl rfl ?_
      refine gg_X10_12 (pc' := 83) (o := 0) (r := 1) C rfl rfl dX10_film_80 rfl ?_
      refine gg_X10_62 (pc' := 86) (o := 1) (r := 2) C rfl rfl dX10_film_83 rfl ?_
      refine g_iload (pc' := 88) C dX10_film_86 4 rfl rfl ?_
      obtain ⟨h12, h⟩ := chk_some h
      refine g_aald (pc' := 89) C (o := 2) (by decide) rfl (cn := "ClashRocks$Pair") rfl (inb_d h12) dX10_film_88 rfl ?_
      refine g_iload_n (pc' := 90) C dX10_film_89 1 rfl rfl ?_
      obtain ⟨q13, h14, h⟩ := bind_some h
      obtain ⟨h15, h⟩ := chk_some h
      refine g_callVi (pc' := 93) (res := q13) C [.int x1] cY_X3_isOpenNow rfl (o := 9 + x7.toNatClampNeg) (kC_lt h15 (by decide)) (sfC_3 h15) mv_X3_isOpenNow mm_X10_124 ⟨Nat.le_trans (by decide) hR.1, Nat.le_trans (by decide) hR.2⟩ rfl (Nat.le_of_ble_eq_true rfl) rfl dX10_film_90 (c_X3_isOpenNow l base D cA σ (9 + x7.toNatClampNeg) x1 q13 h14) rfl ?_
      obtain ⟨q16, h17, h⟩ := bind_some h
      refine g_callSi (pc' := 96) (res := q16) C [.int q13.2] cY_X10_oneIf mv_X10_oneIf mm_X10_127 ⟨Nat.le_trans (by decide) hR.1, Nat.le_trans (by decide) hR.2⟩ rfl (Nat.le_of_ble_eq_true rfl) rfl dX10_film_93 (c_X10_oneIf l base D cA q13.1 q13.2 q16 h17) rfl ?_
      refine g_i2l (pc' := 97) C dX10_film_96 rfl ?_
      obtain ⟨h18, h⟩ := chk_some h
      obtain ⟨h19, h⟩ := chk_some h
      obtain ⟨s20, e21, h⟩ := let_some h
      refine g_last (pc' := 98) C (o := x5 + 1) (kC_lt h18 (by decide)) (sfC_3016 h18) (inb_d h19) dX10_film_97 rfl e21 ?_
      obtain ⟨v22, e23, h⟩ := let_some h
      refine g_iinc (pc' := 101) (v := v22) (lv' := [(7, .int v22), (0, .ref (base + 0)), (1, .int x1), (4, .int x4), (5, .ref (base + x5))]) C dX10_film_98 4 rfl (by rw [e23]; rfl) (by decide) rfl rfl ?_
      refine g_goto (tgt := 57) C dX10_film_101 (by decide) ?_
      exact g_sub C [1, 2, 3, 4, 0] rfl (ih _ _ _ _ _ h)
noncomputable def f_X10_film (σ : cr_S) (a1 : Int32) (a2 : Int32) (a3 : Int32) (a4 : Int32) : Option (cr_S × Int32) :=
  Option.bind (f_X10_isWithin σ a1 0 99999) (fun q1 => (if q1.2 = 0 then some (q1.1, (-1)) else Option.bind (f_X10_isRow q1.1 a2 a3) (fun q3 => (if q3.2 = 0 then some (q3.1, (-1)) else chk (inb a2 4) (Option.bind (f_X4_refusal q3.1 (89 + 2 * a2.toNatClampNeg) a3 a4 (rF q3.1 1 5)) (fun q6 => chk (kC (89 + 2 * a2.toNatClampNeg) = 4) (cr_let q6.2 (fun v9 => (if v9 = 0 then f_X10_film_L57 cr_fuel q6.1 a1 a4 (89 + 2 * a2.toNatClampNeg) 0 else some (q6.1, v9))))))))))
set_option maxRecDepth 100000 in
set_option maxHeartbeats 4000000 in
theorem w_X10_film (C : cr_C p l e R s m args below meth c sfC 97 base D cA cX10_film 8 RX10) (hr : meth.sig.returnType = some .int) (hR : 3 ≤ R.frames ∧ 65 ≤ R.locals) {res : cr_S × Int32} (σ : cr_S) (a1 : Int32) (a2 : Int32) (a3 : Int32) (a4 : Int32) (h : f_X10_film σ a1 a2 a3 a4 = some res) : cr_W p l e R s m args below meth c sfC 97 base D cA 8 (MQ below (cr_Qi sfC 97 base D cA res) args s 0 0 (cr_A 97 base)) σ 0 [(0, .ref (base + 0)), (1, .int a1), (2, .int a2), (3, .int a3), (4, .int a4)] [] := by
  unfold f_X10_film at h
  refine g_iload_n (pc' := 1) C dX10_film_0 1 rfl rfl ?_
  refine g_iconst (pc' := 2) (v := 0) C dX10_film_1 (by decide) rfl ?_
  refine g_ldc (pc' := 4) (v := 99999) C dX10_film_2 mk_X10_123 rfl ?_
  obtain ⟨q1, h2, h⟩ := bind_some h
  refine g_callSi (pc' := 7) (res := q1) C [.int a1, .int 0, .int 99999] cY_X10_isWithin mv_X10_isWithin mm_X10_54 ⟨Nat.le_trans (by decide) hR.1, Nat.le_trans (by decide) hR.2⟩ rfl (Nat.le_of_ble_eq_true rfl) rfl dX10_film_4 (c_X10_isWithin l base D cA σ a1 0 99999 q1 h2) rfl ?_
  refine g_if_eq (pc' := 10) (tgt := 19) C dX10_film_7 (by decide) rfl (fun hc => ?_) (fun hc => ?_)
  · rw [if_pos hc] at h
    refine g_iconst (pc' := 20) (v := (-1)) C dX10_film_19 (by decide) rfl ?_
    exact g_iret C hr dX10_film_20 h
  · rw [if_neg hc] at h
    refine g_aload_n (pc' := 11) C dX10_film_10 0 rfl rfl ?_
    refine g_iload_n (pc' := 12) C dX10_film_11 2 rfl rfl ?_
    refine g_iload_n (pc' := 13) C dX10_film_12 3 rfl rfl ?_
    obtain ⟨q3, h4, h⟩ := bind_some h
    refine g_callVi (pc' := 16) (res := q3) C [.int a2, .int a3] cY_X10_isRow rfl (o := 0) (by decide) rfl mv_X10_isRow mm_X10_289 ⟨Nat.le_trans (by decide) hR.1, Nat.le_trans (by decide) hR.2⟩ rfl (Nat.le_of_ble_eq_true rfl) rfl dX10_film_13 (c_X10_isRow l base D cA q1.1 a2 a3 q3 h4) rfl ?_
    refine g_if_ne (pc' := 19) (tgt := 21) C dX10_film_16 (by decide) rfl (fun hc => ?_) (fun hc => ?_)
    · rw [if_neg hc] at h
      refine g_aload_n (pc' := 22) C dX10_film_21 0 rfl rfl ?_
      refine gg_X10_49 (pc' := 25) (o := 0) (r := 88) C rfl rfl dX10_film_22 rfl ?_
      refine g_iload_n (pc' := 26) C dX10_film_25 2 rfl rfl ?_
      obtain ⟨h5, h⟩ := chk_some h
      refine g_aald (pc' := 27) C (o := 88) (by decide) rfl (cn := "ClashRocks$Row") rfl (inb_d h5) dX10_film_26 rfl ?_
      refine g_astore (pc' := 29) (lv' := [(5, .ref (base + (89 + 2 * a2.toNatClampNeg))), (0, .ref (base + 0)), (1, .int a1), (2, .int a2), (3, .int a3), (4, .int a4)]) C dX10_film_27 (by decide) rfl rfl ?_
      refine g_aload (pc' := 31) C dX10_film_29 0 rfl rfl ?_
      refine g_iload_n (pc' := 32) C dX10_film_31 4 rfl rfl ?_
      refine g_iload (pc' := 34) C dX10_film_32 5 rfl rfl ?_
      refine g_aload_n (pc' := 35) C dX10_film_34 1 rfl rfl ?_
      refine gg_X10_12 (pc' := 38) (o := 0) (r := 1) C rfl rfl dX10_film_35 rfl ?_
      refine gg_X10_58 (pc' := 41) (o := 1) C rfl dX10_film_38 rfl ?_
      obtain ⟨q6, h7, h⟩ := bind_some h
      obtain ⟨h8, h⟩ := chk_some h
      refine g_callVi (pc' := 44) (res := q6) C [.int a3, .int a4, .int (rF q3.1 1 5)] cY_X4_refusal rfl (o := 89 + 2 * a2.toNatClampNeg) (kC_lt h8 (by decide)) (sfC_4 h8) mv_X4_refusal mm_X10_292 ⟨Nat.le_trans (by decide) hR.1, Nat.le_trans (by decide) hR.2⟩ rfl (Nat.le_of_ble_eq_true rfl) rfl dX10_film_41 (c_X4_refusal l base D cA q3.1 (89 + 2 * a2.toNatClampNeg) a3 a4 (rF q3.1 1 5) q6 h7) rfl ?_
      obtain ⟨v9, e10, h⟩ := let_some h
      refine g_nameI e10 ?_
      refine g_istore (pc' := 46) (lv' := [(6, .int v9), (5, .ref (base + (89 + 2 * a2.toNatClampNeg))), (0, .ref (base + 0)), (1, .int a1), (2, .int a2), (3, .int a3), (4, .int a4)]) C dX10_film_44 (by decide) rfl rfl ?_
      refine g_iload (pc' := 48) C dX10_film_46 0 rfl rfl ?_
      refine g_if_eq (pc' := 51) (tgt := 54) C dX10_film_48 (by decide) rfl (fun hc => ?_) (fun hc => ?_)
      · rw [if_pos hc] at h
        refine g_iconst (pc' := 55) (v := 0) C dX10_film_54 (by decide) rfl ?_
        refine g_istore (pc' := 57) (lv' := [(7, .int 0), (6, .int v9), (5, .ref (base + (89 + 2 * a2.toNatClampNeg))), (0, .ref (base + 0)), (1, .int a1), (2, .int a2), (3, .int a3), (4, .int a4)]) C dX10_film_55 (by decide) rfl rfl ?_
        exact g_sub C [3, 4, 7, 2, 0] rfl (w_X10_film_L57 C hr hR _ _ _ _ _ _ h)
      · rw [if_neg hc] at h
        refine g_iload (pc' := 53) C dX10_film_51 0 rfl rfl ?_
        exact g_iret C hr dX10_film_53 h
    · rw [if_pos hc] at h
      refine g_iconst (pc' := 20) (v := (-1)) C dX10_film_19 (by decide) rfl ?_
      exact g_iret C hr dX10_film_20 h
theorem c_X10_film (l : Launch) (base : Nat) (D : va_G) (cA : Nat → ClassId) (σ : cr_S) (a1 : Int32) (a2 : Int32) (a3 : Int32) (a4 : Int32) (res : cr_S × Int32) (h : f_X10_film σ a1 a2 a3 a4 = some res) : cr_M l yX10_film cX10_film 8 (some .int) 3 65 sfC 97 base D cA [.ref (base + 0), .int a1, .int a2, .int a3, .int a4] σ (cr_Qi sfC 97 base D cA res) := by
  refine cr_enter [.ref (base + 0), .int a1, .int a2, .int a3, .int a4] [(0, .ref (base + 0)), (1, .int a1), (2, .int a2), (3, .int a3), (4, .int a4)] (by decide) (Nat.le_of_ble_eq_true rfl) rfl ?_
  intro p e R s m below meth c C hr hR
  exact w_X10_film C hr hR σ a1 a2 a3 a4 h
noncomputable def f_J7_fill_d0a16_L6  : Nat → cr_S → Nat → Int64 → Int32 → Int32 → Option (cr_S)
  | 0, _, _, _, _, _ => none
  | n + 1, σ, x0, x1, x3, x4 =>
    (if x4 ≤ x3 then some σ else chk (kC x0 = 3016) (chk (inb x3 16) (cr_let (sL σ x0 x3 x1) (fun s4 => cr_let (x3 + 1) (fun v6 => f_J7_fill_d0a16_L6 n s4 x0 x1 v6 x4)))))
set_option maxRecDepth 100000 in
set_option maxHeartbeats 4000000 in
theorem w_J7_fill_d0a16_L6 (C : cr_C p l e R s m args below meth c sfC 97 base D cA cJ7_fill_d0a16 5 RJ7) (hr : meth.sig.returnType = none) (hR : 0 ≤ R.frames ∧ 0 ≤ R.locals) {res : cr_S}  : ∀ (n : Nat) (σ : cr_S) (x0 : Nat) (x1 : Int64) (x3 : Int32) (x4 : Int32), f_J7_fill_d0a16_L6 n σ x0 x1 x3 x4 = some res → cr_W p l e R s m args below meth c sfC 97 base D cA 5 (MQ below (cr_Qv sfC 97 base D cA res) args s 0 0 (cr_A 97 base)) σ 6 [(0, .ref (base + x0)), (1, .long x1), (3, .int x3), (4, .int x4)] [] := by
  intro n
  induction n with
  | zero =>
    intro σ x0 x1 x3 x4 h
    cases h
  | succ n ih =>
    intro σ x0 x1 x3 x4 h
    rw [f_J7_fill_d0a16_L6] at h
    refine g_iload_n (pc' := 7) C dJ7_fill_d0a16_6 2 rfl rfl ?_
    refine g_iload (pc' := 9) C dJ7_fill_d0a16_7 3 rfl rfl ?_
    refine g_icmp_ge (pc' := 12) (tgt := 22) C dJ7_fill_d0a16_9 (by decide) rfl (fun hc => ?_) (fun hc => ?_)
    · rw [if_pos hc] at h
      exact g_vret C hr dJ7_fill_d0a16_22 h
    · rw [if_neg hc] at h
      refine g_aload_n (pc' := 13) C dJ7_fill_d0a16_12 0 rfl rfl ?_
      refine g_iload_n (pc' := 14) C dJ7_fill_d0a16_13 2 rfl rfl ?_
      refine g_lload_n (pc' := 15) C dJ7_fill_d0a16_14 1 rfl rfl ?_
      obtain ⟨h2, h⟩ := chk_some h
      obtain ⟨h3, h⟩ := chk_some h
      obtain ⟨s4, e5, h⟩ := let_some h
      refine g_last (pc' := 16) C (o := x0) (kC_lt h2 (by decide)) (sfC_3016 h2) (inb_d h3) dJ7_fill_d0a16_15 rfl e5 ?_
      obtain ⟨v6, e7, h⟩ := let_some h
      refine g_iinc (pc' := 19) (v := v6) (lv' := [(3, .int v6), (0, .ref (base + x0)), (1, .long x1), (4, .int x4)]) C dJ7_fill_d0a16_16 2 rfl (by rw [e7]; rfl) (by decide) rfl rfl ?_
      refine g_goto (tgt := 6) C dJ7_fill_d0a16_19 (by decide) ?_
      exact g_sub C [1, 2, 0, 3] rfl (ih _ _ _ _ _ h)
noncomputable def f_J7_fill_d0a16 (σ : cr_S) (o0 : Nat) (a1 : Int64) : Option (cr_S) :=
  chk (kC o0 = 3016) (f_J7_fill_d0a16_L6 cr_fuel σ o0 a1 0 16)
set_option maxRecDepth 100000 in
set_option maxHeartbeats 4000000 in
theorem w_J7_fill_d0a16 (C : cr_C p l e R s m args below meth c sfC 97 base D cA cJ7_fill_d0a16 5 RJ7) (hr : meth.sig.returnType = none) (hR : 0 ≤ R.frames ∧ 0 ≤ R.locals) {res : cr_S} (σ : cr_S) (o0 : Nat) (a1 : Int64) (h : f_J7_fill_d0a16 σ o0 a1 = some res) : cr_W p l e R s m args below meth c sfC 97 base D cA 5 (MQ below (cr_Qv sfC 97 base D cA res) args s 0 0 (cr_A 97 base)) σ 0 [(0, .ref (base + o0)), (1, .long a1)] [] := by
  unfold f_J7_fill_d0a16 at h
  refine g_iconst (pc' := 1) (v := 0) C dJ7_fill_d0a16_0 (by decide) rfl ?_
  refine g_istore_n (pc' := 2) (lv' := [(3, .int 0), (0, .ref (base + o0)), (1, .long a1)]) C dJ7_fill_d0a16_1 rfl (by decide) rfl rfl ?_
  refine g_aload_n (pc' := 3) C dJ7_fill_d0a16_2 1 rfl rfl ?_
  obtain ⟨h1, h⟩ := chk_some h
  refine g_alenL (pc' := 4) (v := 16) C (o := o0) (kC_lt h1 (by decide)) (sfC_3016 h1) (by decide) dJ7_fill_d0a16_3 rfl ?_
  refine g_istore (pc' := 6) (lv' := [(4, .int 16), (3, .int 0), (0, .ref (base + o0)), (1, .long a1)]) C dJ7_fill_d0a16_4 (by decide) rfl rfl ?_
  exact g_sub C [2, 3, 1, 0] rfl (w_J7_fill_d0a16_L6 C hr hR _ _ _ _ _ _ h)
theorem c_J7_fill_d0a16 (l : Launch) (base : Nat) (D : va_G) (cA : Nat → ClassId) (σ : cr_S) (o0 : Nat) (a1 : Int64) (res : cr_S) (h : f_J7_fill_d0a16 σ o0 a1 = some res) : cr_M l yJ7_fill_d0a16 cJ7_fill_d0a16 5 none 0 0 sfC 97 base D cA [.ref (base + o0), .long a1] σ (cr_Qv sfC 97 base D cA res) := by
  refine cr_enter [.ref (base + o0), .long a1] [(0, .ref (base + o0)), (1, .long a1)] (by decide) (Nat.le_of_ble_eq_true rfl) rfl ?_
  intro p e R s m below meth c C hr hR
  exact w_J7_fill_d0a16 C hr hR σ o0 a1 h
end

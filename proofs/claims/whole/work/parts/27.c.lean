section
variable {p : Program} {l : Launch} {e : Env} {R : Room} {s : State} {m : MethodId} {args : Array Value} {below : List Frame} {meth : Method} {c : Code} {base : Nat} {D : va_G} {cA : Nat → ClassId}
def f_X9_take_1_28_B60  (σ : cr_S) : Option (cr_S) :=
  cr_let (sF σ 1 7 (rF σ 28 7)) (fun s5 => cr_let (sF s5 1 8 (rF s5 28 8)) (fun s7 => Option.bind (f_X2_take_6_33 s7) (fun q9 => some q9)))
set_option maxRecDepth 100000 in
set_option maxHeartbeats 4000000 in
theorem w_X9_take_1_28_B60 (C : cr_C p l e R s m args below meth c sfC 97 base D cA cX9_take 3 RX9) (hr : meth.sig.returnType = none) (hR : 3 ≤ R.frames ∧ 70 ≤ R.locals) {res : cr_S}  (σ : cr_S) (h : f_X9_take_1_28_B60 σ = some res) : cr_W p l e R s m args below meth c sfC 97 base D cA 3 (MQ below (cr_Qv sfC 97 base D cA res) args s 0 0 (cr_A 97 base)) σ 60 [(0, .ref (base + 1)), (1, .ref (base + 28))] [] := by
  unfold f_X9_take_1_28_B60 at h
  refine g_aload_n (pc' := 61) C dX9_take_60 0 rfl rfl ?_
  refine g_aload_n (pc' := 62) C dX9_take_61 1 rfl rfl ?_
  refine gg_X9_61 (pc' := 65) (o := 28) C rfl dX9_take_62 rfl ?_
  obtain ⟨s5, e6, h⟩ := let_some h
  refine gp_X9_61 (pc' := 68) (o := 1) C rfl dX9_take_65 rfl e6 ?_
  refine g_aload_n (pc' := 69) C dX9_take_68 0 rfl rfl ?_
  refine g_aload_n (pc' := 70) C dX9_take_69 1 rfl rfl ?_
  refine gg_X9_41 (pc' := 73) (o := 28) C rfl dX9_take_70 rfl ?_
  obtain ⟨s7, e8, h⟩ := let_some h
  refine gp_X9_41 (pc' := 76) (o := 1) C rfl dX9_take_73 rfl e8 ?_
  refine g_aload_n (pc' := 77) C dX9_take_76 0 rfl rfl ?_
  refine gg_X9_37 (pc' := 80) (o := 1) (r := 6) C rfl rfl dX9_take_77 rfl ?_
  refine g_aload_n (pc' := 81) C dX9_take_80 1 rfl rfl ?_
  refine gg_X9_37 (pc' := 84) (o := 28) (r := 33) C rfl rfl dX9_take_81 rfl ?_
  obtain ⟨q9, h10, h⟩ := bind_some h
  refine g_callVv (pc' := 87) (res := q9) C [.ref (base + 33)] cY_X2_take rfl (o := 6) (by decide) rfl mv_X2_take mm_X9_64 ⟨Nat.le_trans (by decide) hR.1, Nat.le_trans (by decide) hR.2⟩ rfl (Nat.le_of_ble_eq_true rfl) rfl dX9_take_84 (c_X2_take_6_33 l base D cA s7 q9 h10) rfl ?_
  exact g_vret C hr dX9_take_87 h
def f_X9_take_1_28_L33  : Nat → cr_S → Int32 → Option (cr_S)
  | 0, _, _ => none
  | n + 1, σ, x2 =>
    (if 8 ≤ x2 then f_X9_take_1_28_B60 σ else chk (inb x2 8) (chk (inb x2 8) (Option.bind (f_X8_take σ (20 + x2.toNatClampNeg) (47 + x2.toNatClampNeg)) (fun q13 => chk (kC (20 + x2.toNatClampNeg) = 8) (cr_let (x2 + 1) (fun v16 => f_X9_take_1_28_L33 n q13 v16))))))
set_option maxRecDepth 100000 in
set_option maxHeartbeats 4000000 in
theorem w_X9_take_1_28_L33 (C : cr_C p l e R s m args below meth c sfC 97 base D cA cX9_take 3 RX9) (hr : meth.sig.returnType = none) (hR : 3 ≤ R.frames ∧ 70 ≤ R.locals) {res : cr_S}  : ∀ (n : Nat) (σ : cr_S) (x2 : Int32), f_X9_take_1_28_L33 n σ x2 = some res → cr_W p l e R s m args below meth c sfC 97 base D cA 3 (MQ below (cr_Qv sfC 97 base D cA res) args s 0 0 (cr_A 97 base)) σ 33 [(0, .ref (base + 1)), (1, .ref (base + 28)), (2, .int x2)] [] := by
  intro n
  induction n with
  | zero =>
    intro σ x2 h
    cases h
  | succ n ih =>
    intro σ x2 h
    rw [f_X9_take_1_28_L33] at h
    refine g_iload_n (pc' := 34) C dX9_take_33 2 rfl rfl ?_
    refine g_bipush (pc' := 36) (v := 8) C dX9_take_34 (by decide) rfl ?_
    refine g_icmp_ge (pc' := 39) (tgt := 60) C dX9_take_36 (by decide) rfl (fun hc => ?_) (fun hc => ?_)
    · rw [if_pos hc] at h
      exact g_sub C [0, 1] rfl (w_X9_take_1_28_B60 C hr hR _ h)
    · rw [if_neg hc] at h
      refine g_aload_n (pc' := 40) C dX9_take_39 0 rfl rfl ?_
      refine gg_X9_30 (pc' := 43) (o := 1) (r := 5) C rfl rfl dX9_take_40 rfl ?_
      refine g_iload_n (pc' := 44) C dX9_take_43 2 rfl rfl ?_
      obtain ⟨h11, h⟩ := chk_some h
      refine g_aald (pc' := 45) C (o := 5) (by decide) rfl (cn := "ClashRocks$Voyage") rfl h11 dX9_take_44 rfl ?_
      refine g_aload_n (pc' := 46) C dX9_take_45 1 rfl rfl ?_
      refine gg_X9_30 (pc' := 49) (o := 28) (r := 32) C rfl rfl dX9_take_46 rfl ?_
      refine g_iload_n (pc' := 50) C dX9_take_49 2 rfl rfl ?_
      obtain ⟨h12, h⟩ := chk_some h
      refine g_aald (pc' := 51) C (o := 32) (by decide) rfl (cn := "ClashRocks$Voyage") rfl h12 dX9_take_50 rfl ?_
      obtain ⟨q13, h14, h⟩ := bind_some h
      obtain ⟨h15, h⟩ := chk_some h
      refine g_callVv (pc' := 54) (res := q13) C [.ref (base + (47 + x2.toNatClampNeg))] cY_X8_take rfl (o := 20 + x2.toNatClampNeg) (kC_lt h15 (by decide)) (sfC_8 h15) mv_X8_take mm_X9_57 ⟨Nat.le_trans (by decide) hR.1, Nat.le_trans (by decide) hR.2⟩ rfl (Nat.le_of_ble_eq_true rfl) rfl dX9_take_51 (c_X8_take l base D cA σ (20 + x2.toNatClampNeg) (47 + x2.toNatClampNeg) q13 h14) rfl ?_
      obtain ⟨v16, e17, h⟩ := let_some h
      refine g_iinc (pc' := 57) (v := v16) (lv' := [(2, .int v16), (0, .ref (base + 1)), (1, .ref (base + 28))]) C dX9_take_54 2 rfl (by rw [e17]; rfl) (by decide) rfl rfl ?_
      refine g_goto (tgt := 33) C dX9_take_57 (by decide) ?_
      exact g_sub C [1, 2, 0] rfl (ih _ _ h)
def f_X9_take_1_28 (σ : cr_S) : Option (cr_S) :=
  Option.bind (f_X9_takePairsAndShips_1_29_30 σ (rF σ 28 5) (rF σ 28 6)) (fun q1 => Option.bind (f_X8_take q1 4 31) (fun q3 => f_X9_take_1_28_L33 cr_fuel q3 0))
set_option maxRecDepth 100000 in
set_option maxHeartbeats 4000000 in
theorem w_X9_take_1_28 (C : cr_C p l e R s m args below meth c sfC 97 base D cA cX9_take 3 RX9) (hr : meth.sig.returnType = none) (hR : 3 ≤ R.frames ∧ 70 ≤ R.locals) {res : cr_S} (σ : cr_S) (h : f_X9_take_1_28 σ = some res) : cr_W p l e R s m args below meth c sfC 97 base D cA 3 (MQ below (cr_Qv sfC 97 base D cA res) args s 0 0 (cr_A 97 base)) σ 0 [(0, .ref (base + 1)), (1, .ref (base + 28))] [] := by
  unfold f_X9_take_1_28 at h
  refine g_aload_n (pc' := 1) C dX9_take_0 0 rfl rfl ?_
  refine g_aload_n (pc' := 2) C dX9_take_1 1 rfl rfl ?_
  refine gg_X9_11 (pc' := 5) (o := 28) (r := 29) C rfl rfl dX9_take_2 rfl ?_
  refine g_aload_n (pc' := 6) C dX9_take_5 1 rfl rfl ?_
  refine gg_X9_47 (pc' := 9) (o := 28) C rfl dX9_take_6 rfl ?_
  refine g_aload_n (pc' := 10) C dX9_take_9 1 rfl rfl ?_
  refine gg_X9_19 (pc' := 13) (o := 28) (r := 30) C rfl rfl dX9_take_10 rfl ?_
  refine g_aload_n (pc' := 14) C dX9_take_13 1 rfl rfl ?_
  refine gg_X9_50 (pc' := 17) (o := 28) C rfl dX9_take_14 rfl ?_
  obtain ⟨q1, h2, h⟩ := bind_some h
  refine g_callVv (pc' := 20) (res := q1) C [.ref (base + 29), .int (rF σ 28 5), .ref (base + 30), .int (rF σ 28 6)] cY_X9_takePairsAndShips rfl (o := 1) (by decide) rfl mv_X9_takePairsAndShips mm_X9_53 ⟨Nat.le_trans (by decide) hR.1, Nat.le_trans (by decide) hR.2⟩ rfl (Nat.le_of_ble_eq_true rfl) rfl dX9_take_17 (c_X9_takePairsAndShips_1_29_30 l base D cA σ (rF σ 28 5) (rF σ 28 6) q1 h2) rfl ?_
  refine g_aload_n (pc' := 21) C dX9_take_20 0 rfl rfl ?_
  refine gg_X9_26 (pc' := 24) (o := 1) (r := 4) C rfl rfl dX9_take_21 rfl ?_
  refine g_aload_n (pc' := 25) C dX9_take_24 1 rfl rfl ?_
  refine gg_X9_26 (pc' := 28) (o := 28) (r := 31) C rfl rfl dX9_take_25 rfl ?_
  obtain ⟨q3, h4, h⟩ := bind_some h
  refine g_callVv (pc' := 31) (res := q3) C [.ref (base + 31)] cY_X8_take rfl (o := 4) (by decide) rfl mv_X8_take mm_X9_57 ⟨Nat.le_trans (by decide) hR.1, Nat.le_trans (by decide) hR.2⟩ rfl (Nat.le_of_ble_eq_true rfl) rfl dX9_take_28 (c_X8_take l base D cA q1 4 31 q3 h4) rfl ?_
  refine g_iconst (pc' := 32) (v := 0) C dX9_take_31 (by decide) rfl ?_
  refine g_istore_n (pc' := 33) (lv' := [(2, .int 0), (0, .ref (base + 1)), (1, .ref (base + 28))]) C dX9_take_32 rfl (by decide) rfl rfl ?_
  exact g_sub C [1, 2, 0] rfl (w_X9_take_1_28_L33 C hr hR _ _ _ h)
theorem c_X9_take_1_28 (l : Launch) (base : Nat) (D : va_G) (cA : Nat → ClassId) (σ : cr_S) (res : cr_S) (h : f_X9_take_1_28 σ = some res) : cr_M l yX9_take cX9_take 3 none 3 70 sfC 97 base D cA [.ref (base + 1), .ref (base + 28)] σ (cr_Qv sfC 97 base D cA res) := by
  refine cr_enter [.ref (base + 1), .ref (base + 28)] [(0, .ref (base + 1)), (1, .ref (base + 28))] (by decide) (Nat.le_of_ble_eq_true rfl) rfl ?_
  intro p e R s m below meth c C hr hR
  exact w_X9_take_1_28 C hr hR σ h
def f_X10_restore (σ : cr_S) : Option (cr_S × Int32) :=
  (if (rF σ 0 2) = 0 then some (σ, (-4)) else Option.bind (f_X9_take_1_28 σ) (fun q1 => some (q1, 1)))
set_option maxRecDepth 100000 in
set_option maxHeartbeats 4000000 in
theorem w_X10_restore (C : cr_C p l e R s m args below meth c sfC 97 base D cA cX10_restore 1 RX10) (hr : meth.sig.returnType = some .int) (hR : 4 ≤ R.frames ∧ 92 ≤ R.locals) {res : cr_S × Int32} (σ : cr_S) (h : f_X10_restore σ = some res) : cr_W p l e R s m args below meth c sfC 97 base D cA 1 (MQ below (cr_Qi sfC 97 base D cA res) args s 0 0 (cr_A 97 base)) σ 0 [(0, .ref (base + 0))] [] := by
  unfold f_X10_restore at h
  refine g_aload_n (pc' := 1) C dX10_restore_0 0 rfl rfl ?_
  refine gg_X10_282 (pc' := 4) (o := 0) C rfl dX10_restore_1 rfl ?_
  refine g_if_ne (pc' := 7) (tgt := 10) C dX10_restore_4 (by decide) rfl (fun hc => ?_) (fun hc => ?_)
  · rw [if_neg hc] at h
    refine g_aload_n (pc' := 11) C dX10_restore_10 0 rfl rfl ?_
    refine gg_X10_12 (pc' := 14) (o := 0) (r := 1) C rfl rfl dX10_restore_11 rfl ?_
    refine g_aload_n (pc' := 15) C dX10_restore_14 0 rfl rfl ?_
    refine gg_X10_16 (pc' := 18) (o := 0) (r := 28) C rfl rfl dX10_restore_15 rfl ?_
    obtain ⟨q1, h2, h⟩ := bind_some h
    refine g_callVv (pc' := 21) (res := q1) C [.ref (base + 28)] cY_X9_take rfl (o := 1) (by decide) rfl mv_X9_take mm_X10_278 ⟨Nat.le_trans (by decide) hR.1, Nat.le_trans (by decide) hR.2⟩ rfl (Nat.le_of_ble_eq_true rfl) rfl dX10_restore_18 (c_X9_take_1_28 l base D cA σ q1 h2) rfl ?_
    refine g_iconst (pc' := 22) (v := 1) C dX10_restore_21 (by decide) rfl ?_
    exact g_iret C hr dX10_restore_22 h
  · rw [if_pos hc] at h
    refine g_bipush (pc' := 9) (v := (-4)) C dX10_restore_7 (by decide) rfl ?_
    exact g_iret C hr dX10_restore_9 h
theorem c_X10_restore (l : Launch) (base : Nat) (D : va_G) (cA : Nat → ClassId) (σ : cr_S) (res : cr_S × Int32) (h : f_X10_restore σ = some res) : cr_M l yX10_restore cX10_restore 1 (some .int) 4 92 sfC 97 base D cA [.ref (base + 0)] σ (cr_Qi sfC 97 base D cA res) := by
  refine cr_enter [.ref (base + 0)] [(0, .ref (base + 0))] (by decide) (Nat.le_of_ble_eq_true rfl) rfl ?_
  intro p e R s m below meth c C hr hR
  exact w_X10_restore C hr hR σ h
def f_X10_isRow (σ : cr_S) (a1 : Int32) (a2 : Int32) : Option (cr_S × Int32) :=
  Option.bind (f_X10_isWithin σ a1 0 3) (fun q1 => (if q1.2 = 0 then some (q1.1, 0) else Option.bind (f_X10_isWithin q1.1 a2 0 3) (fun q3 => (if q3.2 = 0 then some (q3.1, 0) else some (q3.1, 1)))))
set_option maxRecDepth 100000 in
set_option maxHeartbeats 4000000 in
theorem w_X10_isRow (C : cr_C p l e R s m args below meth c sfC 97 base D cA cX10_isRow 3 RX10) (hr : meth.sig.returnType = some .boolean) (hR : 1 ≤ R.frames ∧ 22 ≤ R.locals) {res : cr_S × Int32} (σ : cr_S) (a1 : Int32) (a2 : Int32) (h : f_X10_isRow σ a1 a2 = some res) : cr_W p l e R s m args below meth c sfC 97 base D cA 3 (MQ below (cr_Qi sfC 97 base D cA res) args s 0 0 (cr_A 97 base)) σ 0 [(0, .ref (base + 0)), (1, .int a1), (2, .int a2)] [] := by
  unfold f_X10_isRow at h
  refine g_iload_n (pc' := 1) C dX10_isRow_0 1 rfl rfl ?_
  refine g_iconst (pc' := 2) (v := 0) C dX10_isRow_1 (by decide) rfl ?_
  refine g_iconst (pc' := 3) (v := 3) C dX10_isRow_2 (by decide) rfl ?_
  obtain ⟨q1, h2, h⟩ := bind_some h
  refine g_callSi (pc' := 6) (res := q1) C [.int a1, .int 0, .int 3] cY_X10_isWithin mv_X10_isWithin mm_X10_54 ⟨Nat.le_trans (by decide) hR.1, Nat.le_trans (by decide) hR.2⟩ rfl (Nat.le_of_ble_eq_true rfl) rfl dX10_isRow_3 (c_X10_isWithin l base D cA σ a1 0 3 q1 h2) rfl ?_
  refine g_if_eq (pc' := 9) (tgt := 22) C dX10_isRow_6 (by decide) rfl (fun hc => ?_) (fun hc => ?_)
  · rw [if_pos hc] at h
    refine g_iconst (pc' := 23) (v := 0) C dX10_isRow_22 (by decide) rfl ?_
    exact g_zret C hr rfl dX10_isRow_23 h
  · rw [if_neg hc] at h
    refine g_iload_n (pc' := 10) C dX10_isRow_9 2 rfl rfl ?_
    refine g_iconst (pc' := 11) (v := 0) C dX10_isRow_10 (by decide) rfl ?_
    refine g_iconst (pc' := 12) (v := 3) C dX10_isRow_11 (by decide) rfl ?_
    obtain ⟨q3, h4, h⟩ := bind_some h
    refine g_callSi (pc' := 15) (res := q3) C [.int a2, .int 0, .int 3] cY_X10_isWithin mv_X10_isWithin mm_X10_54 ⟨Nat.le_trans (by decide) hR.1, Nat.le_trans (by decide) hR.2⟩ rfl (Nat.le_of_ble_eq_true rfl) rfl dX10_isRow_12 (c_X10_isWithin l base D cA q1.1 a2 0 3 q3 h4) rfl ?_
    refine g_if_eq (pc' := 18) (tgt := 22) C dX10_isRow_15 (by decide) rfl (fun hc => ?_) (fun hc => ?_)
    · rw [if_pos hc] at h
      refine g_iconst (pc' := 23) (v := 0) C dX10_isRow_22 (by decide) rfl ?_
      exact g_zret C hr rfl dX10_isRow_23 h
    · rw [if_neg hc] at h
      refine g_iconst (pc' := 19) (v := 1) C dX10_isRow_18 (by decide) rfl ?_
      refine g_goto (tgt := 23) C dX10_isRow_19 (by decide) ?_
      exact g_zret C hr rfl dX10_isRow_23 h
theorem c_X10_isRow (l : Launch) (base : Nat) (D : va_G) (cA : Nat → ClassId) (σ : cr_S) (a1 : Int32) (a2 : Int32) (res : cr_S × Int32) (h : f_X10_isRow σ a1 a2 = some res) : cr_M l yX10_isRow cX10_isRow 3 (some .boolean) 1 22 sfC 97 base D cA [.ref (base + 0), .int a1, .int a2] σ (cr_Qi sfC 97 base D cA res) := by
  refine cr_enter [.ref (base + 0), .int a1, .int a2] [(0, .ref (base + 0)), (1, .int a1), (2, .int a2)] (by decide) (Nat.le_of_ble_eq_true rfl) rfl ?_
  intro p e R s m below meth c C hr hR
  exact w_X10_isRow C hr hR σ a1 a2 h
def f_X4_hasItems (σ : cr_S) (o0 : Nat) (a1 : Int32) (a2 : Int32) : Option (cr_S × Int32) :=
  (if a1 < 0 then some (σ, 0) else (if a2 < 0 then some (σ, 0) else chk (kC o0 = 4) ((if ((rF σ o0 3) - a2) < a1 then some (σ, 0) else some (σ, 1)))))
set_option maxRecDepth 100000 in
set_option maxHeartbeats 4000000 in
theorem w_X4_hasItems (C : cr_C p l e R s m args below meth c sfC 97 base D cA cX4_hasItems 3 RX4) (hr : meth.sig.returnType = some .boolean) (hR : 0 ≤ R.frames ∧ 0 ≤ R.locals) {res : cr_S × Int32} (σ : cr_S) (o0 : Nat) (a1 : Int32) (a2 : Int32) (h : f_X4_hasItems σ o0 a1 a2 = some res) : cr_W p l e R s m args below meth c sfC 97 base D cA 3 (MQ below (cr_Qi sfC 97 base D cA res) args s 0 0 (cr_A 97 base)) σ 0 [(0, .ref (base + o0)), (1, .int a1), (2, .int a2)] [] := by
  unfold f_X4_hasItems at h
  refine g_iload_n (pc' := 1) C dX4_hasItems_0 1 rfl rfl ?_
  refine g_if_lt (pc' := 4) (tgt := 22) C dX4_hasItems_1 (by decide) rfl (fun hc => ?_) (fun hc => ?_)
  · rw [if_pos hc] at h
    refine g_iconst (pc' := 23) (v := 0) C dX4_hasItems_22 (by decide) rfl ?_
    exact g_zret C hr rfl dX4_hasItems_23 h
  · rw [if_neg hc] at h
    refine g_iload_n (pc' := 5) C dX4_hasItems_4 2 rfl rfl ?_
    refine g_if_lt (pc' := 8) (tgt := 22) C dX4_hasItems_5 (by decide) rfl (fun hc => ?_) (fun hc => ?_)
    · rw [if_pos hc] at h
      refine g_iconst (pc' := 23) (v := 0) C dX4_hasItems_22 (by decide) rfl ?_
      exact g_zret C hr rfl dX4_hasItems_23 h
    · rw [if_neg hc] at h
      refine g_iload_n (pc' := 9) C dX4_hasItems_8 1 rfl rfl ?_
      refine g_aload_n (pc' := 10) C dX4_hasItems_9 0 rfl rfl ?_
      obtain ⟨h1, h⟩ := chk_some h
      refine gg_X4_23 (pc' := 13) (o := o0) C h1 dX4_hasItems_10 rfl ?_
      refine g_iload_n (pc' := 14) C dX4_hasItems_13 2 rfl rfl ?_
      refine g_isub (pc' := 15) C dX4_hasItems_14 rfl ?_
      refine g_icmp_gt (pc' := 18) (tgt := 22) C dX4_hasItems_15 (by decide) rfl (fun hc => ?_) (fun hc => ?_)
      · rw [if_pos hc] at h
        refine g_iconst (pc' := 23) (v := 0) C dX4_hasItems_22 (by decide) rfl ?_
        exact g_zret C hr rfl dX4_hasItems_23 h
      · rw [if_neg hc] at h
        refine g_iconst (pc' := 19) (v := 1) C dX4_hasItems_18 (by decide) rfl ?_
        refine g_goto (tgt := 23) C dX4_hasItems_19 (by decide) ?_
        exact g_zret C hr rfl dX4_hasItems_23 h
theorem c_X4_hasItems (l : Launch) (base : Nat) (D : va_G) (cA : Nat → ClassId) (σ : cr_S) (o0 : Nat) (a1 : Int32) (a2 : Int32) (res : cr_S × Int32) (h : f_X4_hasItems σ o0 a1 a2 = some res) : cr_M l yX4_hasItems cX4_hasItems 3 (some .boolean) 0 0 sfC 97 base D cA [.ref (base + o0), .int a1, .int a2] σ (cr_Qi sfC 97 base D cA res) := by
  refine cr_enter [.ref (base + o0), .int a1, .int a2] [(0, .ref (base + o0)), (1, .int a1), (2, .int a2)] (by decide) (Nat.le_of_ble_eq_true rfl) rfl ?_
  intro p e R s m below meth c C hr hR
  exact w_X4_hasItems C hr hR σ o0 a1 a2 h
def f_X4_refusal (σ : cr_S) (o0 : Nat) (a1 : Int32) (a2 : Int32) (a3 : Int32) : Option (cr_S × Int32) :=
  chk (kC o0 = 4) ((if (rF σ o0 1) = 0 then some (σ, (-11)) else chk (kC o0 = 4) ((if (rF σ o0 2) = a1 then Option.bind (f_X4_hasItems σ o0 a2 a3) (fun q3 => chk (kC o0 = 4) (some (q3.1, if q3.2 = 0 then (-13) else 0))) else some (σ, (-12))))))
set_option maxRecDepth 100000 in
set_option maxHeartbeats 4000000 in
theorem w_X4_refusal (C : cr_C p l e R s m args below meth c sfC 97 base D cA cX4_refusal 4 RX4) (hr : meth.sig.returnType = some .int) (hR : 1 ≤ R.frames ∧ 22 ≤ R.locals) {res : cr_S × Int32} (σ : cr_S) (o0 : Nat) (a1 : Int32) (a2 : Int32) (a3 : Int32) (h : f_X4_refusal σ o0 a1 a2 a3 = some res) : cr_W p l e R s m args below meth c sfC 97 base D cA 4 (MQ below (cr_Qi sfC 97 base D cA res) args s 0 0 (cr_A 97 base)) σ 0 [(0, .ref (base + o0)), (1, .int a1), (2, .int a2), (3, .int a3)] [] := by
  unfold f_X4_refusal at h
  refine g_aload_n (pc' := 1) C dX4_refusal_0 0 rfl rfl ?_
  obtain ⟨h1, h⟩ := chk_some h
  refine gg_X4_15 (pc' := 4) (o := o0) C h1 dX4_refusal_1 rfl ?_
  refine g_if_ne (pc' := 7) (tgt := 10) C dX4_refusal_4 (by decide) rfl (fun hc => ?_) (fun hc => ?_)
  · rw [if_neg hc] at h
    refine g_aload_n (pc' := 11) C dX4_refusal_10 0 rfl rfl ?_
    obtain ⟨h2, h⟩ := chk_some h
    refine gg_X4_19 (pc' := 14) (o := o0) C h2 dX4_refusal_11 rfl ?_
    refine g_iload_n (pc' := 15) C dX4_refusal_14 1 rfl rfl ?_
    refine g_icmp_eq (pc' := 18) (tgt := 21) C dX4_refusal_15 (by decide) rfl (fun hc => ?_) (fun hc => ?_)
    · rw [if_pos hc] at h
      refine g_aload_n (pc' := 22) C dX4_refusal_21 0 rfl rfl ?_
      refine g_iload_n (pc' := 23) C dX4_refusal_22 2 rfl rfl ?_
      refine g_iload_n (pc' := 24) C dX4_refusal_23 3 rfl rfl ?_
      obtain ⟨q3, h4, h⟩ := bind_some h
      obtain ⟨h5, h⟩ := chk_some h
      refine g_callVi (pc' := 27) (res := q3) C [.int a2, .int a3] cY_X4_hasItems rfl (o := o0) (kC_lt h5 (by decide)) (sfC_4 h5) mv_X4_hasItems mm_X4_32 ⟨Nat.le_trans (by decide) hR.1, Nat.le_trans (by decide) hR.2⟩ rfl (Nat.le_of_ble_eq_true rfl) rfl dX4_refusal_24 (c_X4_hasItems l base D cA σ o0 a2 a3 q3 h4) rfl ?_
      refine g_iteI (σ := q3.1) (pj := 36) (lv := [(0, .ref (base + o0)), (1, .int a1), (2, .int a2), (3, .int a3)]) (st := []) (cd := q3.2 = 0) (a := (-13)) (b := 0) C ?_ (fun kt kf => ?_)
      · exact g_iret C hr dX4_refusal_36 h
      · refine g_if_eq (pc' := 30) (tgt := 34) C dX4_refusal_27 (by decide) rfl (fun hc => ?_) (fun hc => ?_)
        · refine g_bipush (pc' := 36) (v := (-13)) C dX4_refusal_34 (by decide) rfl ?_
          exact kt hc
        · refine g_iconst (pc' := 31) (v := 0) C dX4_refusal_30 (by decide) rfl ?_
          refine g_goto (tgt := 36) C dX4_refusal_31 (by decide) ?_
          exact kf hc
    · rw [if_neg hc] at h
      refine g_bipush (pc' := 20) (v := (-12)) C dX4_refusal_18 (by decide) rfl ?_
      exact g_iret C hr dX4_refusal_20 h
  · rw [if_pos hc] at h
    refine g_bipush (pc' := 9) (v := (-11)) C dX4_refusal_7 (by decide) rfl ?_
    exact g_iret C hr dX4_refusal_9 h
theorem c_X4_refusal (l : Launch) (base : Nat) (D : va_G) (cA : Nat → ClassId) (σ : cr_S) (o0 : Nat) (a1 : Int32) (a2 : Int32) (a3 : Int32) (res : cr_S × Int32) (h : f_X4_refusal σ o0 a1 a2 a3 = some res) : cr_M l yX4_refusal cX4_refusal 4 (some .int) 1 22 sfC 97 base D cA [.ref (base + o0), .int a1, .int a2, .int a3] σ (cr_Qi sfC 97 base D cA res) := by
  refine cr_enter [.ref (base + o0), .int a1, .int a2, .int a3] [(0, .ref (base + o0)), (1, .int a1), (2, .int a2), (3, .int a3)] (by decide) (Nat.le_of_ble_eq_true rfl) rfl ?_
  intro p e R s m below meth c C hr hR
  exact w_X4_refusal C hr hR σ o0 a1 a2 a3 h
def f_X10_judged_B150  (σ : cr_S) (x2 : Int32) (x6 : Int32) (x9 : Nat) : Option (cr_S × Int32) :=
  Option.bind (f_X0_go_70_1 σ x9 x2) (fun q14 => Option.bind (f_X0_judgement_70 q14 x6) (fun q16 => some (q16.1, q16.2)))
set_option maxRecDepth 100000 in
set_option maxHeartbeats 4000000 in
theorem w_X10_judged_B150 (C : cr_C p l e R s m args below meth c sfC 97 base D cA cX10_judged 13 RX10) (hr : meth.sig.returnType = some .int) (hR : 5 ≤ R.frames ∧ 120 ≤ R.locals) {res : cr_S × Int32}  (σ : cr_S) (x2 : Int32) (x6 : Int32) (x9 : Nat) (h : f_X10_judged_B150 σ x2 x6 x9 = some res) : cr_W p l e R s m args below meth c sfC 97 base D cA 13 (MQ below (cr_Qi sfC 97 base D cA res) args s 0 0 (cr_A 97 base)) σ 150 [(0, .ref (base + 0)), (2, .int x2), (6, .int x6), (9, .ref (base + x9))] [] := by
  unfold f_X10_judged_B150 at h
  refine g_aload_n (pc' := 151) C dX10_judged_150 0 rfl rfl ?_
  refine gg_X10_29 (pc' := 154) (o := 0) (r := 70) C rfl rfl dX10_judged_151 rfl ?_
  refine g_aload_n (pc' := 155) C dX10_judged_154 0 rfl rfl ?_
  refine gg_X10_12 (pc' := 158) (o := 0) (r := 1) C rfl rfl dX10_judged_155 rfl ?_
  refine g_aload (pc' := 160) C dX10_judged_158 3 rfl rfl ?_
  refine g_iload_n (pc' := 161) C dX10_judged_160 1 rfl rfl ?_
  obtain ⟨q14, h15, h⟩ := bind_some h
  refine g_callVv (pc' := 164) (res := q14) C [.ref (base + 1), .ref (base + x9), .int x2] cY_X0_go rfl (o := 70) (by decide) rfl mv_X0_go mm_X10_297 ⟨Nat.le_trans (by decide) hR.1, Nat.le_trans (by decide) hR.2⟩ rfl (Nat.le_of_ble_eq_true rfl) rfl dX10_judged_161 (c_X0_go_70_1 l base D cA σ x9 x2 q14 h15) rfl ?_
  refine g_aload_n (pc' := 165) C dX10_judged_164 0 rfl rfl ?_
  refine gg_X10_29 (pc' := 168) (o := 0) (r := 70) C rfl rfl dX10_judged_165 rfl ?_
  refine g_iload (pc' := 170) C dX10_judged_168 2 rfl rfl ?_
  obtain ⟨q16, h17, h⟩ := bind_some h
  refine g_callVi (pc' := 173) (res := q16) C [.int x6] cY_X0_judgement rfl (o := 70) (by decide) rfl mv_X0_judgement mm_X10_225 ⟨Nat.le_trans (by decide) hR.1, Nat.le_trans (by decide) hR.2⟩ rfl (Nat.le_of_ble_eq_true rfl) rfl dX10_judged_170 (c_X0_judgement_70 l base D cA q14 x6 q16 h17) rfl ?_
  exact g_iret C hr dX10_judged_173 h
def f_X10_judged_L79  : Nat → cr_S → Int32 → Int32 → Int32 → Nat → Nat → Int32 → Option (cr_S × Int32)
  | 0, _, _, _, _, _, _, _ => none
  | n + 1, σ, x2, x5, x6, x7, x9, x10 =>
    (if (rF σ 1 5) ≤ x10 then f_X10_judged_B150 σ x2 x6 x9 else chk (kC x7 = 4) (chk (kC (x7 + 1) = 3016) (chk (inb (x5 + x10) 16) (cr_let (rL σ (x7 + 1) (x5 + x10)) (fun v21 => Option.bind (f_X6_low σ x9) (fun q23 => chk (kC x9 = 6) ((if (lg_cmp v21 (Int32.toInt64 q23.2)) < 0 then some (q23.1, (-2)) else Option.bind (f_X6_high q23.1 x9) (fun q26 => chk (kC x9 = 6) ((if (lg_cmp v21 (Int32.toInt64 q26.2)) ≤ 0 then chk (inb x10 6) (cr_let (sA q26.1 71 x10 (Int64.toInt32 v21)) (fun s30 => cr_let (x10 + 1) (fun v32 => f_X10_judged_L79 n s30 x2 x5 x6 x7 x9 v32))) else some (q26.1, (-2)))))))))))))
set_option maxRecDepth 100000 in
set_option maxHeartbeats 4000000 in
theorem w_X10_judged_L79 (C : cr_C p l e R s m args below meth c sfC 97 base D cA cX10_judged 13 RX10) (hr : meth.sig.returnType = some .int) (hR : 5 ≤ R.frames ∧ 120 ≤ R.locals) {res : cr_S × Int32}  : ∀ (n : Nat) (σ : cr_S) (x2 : Int32) (x5 : Int32) (x6 : Int32) (x7 : Nat) (x9 : Nat) (x10 : Int32), f_X10_judged_L79 n σ x2 x5 x6 x7 x9 x10 = some res → cr_W p l e R s m args below meth c sfC 97 base D cA 13 (MQ below (cr_Qi sfC 97 base D cA res) args s 0 0 (cr_A 97 base)) σ 79 [(0, .ref (base + 0)), (2, .int x2), (5, .int x5), (6, .int x6), (7, .ref (base + x7)), (9, .ref (base + x9)), (10, .int x10)] [] := by
  intro n
  induction n with
  | zero =>
    intro σ x2 x5 x6 x7 x9 x10 h
    cases h
  | succ n ih =>
    intro σ x2 x5 x6 x7 x9 x10 h
    rw [f_X10_judged_L79] at h
    refine g_iload (pc' := 81) C dX10_judged_79 6 rfl rfl ?_
    refine g_aload_n (pc' := 82) C dX10_judged_81 0 rfl rfl ?_
    refine gg_X10_12 (pc' := 85) (o := 0) (r := 1) C rfl rfl dX10_judged_82 rfl ?_
    refine gg_X10_58 (pc' := 88) (o := 1) C rfl dX10_judged_85 rfl ?_
    refine g_icmp_ge (pc' := 91) (tgt := 150) C dX10_judged_88 (by decide) rfl (fun hc => ?_) (fun hc => ?_)
    · rw [if_pos hc] at h
      exact g_sub C [0, 1, 3, 5] rfl (w_X10_judged_B150 C hr hR _ _ _ _ h)
    · rw [if_neg hc] at h
      refine g_aload (pc' := 93) C dX10_judged_91 4 rfl rfl ?_
      obtain ⟨h18, h⟩ := chk_some h
      refine gg_X10_292 (pc' := 96) (o := x7) (r := x7 + 1) C h18 rfl dX10_judged_93 rfl ?_
      refine g_iload (pc' := 98) C dX10_judged_96 2 rfl rfl ?_
      refine g_iload (pc' := 100) C dX10_judged_98 6 rfl rfl ?_
      refine g_iadd (pc' := 101) C dX10_judged_100 rfl ?_
      obtain ⟨h19, h⟩ := chk_some h
      obtain ⟨h20, h⟩ := chk_some h
      refine g_lald (pc' := 102) C (o := x7 + 1) (kC_lt h19 (by decide)) (sfC_3016 h19) h20 dX10_judged_101 rfl ?_
      obtain ⟨v21, e22, h⟩ := let_some h
      refine g_nameL e22 ?_
      refine g_lstore (pc' := 104) (lv' := [(11, .long v21), (0, .ref (base + 0)), (2, .int x2), (5, .int x5), (6, .int x6), (7, .ref (base + x7)), (9, .ref (base + x9)), (10, .int x10)]) C dX10_judged_102 (by decide) rfl rfl ?_
      refine g_lload (pc' := 106) C dX10_judged_104 0 rfl rfl ?_
      refine g_aload (pc' := 108) C dX10_judged_106 6 rfl rfl ?_
      obtain ⟨q23, h24, h⟩ := bind_some h
      obtain ⟨h25, h⟩ := chk_some h
      refine g_callVi (pc' := 111) (res := q23) C [] cY_X6_low rfl (o := x9) (kC_lt h25 (by decide)) (sfC_6 h25) mv_X6_low mm_X10_113 ⟨Nat.le_trans (by decide) hR.1, Nat.le_trans (by decide) hR.2⟩ rfl (Nat.le_of_ble_eq_true rfl) rfl dX10_judged_108 (c_X6_low l base D cA σ x9 q23 h24) rfl ?_
      refine g_i2l (pc' := 112) C dX10_judged_111 rfl ?_
      refine g_lcmp (pc' := 113) C dX10_judged_112 rfl ?_
      refine g_if_lt (pc' := 116) (tgt := 128) C dX10_judged_113 (by decide) rfl (fun hc => ?_) (fun hc => ?_)
      · rw [if_pos hc] at h
        refine g_bipush (pc' := 130) (v := (-2)) C dX10_judged_128 (by decide) rfl ?_
        exact g_iret C hr dX10_judged_130 h
      · rw [if_neg hc] at h
        refine g_lload (pc' := 118) C dX10_judged_116 0 rfl rfl ?_
        refine g_aload (pc' := 120) C dX10_judged_118 6 rfl rfl ?_
        obtain ⟨q26, h27, h⟩ := bind_some h
        obtain ⟨h28, h⟩ := chk_some h
        refine g_callVi (pc' := 123) (res := q26) C [] cY_X6_high rfl (o := x9) (kC_lt h28 (by decide)) (sfC_6 h28) mv_X6_high mm_X10_117 ⟨Nat.le_trans (by decide) hR.1, Nat.le_trans (by decide) hR.2⟩ rfl (Nat.le_of_ble_eq_true rfl) rfl dX10_judged_120 (c_X6_high l base D cA q23.1 x9 q26 h27) rfl ?_
        refine g_i2l (pc' := 124) C dX10_judged_123 rfl ?_
        refine g_lcmp (pc' := 125) C dX10_judged_124 rfl ?_
        refine g_if_le (pc' := 128) (tgt := 131) C dX10_judged_125 (by decide) rfl (fun hc => ?_) (fun hc => ?_)
        · rw [if_pos hc] at h
          refine g_aload_n (pc' := 132) C dX10_judged_131 1 rfl rfl ?_
          refine gg_X10_29 (pc' := 135) (o := 0) (r := 70) C rfl rfl dX10_judged_132 rfl ?_
          refine gg_X10_296 (pc' := 138) (o := 70) (r := 71) C rfl rfl dX10_judged_135 rfl ?_
          refine g_iload (pc' := 140) C dX10_judged_138 7 rfl rfl ?_
          refine g_lload (pc' := 142) C dX10_judged_140 0 rfl rfl ?_
          refine g_l2i (pc' := 143) C dX10_judged_142 rfl ?_
          obtain ⟨h29, h⟩ := chk_some h
          obtain ⟨s30, e31, h⟩ := let_some h
          refine g_iast (pc' := 144) C (o := 71) (by decide) rfl h29 dX10_judged_143 rfl e31 ?_
          obtain ⟨v32, e33, h⟩ := let_some h
          refine g_iinc (pc' := 147) (v := v32) (lv' := [(10, .int v32), (11, .long v21), (0, .ref (base + 0)), (2, .int x2), (5, .int x5), (6, .int x6), (7, .ref (base + x7)), (9, .ref (base + x9))]) C dX10_judged_144 7 rfl (by rw [e33]; rfl) (by decide) rfl rfl ?_
          refine g_goto (tgt := 79) C dX10_judged_147 (by decide) ?_
          exact g_sub C [2, 3, 4, 5, 6, 7, 0] rfl (ih _ _ _ _ _ _ _ h)
        · rw [if_neg hc] at h
          refine g_bipush (pc' := 130) (v := (-2)) C dX10_judged_128 (by decide) rfl ?_
          exact g_iret C hr dX10_judged_130 h
def f_X10_judged (σ : cr_S) (a1 : Int32) (a2 : Int32) (a3 : Int32) (a4 : Int32) (a5 : Int32) (a6 : Int32) : Option (cr_S × Int32) :=
  Option.bind (f_X10_isBegin σ a1 a2) (fun q1 => (if q1.2 = 0 then some (q1.1, (-1)) else Option.bind (f_X10_isRow q1.1 a3 a4) (fun q3 => (if q3.2 = 0 then some (q3.1, (-1)) else Option.bind (f_X10_isWithin q3.1 a6 0 2) (fun q5 => (if q5.2 = 0 then some (q5.1, (-1)) else chk (inb a3 4) (Option.bind (f_X4_refusal q5.1 (89 + 2 * a3.toNatClampNeg) a4 a5 (rF q5.1 1 5)) (fun q8 => chk (kC (89 + 2 * a3.toNatClampNeg) = 4) (cr_let q8.2 (fun v11 => (if v11 = 0 then chk (inb a1 5) (f_X10_judged_L79 cr_fuel q8.1 a2 a5 a6 (89 + 2 * a3.toNatClampNeg) (15 + a1.toNatClampNeg) 0) else some (q8.1, v11))))))))))))
set_option maxRecDepth 100000 in
set_option maxHeartbeats 4000000 in
theorem w_X10_judged (C : cr_C p l e R s m args below meth c sfC 97 base D cA cX10_judged 13 RX10) (hr : meth.sig.returnType = some .int) (hR : 5 ≤ R.frames ∧ 120 ≤ R.locals) {res : cr_S × Int32} (σ : cr_S) (a1 : Int32) (a2 : Int32) (a3 : Int32) (a4 : Int32) (a5 : Int32) (a6 : Int32) (h : f_X10_judged σ a1 a2 a3 a4 a5 a6 = some res) : cr_W p l e R s m args below meth c sfC 97 base D cA 13 (MQ below (cr_Qi sfC 97 base D cA res) args s 0 0 (cr_A 97 base)) σ 0 [(0, .ref (base + 0)), (1, .int a1), (2, .int a2), (3, .int a3), (4, .int a4), (5, .int a5), (6, .int a6)] [] := by
  unfold f_X10_judged at h
  refine g_aload_n (pc' := 1) C dX10_judged_0 0 rfl rfl ?_
  refine g_iload_n (pc' := 2) C dX10_judged_1 1 rfl rfl ?_
  refine g_iload_n (pc' := 3) C dX10_judged_2 2 rfl rfl ?_
  obtain ⟨q1, h2, h⟩ := bind_some h
  refine g_callVi (pc' := 6) (res := q1) C [.int a1, .int a2] cY_X10_isBegin rfl (o := 0) (by decide) rfl mv_X10_isBegin mm_X10_206 ⟨Nat.le_trans (by decide) hR.1, Nat.le_trans (by decide) hR.2⟩ rfl (Nat.le_of_ble_eq_true rfl) rfl dX10_judged_3 (c_X10_isBegin l base D cA σ a1 a2 q1 h2) rfl ?_
  refine g_if_eq (pc' := 9) (tgt := 29) C dX10_judged_6 (by decide) rfl (fun hc => ?_) (fun hc => ?_)
  · rw [if_pos hc] at h
    refine g_iconst (pc' := 30) (v := (-1)) C dX10_judged_29 (by decide) rfl ?_
    exact g_iret C hr dX10_judged_30 h
  · rw [if_neg hc] at h
    refine g_aload_n (pc' := 10) C dX10_judged_9 0 rfl rfl ?_
    refine g_iload_n (pc' := 11) C dX10_judged_10 3 rfl rfl ?_
    refine g_iload (pc' := 13) C dX10_judged_11 4 rfl rfl ?_
    obtain ⟨q3, h4, h⟩ := bind_some h
    refine g_callVi (pc' := 16) (res := q3) C [.int a3, .int a4] cY_X10_isRow rfl (o := 0) (by decide) rfl mv_X10_isRow mm_X10_286 ⟨Nat.le_trans (by decide) hR.1, Nat.le_trans (by decide) hR.2⟩ rfl (Nat.le_of_ble_eq_true rfl) rfl dX10_judged_13 (c_X10_isRow l base D cA q1.1 a3 a4 q3 h4) rfl ?_
    refine g_if_eq (pc' := 19) (tgt := 29) C dX10_judged_16 (by decide) rfl (fun hc => ?_) (fun hc => ?_)
    · rw [if_pos hc] at h
      refine g_iconst (pc' := 30) (v := (-1)) C dX10_judged_29 (by decide) rfl ?_
      exact g_iret C hr dX10_judged_30 h
    · rw [if_neg hc] at h
      refine g_iload (pc' := 21) C dX10_judged_19 6 rfl rfl ?_
      refine g_iconst (pc' := 22) (v := 0) C dX10_judged_21 (by decide) rfl ?_
      refine g_iconst (pc' := 23) (v := 2) C dX10_judged_22 (by decide) rfl ?_
      obtain ⟨q5, h6, h⟩ := bind_some h
      refine g_callSi (pc' := 26) (res := q5) C [.int a6, .int 0, .int 2] cY_X10_isWithin mv_X10_isWithin mm_X10_54 ⟨Nat.le_trans (by decide) hR.1, Nat.le_trans (by decide) hR.2⟩ rfl (Nat.le_of_ble_eq_true rfl) rfl dX10_judged_23 (c_X10_isWithin l base D cA q3.1 a6 0 2 q5 h6) rfl ?_
      refine g_if_ne (pc' := 29) (tgt := 31) C dX10_judged_26 (by decide) rfl (fun hc => ?_) (fun hc => ?_)
      · rw [if_neg hc] at h
        refine g_aload_n (pc' := 32) C dX10_judged_31 0 rfl rfl ?_
        refine gg_X10_49 (pc' := 35) (o := 0) (r := 88) C rfl rfl dX10_judged_32 rfl ?_
        refine g_iload_n (pc' := 36) C dX10_judged_35 3 rfl rfl ?_
        obtain ⟨h7, h⟩ := chk_some h
        refine g_aald (pc' := 37) C (o := 88) (by decide) rfl (cn := "ClashRocks$Row") rfl h7 dX10_judged_36 rfl ?_
        refine g_astore (pc' := 39) (lv' := [(7, .ref (base + (89 + 2 * a3.toNatClampNeg))), (0, .ref (base + 0)), (1, .int a1), (2, .int a2), (3, .int a3), (4, .int a4), (5, .int a5), (6, .int a6)]) C dX10_judged_37 (by decide) rfl rfl ?_
        refine g_aload (pc' := 41) C dX10_judged_39 0 rfl rfl ?_
        refine g_iload (pc' := 43) C dX10_judged_41 5 rfl rfl ?_
        refine g_iload (pc' := 45) C dX10_judged_43 6 rfl rfl ?_
        refine g_aload_n (pc' := 46) C dX10_judged_45 1 rfl rfl ?_
        refine gg_X10_12 (pc' := 49) (o := 0) (r := 1) C rfl rfl dX10_judged_46 rfl ?_
        refine gg_X10_58 (pc' := 52) (o := 1) C rfl dX10_judged_49 rfl ?_
        obtain ⟨q8, h9, h⟩ := bind_some h
        obtain ⟨h10, h⟩ := chk_some h
        refine g_callVi (pc' := 55) (res := q8) C [.int a4, .int a5, .int (rF q5.1 1 5)] cY_X4_refusal rfl (o := 89 + 2 * a3.toNatClampNeg) (kC_lt h10 (by decide)) (sfC_4 h10) mv_X4_refusal mm_X10_289 ⟨Nat.le_trans (by decide) hR.1, Nat.le_trans (by decide) hR.2⟩ rfl (Nat.le_of_ble_eq_true rfl) rfl dX10_judged_52 (c_X4_refusal l base D cA q5.1 (89 + 2 * a3.toNatClampNeg) a4 a5 (rF q5.1 1 5) q8 h9) rfl ?_
        obtain ⟨v11, e12, h⟩ := let_some h
        refine g_nameI e12 ?_
        refine g_istore (pc' := 57) (lv' := [(8, .int v11), (7, .ref (base + (89 + 2 * a3.toNatClampNeg))), (0, .ref (base + 0)), (1, .int a1), (2, .int a2), (3, .int a3), (4, .int a4), (5, .int a5), (6, .int a6)]) C dX10_judged_55 (by decide) rfl rfl ?_
        refine g_iload (pc' := 59) C dX10_judged_57 0 rfl rfl ?_
        refine g_if_eq (pc' := 62) (tgt := 65) C dX10_judged_59 (by decide) rfl (fun hc => ?_) (fun hc => ?_)
        · rw [if_pos hc] at h
          refine g_aload_n (pc' := 66) C dX10_judged_65 2 rfl rfl ?_
          refine gg_X10_12 (pc' := 69) (o := 0) (r := 1) C rfl rfl dX10_judged_66 rfl ?_
          refine gg_X10_85 (pc' := 72) (o := 1) (r := 3) C rfl rfl dX10_judged_69 rfl ?_
          refine g_iload_n (pc' := 73) C dX10_judged_72 3 rfl rfl ?_
          obtain ⟨h13, h⟩ := chk_some h
          refine g_aald (pc' := 74) C (o := 3) (by decide) rfl (cn := "ClashRocks$Ship") rfl h13 dX10_judged_73 rfl ?_
          refine g_astore (pc' := 76) (lv' := [(9, .ref (base + (15 + a1.toNatClampNeg))), (8, .int v11), (7, .ref (base + (89 + 2 * a3.toNatClampNeg))), (0, .ref (base + 0)), (1, .int a1), (2, .int a2), (3, .int a3), (4, .int a4), (5, .int a5), (6, .int a6)]) C dX10_judged_74 (by decide) rfl rfl ?_
          refine g_iconst (pc' := 77) (v := 0) C dX10_judged_76 (by decide) rfl ?_
          refine g_istore (pc' := 79) (lv' := [(10, .int 0), (9, .ref (base + (15 + a1.toNatClampNeg))), (8, .int v11), (7, .ref (base + (89 + 2 * a3.toNatClampNeg))), (0, .ref (base + 0)), (1, .int a1), (2, .int a2), (3, .int a3), (4, .int a4), (5, .int a5), (6, .int a6)]) C dX10_judged_77 (by decide) rfl rfl ?_
          exact g_sub C [4, 6, 9, 10, 3, 1, 0] rfl (w_X10_judged_L79 C hr hR _ _ _ _ _ _ _ _ h)
        · rw [if_neg hc] at h
          refine g_iload (pc' := 64) C dX10_judged_62 0 rfl rfl ?_
          exact g_iret C hr dX10_judged_64 h
      · rw [if_pos hc] at h
        refine g_iconst (pc' := 30) (v := (-1)) C dX10_judged_29 (by decide) rfl ?_
        exact g_iret C hr dX10_judged_30 h
theorem c_X10_judged (l : Launch) (base : Nat) (D : va_G) (cA : Nat → ClassId) (σ : cr_S) (a1 : Int32) (a2 : Int32) (a3 : Int32) (a4 : Int32) (a5 : Int32) (a6 : Int32) (res : cr_S × Int32) (h : f_X10_judged σ a1 a2 a3 a4 a5 a6 = some res) : cr_M l yX10_judged cX10_judged 13 (some .int) 5 120 sfC 97 base D cA [.ref (base + 0), .int a1, .int a2, .int a3, .int a4, .int a5, .int a6] σ (cr_Qi sfC 97 base D cA res) := by
  refine cr_enter [.ref (base + 0), .int a1, .int a2, .int a3, .int a4, .int a5, .int a6] [(0, .ref (base + 0)), (1, .int a1), (2, .int a2), (3, .int a3), (4, .int a4), (5, .int a5), (6, .int a6)] (by decide) (Nat.le_of_ble_eq_true rfl) rfl ?_
  intro p e R s m below meth c C hr hR
  exact w_X10_judged C hr hR σ a1 a2 a3 a4 a5 a6 h
def f_X10_film_L57  : Nat → cr_S → Int32 → Int32 → Nat → Int32 → Option (cr_S × Int32)
  | 0, _, _, _, _, _ => none
  | n + 1, σ, x1, x4, x5, x7 =>
    (if (rF σ 1 5) ≤ x7 then some (σ, rF σ 1 5) else chk (kC x5 = 4) (chk (inb x7 6) (Option.bind (f_X3_isOpenNow σ (9 + x7.toNatClampNeg) x1) (fun q13 => chk (kC (9 + x7.toNatClampNeg) = 3) (Option.bind (f_X10_oneIf q13.1 q13.2) (fun q16 => chk (kC (x5 + 1) = 3016) (chk (inb (x4 + x7) 16) (cr_let (sL q16.1 (x5 + 1) (x4 + x7) (Int32.toInt64 q16.2)) (fun s20 => cr_let (x7 + 1) (fun v22 => f_X10_film_L57 n s20 x1 x4 x5 v22))))))))))
set_option maxRecDepth 100000 in
set_option maxHeartbeats 4000000 in
theorem w_X10_film_L57 (C : cr_C p l e R s m args below meth c sfC 97 base D cA cX10_film 8 RX10) (hr : meth.sig.returnType = some .int) (hR : 3 ≤ R.frames ∧ 65 ≤ R.locals) {res : cr_S × Int32}  : ∀ (n : Nat) (σ : cr_S) (x1 : Int32) (x4 : Int32) (x5 : Nat) (x7 : Int32), f_X10_film_L57 n σ x1 x4 x5 x7 = some res → cr_W p l e R s m args below meth c sfC 97 base D cA 8 (MQ below (cr_Qi sfC 97 base D cA res) args s 0 0 (cr_A 97 base)) σ 57 [(0, .ref (base + 0)), (1, .int x1), (4, .int x4), (5, .ref (base + x5)), (7, .int x7)] [] := by
  intro n
  induction n with
  | zero =>
    intro σ x1 x4 x5 x7 h
    cases h
  | succ n ih =>
    intro σ x1 x4 x5 x7 h
    rw [f_X10_film_L57] at h
    refine g_iload (pc' := 59) C dX10_film_57 4 rfl rfl ?_
    refine g_aload_n (pc' := 60) C dX10_film_59 0 rfl rfl ?_
    refine gg_X10_12 (pc' := 63) (o := 0) (r := 1) C rfl rfl dX10_film_60 rfl ?_
    refine gg_X10_58 (pc' := 66) (o := 1) C rfl dX10_film_63 rfl ?_
    refine g_icmp_ge (pc' := 69) (tgt := 104) C dX10_film_66 (by decide) rfl (fun hc => ?_) (fun hc => ?_)
    · rw [if_pos hc] at h
      refine g_aload_n (pc' := 105) C dX10_film_104 0 rfl rfl ?_
      refine gg_X10_12 (pc' := 108) (o := 0) (r := 1) C rfl rfl dX10_film_105 rfl ?_
      refine gg_X10_58 (pc' := 111) (o := 1) C rfl dX10_film_108 rfl ?_
      exact g_iret C hr dX10_film_111 h
    · rw [if_neg hc] at h
      refine g_aload (pc' := 71) C dX10_film_69 3 rfl rfl ?_
      obtain ⟨h11, h⟩ := chk_some h
      refine gg_X10_292 (pc' := 74) (o := x5) (r := x5 + 1) C h11 rfl dX10_film_71 rfl ?_
      refine g_iload (pc' := 76) C dX10_film_74 2 rfl rfl ?_
      refine g_iload (pc' := 78) C dX10_film_76 4 rfl rfl ?_
      refine g_iadd (pc' := 79) C dX10_film_78 rfl ?_
      refine g_aload_n (pc' := 80) C dX10_film_79 0 rfl rfl ?_
      refine gg_X10_12 (pc' := 83) (o := 0) (r := 1) C rfl rfl dX10_film_80 rfl ?_
      refine gg_X10_62 (pc' := 86) (o := 1) (r := 2) C rfl rfl dX10_film_83 rfl ?_
      refine g_iload (pc' := 88) C dX10_film_86 4 rfl rfl ?_
      obtain ⟨h12, h⟩ := chk_some h
      refine g_aald (pc' := 89) C (o := 2) (by decide) rfl (cn := "ClashRocks$Pair") rfl h12 dX10_film_88 rfl ?_
      refine g_iload_n (pc' := 90) C dX10_film_89 1 rfl rfl ?_
      obtain ⟨q13, h14, h⟩ := bind_some h
      obtain ⟨h15, h⟩ := chk_some h
      refine g_callVi (pc' := 93) (res := q13) C [.int x1] cY_X3_isOpenNow rfl (o := 9 + x7.toNatClampNeg) (kC_lt h15 (by decide)) (sfC_3 h15) mv_X3_isOpenNow mm_X10_124 ⟨Nat.le_trans (by decide) hR.1, Nat.le_trans (by decide) hR.2⟩ rfl (Nat.le_of_ble_eq_true rfl) rfl dX10_film_90 (c_X3_isOpenNow l base D cA σ (9 + x7.toNatClampNeg) x1 q13 h14) rfl ?_
      obtain ⟨q16, h17, h⟩ := bind_some h
      refine g_callSi (pc' := 96) (res := q16) C [.int q13.2] cY_X10_oneIf mv_X10_oneIf mm_X10_127 ⟨Nat.le_trans (by decide) hR.1, Nat.le_trans (by decide) hR.2⟩ rfl (Nat.le_of_ble_eq_true rfl) rfl dX10_film_93 (c_X10_oneIf l base D cA q13.1 q13.2 q16 h17) rfl ?_
      refine g_i2l (pc' := 97) C dX10_film_96 rfl ?_
      obtain ⟨h18, h⟩ := chk_some h
      obtain ⟨h19, h⟩ := chk_some h
      obtain ⟨s20, e21, h⟩ := let_some h
      refine g_last (pc' := 98) C (o := x5 + 1) (kC_lt h18 (by decide)) (sfC_3016 h18) h19 dX10_film_97 rfl e21 ?_
      obtain ⟨v22, e23, h⟩ := let_some h
      refine g_iinc (pc' := 101) (v := v22) (lv' := [(7, .int v22), (0, .ref (base + 0)), (1, .int x1), (4, .int x4), (5, .ref (base + x5))]) C dX10_film_98 4 rfl (by rw [e23]; rfl) (by decide) rfl rfl ?_
      refine g_goto (tgt := 57) C dX10_film_101 (by decide) ?_
      exact g_sub C [1, 2, 3, 4, 0] rfl (ih _ _ _ _ _ h)
def f_X10_film (σ : cr_S) (a1 : Int32) (a2 : Int32) (a3 : Int32) (a4 : Int32) : Option (cr_S × Int32) :=
  Option.bind (f_X10_isWithin σ a1 0 99999) (fun q1 => (if q1.2 = 0 then some (q1.1, (-1)) else Option.bind (f_X10_isRow q1.1 a2 a3) (fun q3 => (if q3.2 = 0 then some (q3.1, (-1)) else chk (inb a2 4) (Option.bind (f_X4_refusal q3.1 (89 + 2 * a2.toNatClampNeg) a3 a4 (rF q3.1 1 5)) (fun q6 => chk (kC (89 + 2 * a2.toNatClampNeg) = 4) (cr_let q6.2 (fun v9 => (if v9 = 0 then f_X10_film_L57 cr_fuel q6.1 a1 a4 (89 + 2 * a2.toNatClampNeg) 0 else some (q6.1, v9))))))))))
set_option maxRecDepth 100000 in
set_option maxHeartbeats 4000000 in
theorem w_X10_film (C : cr_C p l e R s m args below meth c sfC 97 base D cA cX10_film 8 RX10) (hr : meth.sig.returnType = some .int) (hR : 3 ≤ R.frames ∧ 65 ≤ R.locals) {res : cr_S × Int32} (σ : cr_S) (a1 : Int32) (a2 : Int32) (a3 : Int32) (a4 : Int32) (h : f_X10_film σ a1 a2 a3 a4 = some res) : cr_W p l e R s m args below meth c sfC 97 base D cA 8 (MQ below (cr_Qi sfC 97 base D cA res) args s 0 0 (cr_A 97 base)) σ 0 [(0, .ref (base + 0)), (1, .int a1), (2, .int a2), (3, .int a3), (4, .int a4)] [] := by
  unfold f_X10_film at h
  refine g_iload_n (pc' := 1) C dX10_film_0 1 rfl rfl ?_
  refine g_iconst (pc' := 2) (v := 0) C dX10_film_1 (by decide) rfl ?_
  refine g_ldc (pc' := 4) (v := 99999) C dX10_film_2 mk_X10_123 rfl ?_
  obtain ⟨q1, h2, h⟩ := bind_some h
  refine g_callSi (pc' := 7) (res := q1) C [.int a1, .int 0, .int 99999] cY_X10_isWithin mv_X10_isWithin mm_X10_54 ⟨Nat.le_trans (by decide) hR.1, Nat.le_trans (by decide) hR.2⟩ rfl (Nat.le_of_ble_eq_true rfl) rfl dX10_film_4 (c_X10_isWithin l base D cA σ a1 0 99999 q1 h2) rfl ?_
  refine g_if_eq (pc' := 10) (tgt := 19) C dX10_film_7 (by decide) rfl (fun hc => ?_) (fun hc => ?_)
  · rw [if_pos hc] at h
    refine g_iconst (pc' := 20) (v := (-1)) C dX10_film_19 (by decide) rfl ?_
    exact g_iret C hr dX10_film_20 h
  · rw [if_neg hc] at h
    refine g_aload_n (pc' := 11) C dX10_film_10 0 rfl rfl ?_
    refine g_iload_n (pc' := 12) C dX10_film_11 2 rfl rfl ?_
    refine g_iload_n (pc' := 13) C dX10_film_12 3 rfl rfl ?_
    obtain ⟨q3, h4, h⟩ := bind_some h
    refine g_callVi (pc' := 16) (res := q3) C [.int a2, .int a3] cY_X10_isRow rfl (o := 0) (by decide) rfl mv_X10_isRow mm_X10_286 ⟨Nat.le_trans (by decide) hR.1, Nat.le_trans (by decide) hR.2⟩ rfl (Nat.le_of_ble_eq_true rfl) rfl dX10_film_13 (c_X10_isRow l base D cA q1.1 a2 a3 q3 h4) rfl ?_
    refine g_if_ne (pc' := 19) (tgt := 21) C dX10_film_16 (by decide) rfl (fun hc => ?_) (fun hc => ?_)
    · rw [if_neg hc] at h
      refine g_aload_n (pc' := 22) C dX10_film_21 0 rfl rfl ?_
      refine gg_X10_49 (pc' := 25) (o := 0) (r := 88) C rfl rfl dX10_film_22 rfl ?_
      refine g_iload_n (pc' := 26) C dX10_film_25 2 rfl rfl ?_
      obtain ⟨h5, h⟩ := chk_some h
      refine g_aald (pc' := 27) C (o := 88) (by decide) rfl (cn := "ClashRocks$Row") rfl h5 dX10_film_26 rfl ?_
      refine g_astore (pc' := 29) (lv' := [(5, .ref (base + (89 + 2 * a2.toNatClampNeg))), (0, .ref (base + 0)), (1, .int a1), (2, .int a2), (3, .int a3), (4, .int a4)]) C dX10_film_27 (by decide) rfl rfl ?_
      refine g_aload (pc' := 31) C dX10_film_29 0 rfl rfl ?_
      refine g_iload_n (pc' := 32) C dX10_film_31 4 rfl rfl ?_
      refine g_iload (pc' := 34) C dX10_film_32 5 rfl rfl ?_
      refine g_aload_n (pc' := 35) C dX10_film_34 1 rfl rfl ?_
      refine gg_X10_12 (pc' := 38) (o := 0) (r := 1) C rfl rfl dX10_film_35 rfl ?_
      refine gg_X10_58 (pc' := 41) (o := 1) C rfl dX10_film_38 rfl ?_
      obtain ⟨q6, h7, h⟩ := bind_some h
      obtain ⟨h8, h⟩ := chk_some h
      refine g_callVi (pc' := 44) (res := q6) C [.int a3, .int a4, .int (rF q3.1 1 5)] cY_X4_refusal rfl (o := 89 + 2 * a2.toNatClampNeg) (kC_lt h8 (by decide)) (sfC_4 h8) mv_X4_refusal mm_X10_289 ⟨Nat.le_trans (by decide) hR.1, Nat.le_trans (by decide) hR.2⟩ rfl (Nat.le_of_ble_eq_true rfl) rfl dX10_film_41 (c_X4_refusal l base D cA q3.1 (89 + 2 * a2.toNatClampNeg) a3 a4 (rF q3.1 1 5) q6 h7) rfl ?_
      obtain ⟨v9, e10, h⟩ := let_some h
      refine g_nameI e10 ?_
      refine g_istore (pc' := 46) (lv' := [(6, .int v9), (5, .ref (base + (89 + 2 * a2.toNatClampNeg))), (0, .ref (base + 0)), (1, .int a1), (2, .int a2), (3, .int a3), (4, .int a4)]) C dX10_film_44 (by decide) rfl rfl ?_
      refine g_iload (pc' := 48) C dX10_film_46 0 rfl rfl ?_
      refine g_if_eq (pc' := 51) (tgt := 54) C dX10_film_48 (by decide) rfl (fun hc => ?_) (fun hc => ?_)
      · rw [if_pos hc] at h
        refine g_iconst (pc' := 55) (v := 0) C dX10_film_54 (by decide) rfl ?_
        refine g_istore (pc' := 57) (lv' := [(7, .int 0), (6, .int v9), (5, .ref (base + (89 + 2 * a2.toNatClampNeg))), (0, .ref (base + 0)), (1, .int a1), (2, .int a2), (3, .int a3), (4, .int a4)]) C dX10_film_55 (by decide) rfl rfl ?_
        exact g_sub C [3, 4, 7, 2, 0] rfl (w_X10_film_L57 C hr hR _ _ _ _ _ _ h)
      · rw [if_neg hc] at h
        refine g_iload (pc' := 53) C dX10_film_51 0 rfl rfl ?_
        exact g_iret C hr dX10_film_53 h
    · rw [if_pos hc] at h
      refine g_iconst (pc' := 20) (v := (-1)) C dX10_film_19 (by decide) rfl ?_
      exact g_iret C hr dX10_film_20 h
theorem c_X10_film (l : Launch) (base : Nat) (D : va_G) (cA : Nat → ClassId) (σ : cr_S) (a1 : Int32) (a2 : Int32) (a3 : Int32) (a4 : Int32) (res : cr_S × Int32) (h : f_X10_film σ a1 a2 a3 a4 = some res) : cr_M l yX10_film cX10_film 8 (some .int) 3 65 sfC 97 base D cA [.ref (base + 0), .int a1, .int a2, .int a3, .int a4] σ (cr_Qi sfC 97 base D cA res) := by
  refine cr_enter [.ref (base + 0), .int a1, .int a2, .int a3, .int a4] [(0, .ref (base + 0)), (1, .int a1), (2, .int a2), (3, .int a3), (4, .int a4)] (by decide) (Nat.le_of_ble_eq_true rfl) rfl ?_
  intro p e R s m below meth c C hr hR
  exact w_X10_film C hr hR σ a1 a2 a3 a4 h
def f_J7_fill_d0a16_L6  : Nat → cr_S → Nat → Int64 → Int32 → Int32 → Option (cr_S)
  | 0, _, _, _, _, _ => none
  | n + 1, σ, x0, x1, x3, x4 =>
    (if x4 ≤ x3 then some σ else chk (kC x0 = 3016) (chk (inb x3 16) (cr_let (sL σ x0 x3 x1) (fun s4 => cr_let (x3 + 1) (fun v6 => f_J7_fill_d0a16_L6 n s4 x0 x1 v6 x4)))))
set_option maxRecDepth 100000 in
set_option maxHeartbeats 4000000 in
theorem w_J7_fill_d0a16_L6 (C : cr_C p l e R s m args below meth c sfC 97 base D cA cJ7_fill_d0a16 5 RJ7) (hr : meth.sig.returnType = none) (hR : 0 ≤ R.frames ∧ 0 ≤ R.locals) {res : cr_S}  : ∀ (n : Nat) (σ : cr_S) (x0 : Nat) (x1 : Int64) (x3 : Int32) (x4 : Int32), f_J7_fill_d0a16_L6 n σ x0 x1 x3 x4 = some res → cr_W p l e R s m args below meth c sfC 97 base D cA 5 (MQ below (cr_Qv sfC 97 base D cA res) args s 0 0 (cr_A 97 base)) σ 6 [(0, .ref (base + x0)), (1, .long x1), (3, .int x3), (4, .int x4)] [] := by
  intro n
  induction n with
  | zero =>
    intro σ x0 x1 x3 x4 h
    cases h
  | succ n ih =>
    intro σ x0 x1 x3 x4 h
    rw [f_J7_fill_d0a16_L6] at h
    refine g_iload_n (pc' := 7) C dJ7_fill_d0a16_6 2 rfl rfl ?_
    refine g_iload (pc' := 9) C dJ7_fill_d0a16_7 3 rfl rfl ?_
    refine g_icmp_ge (pc' := 12) (tgt := 22) C dJ7_fill_d0a16_9 (by decide) rfl (fun hc => ?_) (fun hc => ?_)
    · rw [if_pos hc] at h
      exact g_vret C hr dJ7_fill_d0a16_22 h
    · rw [if_neg hc] at h
      refine g_aload_n (pc' := 13) C dJ7_fill_d0a16_12 0 rfl rfl ?_
      refine g_iload_n (pc' := 14) C dJ7_fill_d0a16_13 2 rfl rfl ?_
      refine g_lload_n (pc' := 15) C dJ7_fill_d0a16_14 1 rfl rfl ?_
      obtain ⟨h2, h⟩ := chk_some h
      obtain ⟨h3, h⟩ := chk_some h
      obtain ⟨s4, e5, h⟩ := let_some h
      refine g_last (pc' := 16) C (o := x0) (kC_lt h2 (by decide)) (sfC_3016 h2) h3 dJ7_fill_d0a16_15 rfl e5 ?_
      obtain ⟨v6, e7, h⟩ := let_some h
      refine g_iinc (pc' := 19) (v := v6) (lv' := [(3, .int v6), (0, .ref (base + x0)), (1, .long x1), (4, .int x4)]) C dJ7_fill_d0a16_16 2 rfl (by rw [e7]; rfl) (by decide) rfl rfl ?_
      refine g_goto (tgt := 6) C dJ7_fill_d0a16_19 (by decide) ?_
      exact g_sub C [1, 2, 0, 3] rfl (ih _ _ _ _ _ h)
def f_J7_fill_d0a16 (σ : cr_S) (o0 : Nat) (a1 : Int64) : Option (cr_S) :=
  chk (kC o0 = 3016) (f_J7_fill_d0a16_L6 cr_fuel σ o0 a1 0 16)
set_option maxRecDepth 100000 in
set_option maxHeartbeats 4000000 in
theorem w_J7_fill_d0a16 (C : cr_C p l e R s m args below meth c sfC 97 base D cA cJ7_fill_d0a16 5 RJ7) (hr : meth.sig.returnType = none) (hR : 0 ≤ R.frames ∧ 0 ≤ R.locals) {res : cr_S} (σ : cr_S) (o0 : Nat) (a1 : Int64) (h : f_J7_fill_d0a16 σ o0 a1 = some res) : cr_W p l e R s m args below meth c sfC 97 base D cA 5 (MQ below (cr_Qv sfC 97 base D cA res) args s 0 0 (cr_A 97 base)) σ 0 [(0, .ref (base + o0)), (1, .long a1)] [] := by
  unfold f_J7_fill_d0a16 at h
  refine g_iconst (pc' := 1) (v := 0) C dJ7_fill_d0a16_0 (by decide) rfl ?_
  refine g_istore_n (pc' := 2) (lv' := [(3, .int 0), (0, .ref (base + o0)), (1, .long a1)]) C dJ7_fill_d0a16_1 rfl (by decide) rfl rfl ?_
  refine g_aload_n (pc' := 3) C dJ7_fill_d0a16_2 1 rfl rfl ?_
  obtain ⟨h1, h⟩ := chk_some h
  refine g_alenL (pc' := 4) (v := 16) C (o := o0) (kC_lt h1 (by decide)) (sfC_3016 h1) (by decide) dJ7_fill_d0a16_3 rfl ?_
  refine g_istore (pc' := 6) (lv' := [(4, .int 16), (3, .int 0), (0, .ref (base + o0)), (1, .long a1)]) C dJ7_fill_d0a16_4 (by decide) rfl rfl ?_
  exact g_sub C [2, 3, 1, 0] rfl (w_J7_fill_d0a16_L6 C hr hR _ _ _ _ _ _ h)
theorem c_J7_fill_d0a16 (l : Launch) (base : Nat) (D : va_G) (cA : Nat → ClassId) (σ : cr_S) (o0 : Nat) (a1 : Int64) (res : cr_S) (h : f_J7_fill_d0a16 σ o0 a1 = some res) : cr_M l yJ7_fill_d0a16 cJ7_fill_d0a16 5 none 0 0 sfC 97 base D cA [.ref (base + o0), .long a1] σ (cr_Qv sfC 97 base D cA res) := by
  refine cr_enter [.ref (base + o0), .long a1] [(0, .ref (base + o0)), (1, .long a1)] (by decide) (Nat.le_of_ble_eq_true rfl) rfl ?_
  intro p e R s m below meth c C hr hR
  exact w_J7_fill_d0a16 C hr hR σ o0 a1 h
def f_X4_begin (σ : cr_S) (o0 : Nat) (a1 : Int32) (a2 : Int32) : Option (cr_S) :=
  chk (kC o0 = 4) (cr_let (sF σ o0 1 1) (fun s2 => chk (kC o0 = 4) (cr_let (sF s2 o0 2 a1) (fun s5 => chk (kC o0 = 4) (cr_let (sF s5 o0 3 a2) (fun s8 => chk (kC o0 = 4) (Option.bind (f_J7_fill_d0a16 s8 (o0 + 1) 0) (fun q11 => some q11))))))))
set_option maxRecDepth 100000 in
set_option maxHeartbeats 4000000 in
theorem w_X4_begin (C : cr_C p l e R s m args below meth c sfC 97 base D cA cX4_begin 3 RX4) (hr : meth.sig.returnType = none) (hR : 1 ≤ R.frames ∧ 24 ≤ R.locals) {res : cr_S} (σ : cr_S) (o0 : Nat) (a1 : Int32) (a2 : Int32) (h : f_X4_begin σ o0 a1 a2 = some res) : cr_W p l e R s m args below meth c sfC 97 base D cA 3 (MQ below (cr_Qv sfC 97 base D cA res) args s 0 0 (cr_A 97 base)) σ 0 [(0, .ref (base + o0)), (1, .int a1), (2, .int a2)] [] := by
  unfold f_X4_begin at h
  refine g_aload_n (pc' := 1) C dX4_begin_0 0 rfl rfl ?_
  refine g_iconst (pc' := 2) (v := 1) C dX4_begin_1 (by decide) rfl ?_
  obtain ⟨h1, h⟩ := chk_some h
  obtain ⟨s2, e3, h⟩ := let_some h
  refine gp_X4_15 (pc' := 5) (o := o0) C h1 rfl rfl dX4_begin_2 rfl e3 ?_
  refine g_aload_n (pc' := 6) C dX4_begin_5 0 rfl rfl ?_
  refine g_iload_n (pc' := 7) C dX4_begin_6 1 rfl rfl ?_
  obtain ⟨h4, h⟩ := chk_some h
  obtain ⟨s5, e6, h⟩ := let_some h
  refine gp_X4_19 (pc' := 10) (o := o0) C h4 dX4_begin_7 rfl e6 ?_
  refine g_aload_n (pc' := 11) C dX4_begin_10 0 rfl rfl ?_
  refine g_iload_n (pc' := 12) C dX4_begin_11 2 rfl rfl ?_
  obtain ⟨h7, h⟩ := chk_some h
  obtain ⟨s8, e9, h⟩ := let_some h
  refine gp_X4_23 (pc' := 15) (o := o0) C h7 dX4_begin_12 rfl e9 ?_
  refine g_aload_n (pc' := 16) C dX4_begin_15 0 rfl rfl ?_
  obtain ⟨h10, h⟩ := chk_some h
  refine gg_X4_9 (pc' := 19) (o := o0) (r := o0 + 1) C h10 rfl dX4_begin_16 rfl ?_
  refine g_lconst (pc' := 20) (v := 0) C dX4_begin_19 (by decide) rfl ?_
  obtain ⟨q11, h12, h⟩ := bind_some h
  refine g_callSv (pc' := 23) (res := q11) C [.ref (base + (o0 + 1)), .long 0] cY_J7_fill_d0a16 mv_J7_fill_d0a16 mm_X4_26 ⟨Nat.le_trans (by decide) hR.1, Nat.le_trans (by decide) hR.2⟩ rfl (Nat.le_of_ble_eq_true rfl) rfl dX4_begin_20 (c_J7_fill_d0a16 l base D cA s8 (o0 + 1) 0 q11 h12) rfl ?_
  exact g_vret C hr dX4_begin_23 h
theorem c_X4_begin (l : Launch) (base : Nat) (D : va_G) (cA : Nat → ClassId) (σ : cr_S) (o0 : Nat) (a1 : Int32) (a2 : Int32) (res : cr_S) (h : f_X4_begin σ o0 a1 a2 = some res) : cr_M l yX4_begin cX4_begin 3 none 1 24 sfC 97 base D cA [.ref (base + o0), .int a1, .int a2] σ (cr_Qv sfC 97 base D cA res) := by
  refine cr_enter [.ref (base + o0), .int a1, .int a2] [(0, .ref (base + o0)), (1, .int a1), (2, .int a2)] (by decide) (Nat.le_of_ble_eq_true rfl) rfl ?_
  intro p e R s m below meth c C hr hR
  exact w_X4_begin C hr hR σ o0 a1 a2 h
def f_X10_sheet (σ : cr_S) (a1 : Int32) (a2 : Int32) (a3 : Int32) : Option (cr_S × Int32) :=
  Option.bind (f_X10_isRow σ a1 a2) (fun q1 => (if q1.2 = 0 then some (q1.1, (-1)) else (if a3 ≤ 16 then (if 0 ≤ a3 then chk (inb a1 4) (Option.bind (f_X4_begin q1.1 (89 + 2 * a1.toNatClampNeg) a2 a3) (fun q4 => chk (kC (89 + 2 * a1.toNatClampNeg) = 4) (some (q4, a3)))) else some (q1.1, (-14))) else some (q1.1, (-1)))))
set_option maxRecDepth 100000 in
set_option maxHeartbeats 4000000 in
theorem w_X10_sheet (C : cr_C p l e R s m args below meth c sfC 97 base D cA cX10_sheet 4 RX10) (hr : meth.sig.returnType = some .int) (hR : 2 ≤ R.frames ∧ 46 ≤ R.locals) {res : cr_S × Int32} (σ : cr_S) (a1 : Int32) (a2 : Int32) (a3 : Int32) (h : f_X10_sheet σ a1 a2 a3 = some res) : cr_W p l e R s m args below meth c sfC 97 base D cA 4 (MQ below (cr_Qi sfC 97 base D cA res) args s 0 0 (cr_A 97 base)) σ 0 [(0, .ref (base + 0)), (1, .int a1), (2, .int a2), (3, .int a3)] [] := by
  unfold f_X10_sheet at h
  refine g_aload_n (pc' := 1) C dX10_sheet_0 0 rfl rfl ?_
  refine g_iload_n (pc' := 2) C dX10_sheet_1 1 rfl rfl ?_
  refine g_iload_n (pc' := 3) C dX10_sheet_2 2 rfl rfl ?_
  obtain ⟨q1, h2, h⟩ := bind_some h
  refine g_callVi (pc' := 6) (res := q1) C [.int a1, .int a2] cY_X10_isRow rfl (o := 0) (by decide) rfl mv_X10_isRow mm_X10_286 ⟨Nat.le_trans (by decide) hR.1, Nat.le_trans (by decide) hR.2⟩ rfl (Nat.le_of_ble_eq_true rfl) rfl dX10_sheet_3 (c_X10_isRow l base D cA σ a1 a2 q1 h2) rfl ?_
  refine g_if_eq (pc' := 9) (tgt := 15) C dX10_sheet_6 (by decide) rfl (fun hc => ?_) (fun hc => ?_)
  · rw [if_pos hc] at h
    refine g_iconst (pc' := 16) (v := (-1)) C dX10_sheet_15 (by decide) rfl ?_
    exact g_iret C hr dX10_sheet_16 h
  · rw [if_neg hc] at h
    refine g_iload_n (pc' := 10) C dX10_sheet_9 3 rfl rfl ?_
    refine g_bipush (pc' := 12) (v := 16) C dX10_sheet_10 (by decide) rfl ?_
    refine g_icmp_le (pc' := 15) (tgt := 17) C dX10_sheet_12 (by decide) rfl (fun hc => ?_) (fun hc => ?_)
    · rw [if_pos hc] at h
      refine g_iload_n (pc' := 18) C dX10_sheet_17 3 rfl rfl ?_
      refine g_if_ge (pc' := 21) (tgt := 24) C dX10_sheet_18 (by decide) rfl (fun hc => ?_) (fun hc => ?_)
      · rw [if_pos hc] at h
        refine g_aload_n (pc' := 25) C dX10_sheet_24 0 rfl rfl ?_
        refine gg_X10_49 (pc' := 28) (o := 0) (r := 88) C rfl rfl dX10_sheet_25 rfl ?_
        refine g_iload_n (pc' := 29) C dX10_sheet_28 1 rfl rfl ?_
        obtain ⟨h3, h⟩ := chk_some h
        refine g_aald (pc' := 30) C (o := 88) (by decide) rfl (cn := "ClashRocks$Row") rfl h3 dX10_sheet_29 rfl ?_
        refine g_iload_n (pc' := 31) C dX10_sheet_30 2 rfl rfl ?_
        refine g_iload_n (pc' := 32) C dX10_sheet_31 3 rfl rfl ?_
        obtain ⟨q4, h5, h⟩ := bind_some h
        obtain ⟨h6, h⟩ := chk_some h
        refine g_callVv (pc' := 35) (res := q4) C [.int a2, .int a3] cY_X4_begin rfl (o := 89 + 2 * a1.toNatClampNeg) (kC_lt h6 (by decide)) (sfC_4 h6) mv_X4_begin mm_X10_300 ⟨Nat.le_trans (by decide) hR.1, Nat.le_trans (by decide) hR.2⟩ rfl (Nat.le_of_ble_eq_true rfl) rfl dX10_sheet_32 (c_X4_begin l base D cA q1.1 (89 + 2 * a1.toNatClampNeg) a2 a3 q4 h5) rfl ?_
        refine g_iload_n (pc' := 36) C dX10_sheet_35 3 rfl rfl ?_
        exact g_iret C hr dX10_sheet_36 h
      · rw [if_neg hc] at h
        refine g_bipush (pc' := 23) (v := (-14)) C dX10_sheet_21 (by decide) rfl ?_
        exact g_iret C hr dX10_sheet_23 h
    · rw [if_neg hc] at h
      refine g_iconst (pc' := 16) (v := (-1)) C dX10_sheet_15 (by decide) rfl ?_
      exact g_iret C hr dX10_sheet_16 h
theorem c_X10_sheet (l : Launch) (base : Nat) (D : va_G) (cA : Nat → ClassId) (σ : cr_S) (a1 : Int32) (a2 : Int32) (a3 : Int32) (res : cr_S × Int32) (h : f_X10_sheet σ a1 a2 a3 = some res) : cr_M l yX10_sheet cX10_sheet 4 (some .int) 2 46 sfC 97 base D cA [.ref (base + 0), .int a1, .int a2, .int a3] σ (cr_Qi sfC 97 base D cA res) := by
  refine cr_enter [.ref (base + 0), .int a1, .int a2, .int a3] [(0, .ref (base + 0)), (1, .int a1), (2, .int a2), (3, .int a3)] (by decide) (Nat.le_of_ble_eq_true rfl) rfl ?_
  intro p e R s m below meth c C hr hR
  exact w_X10_sheet C hr hR σ a1 a2 a3 h
def f_X10_drop (σ : cr_S) (a1 : Int32) : Option (cr_S × Int32) :=
  Option.bind (f_X10_isWithin σ a1 0 3) (fun q1 => (if q1.2 = 0 then some (q1.1, (-1)) else chk (inb a1 4) (chk (kC (89 + 2 * a1.toNatClampNeg) = 4) ((if (rF q1.1 (89 + 2 * a1.toNatClampNeg) 1) = 0 then some (q1.1, (-11)) else chk (inb a1 4) (chk (kC (89 + 2 * a1.toNatClampNeg) = 4) (cr_let (sF q1.1 (89 + 2 * a1.toNatClampNeg) 1 0) (fun s7 => chk (inb a1 4) (chk (kC (89 + 2 * a1.toNatClampNeg) = 4) (some (s7, rF s7 (89 + 2 * a1.toNatClampNeg) 3)))))))))))
set_option maxRecDepth 100000 in
set_option maxHeartbeats 4000000 in
theorem w_X10_drop (C : cr_C p l e R s m args below meth c sfC 97 base D cA cX10_drop 2 RX10) (hr : meth.sig.returnType = some .int) (hR : 1 ≤ R.frames ∧ 22 ≤ R.locals) {res : cr_S × Int32} (σ : cr_S) (a1 : Int32) (h : f_X10_drop σ a1 = some res) : cr_W p l e R s m args below meth c sfC 97 base D cA 2 (MQ below (cr_Qi sfC 97 base D cA res) args s 0 0 (cr_A 97 base)) σ 0 [(0, .ref (base + 0)), (1, .int a1)] [] := by
  unfold f_X10_drop at h
  refine g_iload_n (pc' := 1) C dX10_drop_0 1 rfl rfl ?_
  refine g_iconst (pc' := 2) (v := 0) C dX10_drop_1 (by decide) rfl ?_
  refine g_iconst (pc' := 3) (v := 3) C dX10_drop_2 (by decide) rfl ?_
  obtain ⟨q1, h2, h⟩ := bind_some h
  refine g_callSi (pc' := 6) (res := q1) C [.int a1, .int 0, .int 3] cY_X10_isWithin mv_X10_isWithin mm_X10_54 ⟨Nat.le_trans (by decide) hR.1, Nat.le_trans (by decide) hR.2⟩ rfl (Nat.le_of_ble_eq_true rfl) rfl dX10_drop_3 (c_X10_isWithin l base D cA σ a1 0 3 q1 h2) rfl ?_
  refine g_if_ne (pc' := 9) (tgt := 11) C dX10_drop_6 (by decide) rfl (fun hc => ?_) (fun hc => ?_)
  · rw [if_neg hc] at h
    refine g_aload_n (pc' := 12) C dX10_drop_11 0 rfl rfl ?_
    refine gg_X10_49 (pc' := 15) (o := 0) (r := 88) C rfl rfl dX10_drop_12 rfl ?_
    refine g_iload_n (pc' := 16) C dX10_drop_15 1 rfl rfl ?_
    obtain ⟨h3, h⟩ := chk_some h
    refine g_aald (pc' := 17) C (o := 88) (by decide) rfl (cn := "ClashRocks$Row") rfl h3 dX10_drop_16 rfl ?_
    obtain ⟨h4, h⟩ := chk_some h
    refine gg_X10_302 (pc' := 20) (o := 89 + 2 * a1.toNatClampNeg) C h4 dX10_drop_17 rfl ?_
    refine g_if_ne (pc' := 23) (tgt := 26) C dX10_drop_20 (by decide) rfl (fun hc => ?_) (fun hc => ?_)
    · rw [if_neg hc] at h
      refine g_aload_n (pc' := 27) C dX10_drop_26 0 rfl rfl ?_
      refine gg_X10_49 (pc' := 30) (o := 0) (r := 88) C rfl rfl dX10_drop_27 rfl ?_
      refine g_iload_n (pc' := 31) C dX10_drop_30 1 rfl rfl ?_
      obtain ⟨h5, h⟩ := chk_some h
      refine g_aald (pc' := 32) C (o := 88) (by decide) rfl (cn := "ClashRocks$Row") rfl h5 dX10_drop_31 rfl ?_
      refine g_iconst (pc' := 33) (v := 0) C dX10_drop_32 (by decide) rfl ?_
      obtain ⟨h6, h⟩ := chk_some h
      obtain ⟨s7, e8, h⟩ := let_some h
      refine gp_X10_302 (pc' := 36) (o := 89 + 2 * a1.toNatClampNeg) C h6 rfl rfl dX10_drop_33 rfl e8 ?_
      refine g_aload_n (pc' := 37) C dX10_drop_36 0 rfl rfl ?_
      refine gg_X10_49 (pc' := 40) (o := 0) (r := 88) C rfl rfl dX10_drop_37 rfl ?_
      refine g_iload_n (pc' := 41) C dX10_drop_40 1 rfl rfl ?_
      obtain ⟨h9, h⟩ := chk_some h
      refine g_aald (pc' := 42) C (o := 88) (by decide) rfl (cn := "ClashRocks$Row") rfl h9 dX10_drop_41 rfl ?_
      obtain ⟨h10, h⟩ := chk_some h
      refine gg_X10_305 (pc' := 45) (o := 89 + 2 * a1.toNatClampNeg) C h10 dX10_drop_42 rfl ?_
      exact g_iret C hr dX10_drop_45 h
    · rw [if_pos hc] at h
      refine g_bipush (pc' := 25) (v := (-11)) C dX10_drop_23 (by decide) rfl ?_
      exact g_iret C hr dX10_drop_25 h
  · rw [if_pos hc] at h
    refine g_iconst (pc' := 10) (v := (-1)) C dX10_drop_9 (by decide) rfl ?_
    exact g_iret C hr dX10_drop_10 h
theorem c_X10_drop (l : Launch) (base : Nat) (D : va_G) (cA : Nat → ClassId) (σ : cr_S) (a1 : Int32) (res : cr_S × Int32) (h : f_X10_drop σ a1 = some res) : cr_M l yX10_drop cX10_drop 2 (some .int) 1 22 sfC 97 base D cA [.ref (base + 0), .int a1] σ (cr_Qi sfC 97 base D cA res) := by
  refine cr_enter [.ref (base + 0), .int a1] [(0, .ref (base + 0)), (1, .int a1)] (by decide) (Nat.le_of_ble_eq_true rfl) rfl ?_
  intro p e R s m below meth c C hr hR
  exact w_X10_drop C hr hR σ a1 h
def f_X10_lowestBits (σ : cr_S) (a0 : Int32) (a1 : Int64) : Option (cr_S × Int64) :=
  (if a0 = 0 then some (σ, Int32.toInt64 ((Int32.toInt8 (Int64.toInt32 a1)).toInt32)) else (if a0 = 1 then some (σ, Int32.toInt64 ((Int32.toInt16 (Int64.toInt32 a1)).toInt32)) else (if a0 = 2 then some (σ, Int32.toInt64 (Int64.toInt32 a1)) else some (σ, a1))))
set_option maxRecDepth 100000 in
set_option maxHeartbeats 4000000 in
theorem w_X10_lowestBits (C : cr_C p l e R s m args below meth c sfC 97 base D cA cX10_lowestBits 3 RX10) (hr : meth.sig.returnType = some .long) (hR : 0 ≤ R.frames ∧ 0 ≤ R.locals) {res : cr_S × Int64} (σ : cr_S) (a0 : Int32) (a1 : Int64) (h : f_X10_lowestBits σ a0 a1 = some res) : cr_W p l e R s m args below meth c sfC 97 base D cA 3 (MQ below (cr_Ql sfC 97 base D cA res) args s 0 0 (cr_A 97 base)) σ 0 [(0, .int a0), (1, .long a1)] [] := by
  unfold f_X10_lowestBits at h
  refine g_iload_n (pc' := 1) C dX10_lowestBits_0 0 rfl rfl ?_
  by_cases hc0 : a0 = 0
  · rw [if_pos hc0] at h
    refine g_tableIn (off := 27) (tgt := 28) C dX10_lowestBits_1 (by rw [hc0]; decide) (by rw [hc0]; decide) (by rw [hc0]; decide) (by decide) ?_
    refine g_lload_n (pc' := 29) C dX10_lowestBits_28 1 rfl rfl ?_
    refine g_l2i (pc' := 30) C dX10_lowestBits_29 rfl ?_
    refine g_i2b (pc' := 31) C dX10_lowestBits_30 rfl ?_
    refine g_i2l (pc' := 32) C dX10_lowestBits_31 rfl ?_
    exact g_lret C hr dX10_lowestBits_32 h
  rw [if_neg hc0] at h
  by_cases hc1 : a0 = 1
  · rw [if_pos hc1] at h
    refine g_tableIn (off := 32) (tgt := 33) C dX10_lowestBits_1 (by rw [hc1]; decide) (by rw [hc1]; decide) (by rw [hc1]; decide) (by decide) ?_
    refine g_lload_n (pc' := 34) C dX10_lowestBits_33 1 rfl rfl ?_
    refine g_l2i (pc' := 35) C dX10_lowestBits_34 rfl ?_
    refine g_i2s (pc' := 36) C dX10_lowestBits_35 rfl ?_
    refine g_i2l (pc' := 37) C dX10_lowestBits_36 rfl ?_
    exact g_lret C hr dX10_lowestBits_37 h
  rw [if_neg hc1] at h
  by_cases hc2 : a0 = 2
  · rw [if_pos hc2] at h
    refine g_tableIn (off := 37) (tgt := 38) C dX10_lowestBits_1 (by rw [hc2]; decide) (by rw [hc2]; decide) (by rw [hc2]; decide) (by decide) ?_
    refine g_lload_n (pc' := 39) C dX10_lowestBits_38 1 rfl rfl ?_
    refine g_l2i (pc' := 40) C dX10_lowestBits_39 rfl ?_
    refine g_i2l (pc' := 41) C dX10_lowestBits_40 rfl ?_
    exact g_lret C hr dX10_lowestBits_41 h
  rw [if_neg hc2] at h
  refine g_tableOut (tgt := 42) C dX10_lowestBits_1 (by have q0 : a0.toInt ≠ 0 := ne_toInt hc0; have q1 : a0.toInt ≠ 1 := ne_toInt hc1; have q2 : a0.toInt ≠ 2 := ne_toInt hc2; omega) (by decide) ?_
  refine g_lload_n (pc' := 43) C dX10_lowestBits_42 1 rfl rfl ?_
  exact g_lret C hr dX10_lowestBits_43 h
theorem c_X10_lowestBits (l : Launch) (base : Nat) (D : va_G) (cA : Nat → ClassId) (σ : cr_S) (a0 : Int32) (a1 : Int64) (res : cr_S × Int64) (h : f_X10_lowestBits σ a0 a1 = some res) : cr_M l yX10_lowestBits cX10_lowestBits 3 (some .long) 0 0 sfC 97 base D cA [.int a0, .long a1] σ (cr_Ql sfC 97 base D cA res) := by
  refine cr_enter [.int a0, .long a1] [(0, .int a0), (1, .long a1)] (by decide) (Nat.le_of_ble_eq_true rfl) rfl ?_
  intro p e R s m below meth c C hr hR
  exact w_X10_lowestBits C hr hR σ a0 a1 h
def f_X10_item (σ : cr_S) (a1 : Int32) (a2 : Int32) (a3 : Int32) (a4 : Int64) : Option (cr_S × Int32) :=
  Option.bind (f_X10_isRow σ a1 a2) (fun q1 => (if q1.2 = 0 then some (q1.1, (-1)) else chk (inb a1 4) (Option.bind (f_X4_refusal q1.1 (89 + 2 * a1.toNatClampNeg) a2 a3 1) (fun q4 => chk (kC (89 + 2 * a1.toNatClampNeg) = 4) (cr_let q4.2 (fun v7 => (if v7 = 0 then chk (inb a1 4) (chk (kC (89 + 2 * a1.toNatClampNeg) = 4) (Option.bind (f_X10_lowestBits q4.1 a2 a4) (fun q11 => chk (kC (89 + 2 * a1.toNatClampNeg + 1) = 3016) (chk (inb a3 16) (cr_let (sL q11.1 (89 + 2 * a1.toNatClampNeg + 1) a3 q11.2) (fun s15 => some (s15, 1))))))) else some (q4.1, v7))))))))
set_option maxRecDepth 100000 in
set_option maxHeartbeats 4000000 in
theorem w_X10_item (C : cr_C p l e R s m args below meth c sfC 97 base D cA cX10_item 7 RX10) (hr : meth.sig.returnType = some .int) (hR : 2 ≤ R.frames ∧ 45 ≤ R.locals) {res : cr_S × Int32} (σ : cr_S) (a1 : Int32) (a2 : Int32) (a3 : Int32) (a4 : Int64) (h : f_X10_item σ a1 a2 a3 a4 = some res) : cr_W p l e R s m args below meth c sfC 97 base D cA 7 (MQ below (cr_Qi sfC 97 base D cA res) args s 0 0 (cr_A 97 base)) σ 0 [(0, .ref (base + 0)), (1, .int a1), (2, .int a2), (3, .int a3), (4, .long a4)] [] := by
  unfold f_X10_item at h
  refine g_aload_n (pc' := 1) C dX10_item_0 0 rfl rfl ?_
  refine g_iload_n (pc' := 2) C dX10_item_1 1 rfl rfl ?_
  refine g_iload_n (pc' := 3) C dX10_item_2 2 rfl rfl ?_
  obtain ⟨q1, h2, h⟩ := bind_some h
  refine g_callVi (pc' := 6) (res := q1) C [.int a1, .int a2] cY_X10_isRow rfl (o := 0) (by decide) rfl mv_X10_isRow mm_X10_286 ⟨Nat.le_trans (by decide) hR.1, Nat.le_trans (by decide) hR.2⟩ rfl (Nat.le_of_ble_eq_true rfl) rfl dX10_item_3 (c_X10_isRow l base D cA σ a1 a2 q1 h2) rfl ?_
  refine g_if_ne (pc' := 9) (tgt := 11) C dX10_item_6 (by decide) rfl (fun hc => ?_) (fun hc => ?_)
  · rw [if_neg hc] at h
    refine g_aload_n (pc' := 12) C dX10_item_11 0 rfl rfl ?_
    refine gg_X10_49 (pc' := 15) (o := 0) (r := 88) C rfl rfl dX10_item_12 rfl ?_
    refine g_iload_n (pc' := 16) C dX10_item_15 1 rfl rfl ?_
    obtain ⟨h3, h⟩ := chk_some h
    refine g_aald (pc' := 17) C (o := 88) (by decide) rfl (cn := "ClashRocks$Row") rfl h3 dX10_item_16 rfl ?_
    refine g_iload_n (pc' := 18) C dX10_item_17 2 rfl rfl ?_
    refine g_iload_n (pc' := 19) C dX10_item_18 3 rfl rfl ?_
    refine g_iconst (pc' := 20) (v := 1) C dX10_item_19 (by decide) rfl ?_
    obtain ⟨q4, h5, h⟩ := bind_some h
    obtain ⟨h6, h⟩ := chk_some h
    refine g_callVi (pc' := 23) (res := q4) C [.int a2, .int a3, .int 1] cY_X4_refusal rfl (o := 89 + 2 * a1.toNatClampNeg) (kC_lt h6 (by decide)) (sfC_4 h6) mv_X4_refusal mm_X10_289 ⟨Nat.le_trans (by decide) hR.1, Nat.le_trans (by decide) hR.2⟩ rfl (Nat.le_of_ble_eq_true rfl) rfl dX10_item_20 (c_X4_refusal l base D cA q1.1 (89 + 2 * a1.toNatClampNeg) a2 a3 1 q4 h5) rfl ?_
    obtain ⟨v7, e8, h⟩ := let_some h
    refine g_nameI e8 ?_
    refine g_istore (pc' := 25) (lv' := [(6, .int v7), (0, .ref (base + 0)), (1, .int a1), (2, .int a2), (3, .int a3), (4, .long a4)]) C dX10_item_23 (by decide) rfl rfl ?_
    refine g_iload (pc' := 27) C dX10_item_25 0 rfl rfl ?_
    refine g_if_eq (pc' := 30) (tgt := 33) C dX10_item_27 (by decide) rfl (fun hc => ?_) (fun hc => ?_)
    · rw [if_pos hc] at h
      refine g_aload_n (pc' := 34) C dX10_item_33 1 rfl rfl ?_
      refine gg_X10_49 (pc' := 37) (o := 0) (r := 88) C rfl rfl dX10_item_34 rfl ?_
      refine g_iload_n (pc' := 38) C dX10_item_37 2 rfl rfl ?_
      obtain ⟨h9, h⟩ := chk_some h
      refine g_aald (pc' := 39) C (o := 88) (by decide) rfl (cn := "ClashRocks$Row") rfl h9 dX10_item_38 rfl ?_
      obtain ⟨h10, h⟩ := chk_some h
      refine gg_X10_292 (pc' := 42) (o := 89 + 2 * a1.toNatClampNeg) (r := 89 + 2 * a1.toNatClampNeg + 1) C h10 rfl dX10_item_39 rfl ?_
      refine g_iload_n (pc' := 43) C dX10_item_42 4 rfl rfl ?_
      refine g_iload_n (pc' := 44) C dX10_item_43 3 rfl rfl ?_
      refine g_lload (pc' := 46) C dX10_item_44 5 rfl rfl ?_
      obtain ⟨q11, h12, h⟩ := bind_some h
      refine g_callSl (pc' := 49) (res := q11) C [.int a2, .long a4] cY_X10_lowestBits mv_X10_lowestBits mm_X10_306 ⟨Nat.le_trans (by decide) hR.1, Nat.le_trans (by decide) hR.2⟩ rfl (Nat.le_of_ble_eq_true rfl) rfl dX10_item_46 (c_X10_lowestBits l base D cA q4.1 a2 a4 q11 h12) rfl ?_
      obtain ⟨h13, h⟩ := chk_some h
      obtain ⟨h14, h⟩ := chk_some h
      obtain ⟨s15, e16, h⟩ := let_some h
      refine g_last (pc' := 50) C (o := 89 + 2 * a1.toNatClampNeg + 1) (kC_lt h13 (by decide)) (sfC_3016 h13) h14 dX10_item_49 rfl e16 ?_
      refine g_iconst (pc' := 51) (v := 1) C dX10_item_50 (by decide) rfl ?_
      exact g_iret C hr dX10_item_51 h
    · rw [if_neg hc] at h
      refine g_iload (pc' := 32) C dX10_item_30 0 rfl rfl ?_
      exact g_iret C hr dX10_item_32 h
  · rw [if_pos hc] at h
    refine g_iconst (pc' := 10) (v := (-1)) C dX10_item_9 (by decide) rfl ?_
    exact g_iret C hr dX10_item_10 h
theorem c_X10_item (l : Launch) (base : Nat) (D : va_G) (cA : Nat → ClassId) (σ : cr_S) (a1 : Int32) (a2 : Int32) (a3 : Int32) (a4 : Int64) (res : cr_S × Int32) (h : f_X10_item σ a1 a2 a3 a4 = some res) : cr_M l yX10_item cX10_item 7 (some .int) 2 45 sfC 97 base D cA [.ref (base + 0), .int a1, .int a2, .int a3, .long a4] σ (cr_Qi sfC 97 base D cA res) := by
  refine cr_enter [.ref (base + 0), .int a1, .int a2, .int a3, .long a4] [(0, .ref (base + 0)), (1, .int a1), (2, .int a2), (3, .int a3), (4, .long a4)] (by decide) (Nat.le_of_ble_eq_true rfl) rfl ?_
  intro p e R s m below meth c C hr hR
  exact w_X10_item C hr hR σ a1 a2 a3 a4 h
def f_X10_copy (σ : cr_S) (a1 : Int32) (a2 : Int32) (a3 : Int32) (a4 : Int32) (a5 : Int32) : Option (cr_S × Int32) :=
  Option.bind (f_X10_isWithin σ a1 0 3) (fun q1 => (if q1.2 = 0 then some (q1.1, (-1)) else Option.bind (f_X10_isWithin q1.1 a3 0 3) (fun q3 => (if q3.2 = 0 then some (q3.1, (-1)) else chk (inb a1 4) (chk (inb a3 4) (chk (kC (89 + 2 * a1.toNatClampNeg) = 4) ((if (rF q3.1 (89 + 2 * a1.toNatClampNeg) 1) = 0 then some (q3.1, (-11)) else chk (kC (89 + 2 * a3.toNatClampNeg) = 4) ((if (rF q3.1 (89 + 2 * a3.toNatClampNeg) 1) = 0 then some (q3.1, (-11)) else chk (kC (89 + 2 * a1.toNatClampNeg) = 4) (chk (kC (89 + 2 * a3.toNatClampNeg) = 4) ((if (rF q3.1 (89 + 2 * a1.toNatClampNeg) 2) = (rF q3.1 (89 + 2 * a3.toNatClampNeg) 2) then Option.bind (f_X4_hasItems q3.1 (89 + 2 * a1.toNatClampNeg) a2 a5) (fun q11 => chk (kC (89 + 2 * a1.toNatClampNeg) = 4) ((if q11.2 = 0 then some (q11.1, (-13)) else Option.bind (f_X4_hasItems q11.1 (89 + 2 * a3.toNatClampNeg) a4 a5) (fun q14 => chk (kC (89 + 2 * a3.toNatClampNeg) = 4) ((if q14.2 = 0 then some (q14.1, (-13)) else chk (kC (89 + 2 * a1.toNatClampNeg) = 4) (chk (kC (89 + 2 * a3.toNatClampNeg) = 4) (chk (kC (89 + 2 * a1.toNatClampNeg + 1) = 3016) (chk (kC (89 + 2 * a3.toNatClampNeg + 1) = 3016) (chk (cpOk a2 a4 a5 16 16) (cr_let (sC q14.1 (89 + 2 * a1.toNatClampNeg + 1) (89 + 2 * a3.toNatClampNeg + 1) a2 a4 a5) (fun s22 => some (s22, a5))))))))))))) else some (q3.1, (-12)))))))))))))))
set_option maxRecDepth 100000 in
set_option maxHeartbeats 4000000 in
theorem w_X10_copy (C : cr_C p l e R s m args below meth c sfC 97 base D cA cX10_copy 8 RX10) (hr : meth.sig.returnType = some .int) (hR : 1 ≤ R.frames ∧ 60 ≤ R.locals) {res : cr_S × Int32} (σ : cr_S) (a1 : Int32) (a2 : Int32) (a3 : Int32) (a4 : Int32) (a5 : Int32) (h : f_X10_copy σ a1 a2 a3 a4 a5 = some res) : cr_W p l e R s m args below meth c sfC 97 base D cA 8 (MQ below (cr_Qi sfC 97 base D cA res) args s 0 0 (cr_A 97 base)) σ 0 [(0, .ref (base + 0)), (1, .int a1), (2, .int a2), (3, .int a3), (4, .int a4), (5, .int a5)] [] := by
  unfold f_X10_copy at h
  refine g_iload_n (pc' := 1) C dX10_copy_0 1 rfl rfl ?_
  refine g_iconst (pc' := 2) (v := 0) C dX10_copy_1 (by decide) rfl ?_
  refine g_iconst (pc' := 3) (v := 3) C dX10_copy_2 (by decide) rfl ?_
  obtain ⟨q1, h2, h⟩ := bind_some h
  refine g_callSi (pc' := 6) (res := q1) C [.int a1, .int 0, .int 3] cY_X10_isWithin mv_X10_isWithin mm_X10_54 ⟨Nat.le_trans (by decide) hR.1, Nat.le_trans (by decide) hR.2⟩ rfl (Nat.le_of_ble_eq_true rfl) rfl dX10_copy_3 (c_X10_isWithin l base D cA σ a1 0 3 q1 h2) rfl ?_
  refine g_if_eq (pc' := 9) (tgt := 18) C dX10_copy_6 (by decide) rfl (fun hc => ?_) (fun hc => ?_)
  · rw [if_pos hc] at h
    refine g_iconst (pc' := 19) (v := (-1)) C dX10_copy_18 (by decide) rfl ?_
    exact g_iret C hr dX10_copy_19 h
  · rw [if_neg hc] at h
    refine g_iload_n (pc' := 10) C dX10_copy_9 3 rfl rfl ?_
    refine g_iconst (pc' := 11) (v := 0) C dX10_copy_10 (by decide) rfl ?_
    refine g_iconst (pc' := 12) (v := 3) C dX10_copy_11 (by decide) rfl ?_
    obtain ⟨q3, h4, h⟩ := bind_some h
    refine g_callSi (pc' := 15) (res := q3) C [.int a3, .int 0, .int 3] cY_X10_isWithin mv_X10_isWithin mm_X10_54 ⟨Nat.le_trans (by decide) hR.1, Nat.le_trans (by decide) hR.2⟩ rfl (Nat.le_of_ble_eq_true rfl) rfl dX10_copy_12 (c_X10_isWithin l base D cA q1.1 a3 0 3 q3 h4) rfl ?_
    refine g_if_ne (pc' := 18) (tgt := 20) C dX10_copy_15 (by decide) rfl (fun hc => ?_) (fun hc => ?_)
    · rw [if_neg hc] at h
      refine g_aload_n (pc' := 21) C dX10_copy_20 0 rfl rfl ?_
      refine gg_X10_49 (pc' := 24) (o := 0) (r := 88) C rfl rfl dX10_copy_21 rfl ?_
      refine g_iload_n (pc' := 25) C dX10_copy_24 1 rfl rfl ?_
      obtain ⟨h5, h⟩ := chk_some h
      refine g_aald (pc' := 26) C (o := 88) (by decide) rfl (cn := "ClashRocks$Row") rfl h5 dX10_copy_25 rfl ?_
      refine g_astore (pc' := 28) (lv' := [(6, .ref (base + (89 + 2 * a1.toNatClampNeg))), (0, .ref (base + 0)), (1, .int a1), (2, .int a2), (3, .int a3), (4, .int a4), (5, .int a5)]) C dX10_copy_26 (by decide) rfl rfl ?_
      refine g_aload_n (pc' := 29) C dX10_copy_28 1 rfl rfl ?_
      refine gg_X10_49 (pc' := 32) (o := 0) (r := 88) C rfl rfl dX10_copy_29 rfl ?_
      refine g_iload_n (pc' := 33) C dX10_copy_32 4 rfl rfl ?_
      obtain ⟨h6, h⟩ := chk_some h
      refine g_aald (pc' := 34) C (o := 88) (by decide) rfl (cn := "ClashRocks$Row") rfl h6 dX10_copy_33 rfl ?_
      refine g_astore (pc' := 36) (lv' := [(7, .ref (base + (89 + 2 * a3.toNatClampNeg))), (6, .ref (base + (89 + 2 * a1.toNatClampNeg))), (0, .ref (base + 0)), (1, .int a1), (2, .int a2), (3, .int a3), (4, .int a4), (5, .int a5)]) C dX10_copy_34 (by decide) rfl rfl ?_
      refine g_aload (pc' := 38) C dX10_copy_36 1 rfl rfl ?_
      obtain ⟨h7, h⟩ := chk_some h
      refine gg_X10_302 (pc' := 41) (o := 89 + 2 * a1.toNatClampNeg) C h7 dX10_copy_38 rfl ?_
      refine g_if_eq (pc' := 44) (tgt := 52) C dX10_copy_41 (by decide) rfl (fun hc => ?_) (fun hc => ?_)
      · rw [if_pos hc] at h
        refine g_bipush (pc' := 54) (v := (-11)) C dX10_copy_52 (by decide) rfl ?_
        exact g_iret C hr dX10_copy_54 h
      · rw [if_neg hc] at h
        refine g_aload (pc' := 46) C dX10_copy_44 0 rfl rfl ?_
        obtain ⟨h8, h⟩ := chk_some h
        refine gg_X10_302 (pc' := 49) (o := 89 + 2 * a3.toNatClampNeg) C h8 dX10_copy_46 rfl ?_
        refine g_if_ne (pc' := 52) (tgt := 55) C dX10_copy_49 (by decide) rfl (fun hc => ?_) (fun hc => ?_)
        · rw [if_neg hc] at h
          refine g_aload (pc' := 57) C dX10_copy_55 1 rfl rfl ?_
          obtain ⟨h9, h⟩ := chk_some h
          refine gg_X10_310 (pc' := 60) (o := 89 + 2 * a1.toNatClampNeg) C h9 dX10_copy_57 rfl ?_
          refine g_aload (pc' := 62) C dX10_copy_60 0 rfl rfl ?_
          obtain ⟨h10, h⟩ := chk_some h
          refine gg_X10_310 (pc' := 65) (o := 89 + 2 * a3.toNatClampNeg) C h10 dX10_copy_62 rfl ?_
          refine g_icmp_eq (pc' := 68) (tgt := 71) C dX10_copy_65 (by decide) rfl (fun hc => ?_) (fun hc => ?_)
          · rw [if_pos hc] at h
            refine g_aload (pc' := 73) C dX10_copy_71 1 rfl rfl ?_
            refine g_iload_n (pc' := 74) C dX10_copy_73 4 rfl rfl ?_
            refine g_iload (pc' := 76) C dX10_copy_74 7 rfl rfl ?_
            obtain ⟨q11, h12, h⟩ := bind_some h
            obtain ⟨h13, h⟩ := chk_some h
            refine g_callVi (pc' := 79) (res := q11) C [.int a2, .int a5] cY_X4_hasItems rfl (o := 89 + 2 * a1.toNatClampNeg) (kC_lt h13 (by decide)) (sfC_4 h13) mv_X4_hasItems mm_X10_313 ⟨Nat.le_trans (by decide) hR.1, Nat.le_trans (by decide) hR.2⟩ rfl (Nat.le_of_ble_eq_true rfl) rfl dX10_copy_76 (c_X4_hasItems l base D cA q3.1 (89 + 2 * a1.toNatClampNeg) a2 a5 q11 h12) rfl ?_
            refine g_if_eq (pc' := 82) (tgt := 94) C dX10_copy_79 (by decide) rfl (fun hc => ?_) (fun hc => ?_)
            · rw [if_pos hc] at h
              refine g_bipush (pc' := 96) (v := (-13)) C dX10_copy_94 (by decide) rfl ?_
              exact g_iret C hr dX10_copy_96 h
            · rw [if_neg hc] at h
              refine g_aload (pc' := 84) C dX10_copy_82 0 rfl rfl ?_
              refine g_iload (pc' := 86) C dX10_copy_84 6 rfl rfl ?_
              refine g_iload (pc' := 88) C dX10_copy_86 7 rfl rfl ?_
              obtain ⟨q14, h15, h⟩ := bind_some h
              obtain ⟨h16, h⟩ := chk_some h
              refine g_callVi (pc' := 91) (res := q14) C [.int a4, .int a5] cY_X4_hasItems rfl (o := 89 + 2 * a3.toNatClampNeg) (kC_lt h16 (by decide)) (sfC_4 h16) mv_X4_hasItems mm_X10_313 ⟨Nat.le_trans (by decide) hR.1, Nat.le_trans (by decide) hR.2⟩ rfl (Nat.le_of_ble_eq_true rfl) rfl dX10_copy_88 (c_X4_hasItems l base D cA q11.1 (89 + 2 * a3.toNatClampNeg) a4 a5 q14 h15) rfl ?_
              refine g_if_ne (pc' := 94) (tgt := 97) C dX10_copy_91 (by decide) rfl (fun hc => ?_) (fun hc => ?_)
              · rw [if_neg hc] at h
                refine g_aload (pc' := 99) C dX10_copy_97 1 rfl rfl ?_
                obtain ⟨h17, h⟩ := chk_some h
                refine gg_X10_292 (pc' := 102) (o := 89 + 2 * a1.toNatClampNeg) (r := 89 + 2 * a1.toNatClampNeg + 1) C h17 rfl dX10_copy_99 rfl ?_
                refine g_iload_n (pc' := 103) C dX10_copy_102 4 rfl rfl ?_
                refine g_aload (pc' := 105) C dX10_copy_103 0 rfl rfl ?_
                obtain ⟨h18, h⟩ := chk_some h
                refine gg_X10_292 (pc' := 108) (o := 89 + 2 * a3.toNatClampNeg) (r := 89 + 2 * a3.toNatClampNeg + 1) C h18 rfl dX10_copy_105 rfl ?_
                refine g_iload (pc' := 110) C dX10_copy_108 6 rfl rfl ?_
                refine g_iload (pc' := 112) C dX10_copy_110 7 rfl rfl ?_
                obtain ⟨h19, h⟩ := chk_some h
                obtain ⟨h20, h⟩ := chk_some h
                obtain ⟨h21, h⟩ := chk_some h
                obtain ⟨s22, e23, h⟩ := let_some h
                refine g_copyl (pc' := 115) (a := 89 + 2 * a1.toNatClampNeg + 1) (b := 89 + 2 * a3.toNatClampNeg + 1) C mm_X10_316 (kC_lt h19 (by decide)) (sfC_3016 h19) (kC_lt h20 (by decide)) (sfC_3016 h20) h21 ⟨Nat.le_trans (by decide) hR.1, Nat.le_trans (by decide) hR.2⟩ dX10_copy_112 rfl e23 ?_
                refine g_iload (pc' := 117) C dX10_copy_115 7 rfl rfl ?_
                exact g_iret C hr dX10_copy_117 h
              · rw [if_pos hc] at h
                refine g_bipush (pc' := 96) (v := (-13)) C dX10_copy_94 (by decide) rfl ?_
                exact g_iret C hr dX10_copy_96 h
          · rw [if_neg hc] at h
            refine g_bipush (pc' := 70) (v := (-12)) C dX10_copy_68 (by decide) rfl ?_
            exact g_iret C hr dX10_copy_70 h
        · rw [if_pos hc] at h
          refine g_bipush (pc' := 54) (v := (-11)) C dX10_copy_52 (by decide) rfl ?_
          exact g_iret C hr dX10_copy_54 h
    · rw [if_pos hc] at h
      refine g_iconst (pc' := 19) (v := (-1)) C dX10_copy_18 (by decide) rfl ?_
      exact g_iret C hr dX10_copy_19 h
theorem c_X10_copy (l : Launch) (base : Nat) (D : va_G) (cA : Nat → ClassId) (σ : cr_S) (a1 : Int32) (a2 : Int32) (a3 : Int32) (a4 : Int32) (a5 : Int32) (res : cr_S × Int32) (h : f_X10_copy σ a1 a2 a3 a4 a5 = some res) : cr_M l yX10_copy cX10_copy 8 (some .int) 1 60 sfC 97 base D cA [.ref (base + 0), .int a1, .int a2, .int a3, .int a4, .int a5] σ (cr_Qi sfC 97 base D cA res) := by
  refine cr_enter [.ref (base + 0), .int a1, .int a2, .int a3, .int a4, .int a5] [(0, .ref (base + 0)), (1, .int a1), (2, .int a2), (3, .int a3), (4, .int a4), (5, .int a5)] (by decide) (Nat.le_of_ble_eq_true rfl) rfl ?_
  intro p e R s m below meth c C hr hR
  exact w_X10_copy C hr hR σ a1 a2 a3 a4 a5 h
end

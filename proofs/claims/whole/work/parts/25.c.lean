section
variable {p : Program} {l : Launch} {e : Env} {R : Room} {s : State} {m : MethodId} {args : Array Value} {below : List Frame} {meth : Method} {c : Code} {base : Nat} {D : va_G} {cA : Nat → ClassId}
def f_X10_convoyTime_B54 (r4 : cr_S → Int32 → Int32 → Int32 → Option (cr_S × Int32)) (σ : cr_S) (x1 : Int32) (x2 : Int32) (x3 : Int32) : Option (cr_S × Int32) :=
  cr_let (x3 + 1) (fun v1 => r4 σ x1 x2 v1)
set_option maxRecDepth 100000 in
set_option maxHeartbeats 4000000 in
theorem w_X10_convoyTime_B54 (C : cr_C p l e R s m args below meth c sfC 97 base D cA cX10_convoyTime 4 RX10) (hr : meth.sig.returnType = some .int) (hR : 1 ≤ R.frames ∧ 21 ≤ R.locals) {res : cr_S × Int32} (r4 : cr_S → Int32 → Int32 → Int32 → Option (cr_S × Int32)) (hr4 : ∀ (σ : cr_S) (x1 : Int32) (x2 : Int32) (x3 : Int32), r4 σ x1 x2 x3 = some res → cr_W p l e R s m args below meth c sfC 97 base D cA 4 (MQ below (cr_Qi sfC 97 base D cA res) args s 0 0 (cr_A 97 base)) σ 4 [(0, .ref (base + 0)), (1, .int x1), (2, .int x2), (3, .int x3)] []) (σ : cr_S) (x1 : Int32) (x2 : Int32) (x3 : Int32) (h : f_X10_convoyTime_B54 r4 σ x1 x2 x3 = some res) : cr_W p l e R s m args below meth c sfC 97 base D cA 4 (MQ below (cr_Qi sfC 97 base D cA res) args s 0 0 (cr_A 97 base)) σ 54 [(0, .ref (base + 0)), (1, .int x1), (2, .int x2), (3, .int x3)] [] := by
  unfold f_X10_convoyTime_B54 at h
  obtain ⟨v1, e2, h⟩ := let_some h
  refine g_iinc (pc' := 57) (v := v1) (lv' := [(3, .int v1), (0, .ref (base + 0)), (1, .int x1), (2, .int x2)]) C dX10_convoyTime_54 3 rfl (by rw [e2]; rfl) (by decide) rfl rfl ?_
  refine g_goto (tgt := 4) C dX10_convoyTime_57 (by decide) ?_
  exact g_sub C [1, 2, 3, 0] rfl (hr4 _ _ _ _ h)
def f_X10_convoyTime_L4  : Nat → cr_S → Int32 → Int32 → Int32 → Option (cr_S × Int32)
  | 0, _, _, _, _ => none
  | n + 1, σ, x1, x2, x3 =>
    (if (rF σ 1 6) ≤ x3 then some (σ, x2) else (if ((x1 >>> (x3 &&& 31)) &&& 1) = 1 then chk (inb x3 5) (Option.bind (f_X6_span σ (15 + x3.toNatClampNeg)) (fun q4 => chk (kC (15 + x3.toNatClampNeg) = 6) (chk (inb x3 5) (Option.bind (f_X6_high q4.1 (15 + x3.toNatClampNeg)) (fun q8 => chk (kC (15 + x3.toNatClampNeg) = 6) (Option.bind (f_X10_secondsFor q8.1 q4.2 q8.2) (fun q11 => cr_let (x2 + q11.2) (fun v13 => f_X10_convoyTime_B54 (f_X10_convoyTime_L4 n) q11.1 x1 v13 x3)))))))) else f_X10_convoyTime_B54 (f_X10_convoyTime_L4 n) σ x1 x2 x3))
set_option maxRecDepth 100000 in
set_option maxHeartbeats 4000000 in
theorem w_X10_convoyTime_L4 (C : cr_C p l e R s m args below meth c sfC 97 base D cA cX10_convoyTime 4 RX10) (hr : meth.sig.returnType = some .int) (hR : 1 ≤ R.frames ∧ 21 ≤ R.locals) {res : cr_S × Int32}  : ∀ (n : Nat) (σ : cr_S) (x1 : Int32) (x2 : Int32) (x3 : Int32), f_X10_convoyTime_L4 n σ x1 x2 x3 = some res → cr_W p l e R s m args below meth c sfC 97 base D cA 4 (MQ below (cr_Qi sfC 97 base D cA res) args s 0 0 (cr_A 97 base)) σ 4 [(0, .ref (base + 0)), (1, .int x1), (2, .int x2), (3, .int x3)] [] := by
  intro n
  induction n with
  | zero =>
    intro σ x1 x2 x3 h
    cases h
  | succ n ih =>
    intro σ x1 x2 x3 h
    rw [f_X10_convoyTime_L4] at h
    refine g_iload_n (pc' := 5) C dX10_convoyTime_4 3 rfl rfl ?_
    refine g_aload_n (pc' := 6) C dX10_convoyTime_5 0 rfl rfl ?_
    refine gg_X10_12 (pc' := 9) (o := 0) (r := 1) C rfl rfl dX10_convoyTime_6 rfl ?_
    refine gg_X10_82 (pc' := 12) (o := 1) C rfl dX10_convoyTime_9 rfl ?_
    refine g_icmp_ge (pc' := 15) (tgt := 60) C dX10_convoyTime_12 (by decide) rfl (fun hc => ?_) (fun hc => ?_)
    · rw [if_pos hc] at h
      refine g_iload_n (pc' := 61) C dX10_convoyTime_60 2 rfl rfl ?_
      exact g_iret C hr dX10_convoyTime_61 h
    · rw [if_neg hc] at h
      refine g_iload_n (pc' := 16) C dX10_convoyTime_15 1 rfl rfl ?_
      refine g_iload_n (pc' := 17) C dX10_convoyTime_16 3 rfl rfl ?_
      refine g_ishr (pc' := 18) C dX10_convoyTime_17 rfl ?_
      refine g_iconst (pc' := 19) (v := 1) C dX10_convoyTime_18 (by decide) rfl ?_
      refine g_iand (pc' := 20) C dX10_convoyTime_19 rfl ?_
      refine g_iconst (pc' := 21) (v := 1) C dX10_convoyTime_20 (by decide) rfl ?_
      refine g_icmp_ne (pc' := 24) (tgt := 54) C dX10_convoyTime_21 (by decide) rfl (fun hc => ?_) (fun hc => ?_)
      · rw [if_neg hc] at h
        exact g_sub C [0, 1, 2, 3] rfl (w_X10_convoyTime_B54 C hr hR (f_X10_convoyTime_L4 n) ih _ _ _ _ h)
      · rw [if_pos hc] at h
        refine g_iload_n (pc' := 25) C dX10_convoyTime_24 2 rfl rfl ?_
        refine g_aload_n (pc' := 26) C dX10_convoyTime_25 0 rfl rfl ?_
        refine gg_X10_12 (pc' := 29) (o := 0) (r := 1) C rfl rfl dX10_convoyTime_26 rfl ?_
        refine gg_X10_85 (pc' := 32) (o := 1) (r := 3) C rfl rfl dX10_convoyTime_29 rfl ?_
        refine g_iload_n (pc' := 33) C dX10_convoyTime_32 3 rfl rfl ?_
        obtain ⟨h3, h⟩ := chk_some h
        refine g_aald (pc' := 34) C (o := 3) (by decide) rfl (cn := "ClashRocks$Ship") rfl h3 dX10_convoyTime_33 rfl ?_
        obtain ⟨q4, h5, h⟩ := bind_some h
        obtain ⟨h6, h⟩ := chk_some h
        refine g_callVi (pc' := 37) (res := q4) C [] cY_X6_span rfl (o := 15 + x3.toNatClampNeg) (kC_lt h6 (by decide)) (sfC_6 h6) mv_X6_span mm_X10_120 ⟨Nat.le_trans (by decide) hR.1, Nat.le_trans (by decide) hR.2⟩ rfl (Nat.le_of_ble_eq_true rfl) rfl dX10_convoyTime_34 (c_X6_span l base D cA σ (15 + x3.toNatClampNeg) q4 h5) rfl ?_
        refine g_aload_n (pc' := 38) C dX10_convoyTime_37 0 rfl rfl ?_
        refine gg_X10_12 (pc' := 41) (o := 0) (r := 1) C rfl rfl dX10_convoyTime_38 rfl ?_
        refine gg_X10_85 (pc' := 44) (o := 1) (r := 3) C rfl rfl dX10_convoyTime_41 rfl ?_
        refine g_iload_n (pc' := 45) C dX10_convoyTime_44 3 rfl rfl ?_
        obtain ⟨h7, h⟩ := chk_some h
        refine g_aald (pc' := 46) C (o := 3) (by decide) rfl (cn := "ClashRocks$Ship") rfl h7 dX10_convoyTime_45 rfl ?_
        obtain ⟨q8, h9, h⟩ := bind_some h
        obtain ⟨h10, h⟩ := chk_some h
        refine g_callVi (pc' := 49) (res := q8) C [] cY_X6_high rfl (o := 15 + x3.toNatClampNeg) (kC_lt h10 (by decide)) (sfC_6 h10) mv_X6_high mm_X10_117 ⟨Nat.le_trans (by decide) hR.1, Nat.le_trans (by decide) hR.2⟩ rfl (Nat.le_of_ble_eq_true rfl) rfl dX10_convoyTime_46 (c_X6_high l base D cA q4.1 (15 + x3.toNatClampNeg) q8 h9) rfl ?_
        obtain ⟨q11, h12, h⟩ := bind_some h
        refine g_callSi (pc' := 52) (res := q11) C [.int q4.2, .int q8.2] cY_X10_secondsFor mv_X10_secondsFor mm_X10_328 ⟨Nat.le_trans (by decide) hR.1, Nat.le_trans (by decide) hR.2⟩ rfl (Nat.le_of_ble_eq_true rfl) rfl dX10_convoyTime_49 (c_X10_secondsFor l base D cA q8.1 q4.2 q8.2 q11 h12) rfl ?_
        refine g_iadd (pc' := 53) C dX10_convoyTime_52 rfl ?_
        obtain ⟨v13, e14, h⟩ := let_some h
        refine g_nameI e14 ?_
        refine g_istore_n (pc' := 54) (lv' := [(2, .int v13), (0, .ref (base + 0)), (1, .int x1), (3, .int x3)]) C dX10_convoyTime_53 rfl (by decide) rfl rfl ?_
        exact g_sub C [1, 2, 0, 3] rfl (w_X10_convoyTime_B54 C hr hR (f_X10_convoyTime_L4 n) ih _ _ _ _ h)
def f_X10_convoyTime (σ : cr_S) (a1 : Int32) : Option (cr_S × Int32) :=
  f_X10_convoyTime_L4 cr_fuel σ a1 0 0
set_option maxRecDepth 100000 in
set_option maxHeartbeats 4000000 in
theorem w_X10_convoyTime (C : cr_C p l e R s m args below meth c sfC 97 base D cA cX10_convoyTime 4 RX10) (hr : meth.sig.returnType = some .int) (hR : 1 ≤ R.frames ∧ 21 ≤ R.locals) {res : cr_S × Int32} (σ : cr_S) (a1 : Int32) (h : f_X10_convoyTime σ a1 = some res) : cr_W p l e R s m args below meth c sfC 97 base D cA 4 (MQ below (cr_Qi sfC 97 base D cA res) args s 0 0 (cr_A 97 base)) σ 0 [(0, .ref (base + 0)), (1, .int a1)] [] := by
  unfold f_X10_convoyTime at h
  refine g_iconst (pc' := 1) (v := 0) C dX10_convoyTime_0 (by decide) rfl ?_
  refine g_istore_n (pc' := 2) (lv' := [(2, .int 0), (0, .ref (base + 0)), (1, .int a1)]) C dX10_convoyTime_1 rfl (by decide) rfl rfl ?_
  refine g_iconst (pc' := 3) (v := 0) C dX10_convoyTime_2 (by decide) rfl ?_
  refine g_istore_n (pc' := 4) (lv' := [(3, .int 0), (2, .int 0), (0, .ref (base + 0)), (1, .int a1)]) C dX10_convoyTime_3 rfl (by decide) rfl rfl ?_
  exact g_sub C [2, 3, 1, 0] rfl (w_X10_convoyTime_L4 C hr hR _ _ _ _ _ h)
theorem c_X10_convoyTime (l : Launch) (base : Nat) (D : va_G) (cA : Nat → ClassId) (σ : cr_S) (a1 : Int32) (res : cr_S × Int32) (h : f_X10_convoyTime σ a1 = some res) : cr_M l yX10_convoyTime cX10_convoyTime 4 (some .int) 1 21 sfC 97 base D cA [.ref (base + 0), .int a1] σ (cr_Qi sfC 97 base D cA res) := by
  refine cr_enter [.ref (base + 0), .int a1] [(0, .ref (base + 0)), (1, .int a1)] (by decide) (Nat.le_of_ble_eq_true rfl) rfl ?_
  intro p e R s m below meth c C hr hR
  exact w_X10_convoyTime C hr hR σ a1 h
def f_X10_convoy_B131 (r76 : cr_S → Int32 → Int32 → Int32 → Int32 → Option (cr_S × Int32)) (σ : cr_S) (x3 : Int32) (x5 : Int32) (x6 : Int32) (x7 : Int32) : Option (cr_S × Int32) :=
  cr_let (x7 + 1) (fun v14 => r76 σ x3 x5 x6 v14)
set_option maxRecDepth 100000 in
set_option maxHeartbeats 4000000 in
theorem w_X10_convoy_B131 (C : cr_C p l e R s m args below meth c sfC 97 base D cA cX10_convoy 9 RX10) (hr : meth.sig.returnType = some .int) (hR : 3 ≤ R.frames ∧ 68 ≤ R.locals) {res : cr_S × Int32} (r76 : cr_S → Int32 → Int32 → Int32 → Int32 → Option (cr_S × Int32)) (hr76 : ∀ (σ : cr_S) (x3 : Int32) (x5 : Int32) (x6 : Int32) (x7 : Int32), r76 σ x3 x5 x6 x7 = some res → cr_W p l e R s m args below meth c sfC 97 base D cA 9 (MQ below (cr_Qi sfC 97 base D cA res) args s 0 0 (cr_A 97 base)) σ 76 [(0, .ref (base + 0)), (3, .int x3), (5, .int x5), (6, .int x6), (7, .int x7)] []) (σ : cr_S) (x3 : Int32) (x5 : Int32) (x6 : Int32) (x7 : Int32) (h : f_X10_convoy_B131 r76 σ x3 x5 x6 x7 = some res) : cr_W p l e R s m args below meth c sfC 97 base D cA 9 (MQ below (cr_Qi sfC 97 base D cA res) args s 0 0 (cr_A 97 base)) σ 131 [(0, .ref (base + 0)), (3, .int x3), (5, .int x5), (6, .int x6), (7, .int x7)] [] := by
  unfold f_X10_convoy_B131 at h
  obtain ⟨v14, e15, h⟩ := let_some h
  refine g_iinc (pc' := 134) (v := v14) (lv' := [(7, .int v14), (0, .ref (base + 0)), (3, .int x3), (5, .int x5), (6, .int x6)]) C dX10_convoy_131 4 rfl (by rw [e15]; rfl) (by decide) rfl rfl ?_
  refine g_goto (tgt := 76) C dX10_convoy_134 (by decide) ?_
  exact g_sub C [1, 2, 3, 4, 0] rfl (hr76 _ _ _ _ _ h)
def f_X10_convoy_B96 (r76 : cr_S → Int32 → Int32 → Int32 → Int32 → Option (cr_S × Int32)) (σ : cr_S) (x3 : Int32) (x5 : Int32) (x6 : Int32) (x7 : Int32) (t0 : Int32) : Option (cr_S × Int32) :=
  (if t0 = 0 then f_X10_convoy_B131 r76 σ x3 x5 x6 x7 else Option.bind (f_J6_bitCount_0f7a4 σ x7) (fun q16 => Option.bind (f_J6_bitCount_0f7a4 q16.1 x6) (fun q18 => (if q16.2 ≤ q18.2 then f_X10_convoy_B131 r76 q18.1 x3 x5 x6 x7 else Option.bind (f_X10_convoyTime q18.1 x7) (fun q20 => (if x5 < q20.2 then f_X10_convoy_B131 r76 q20.1 x3 x5 x6 x7 else f_X10_convoy_B131 r76 q20.1 x3 x5 x7 x7))))))
set_option maxRecDepth 100000 in
set_option maxHeartbeats 4000000 in
theorem w_X10_convoy_B96 (C : cr_C p l e R s m args below meth c sfC 97 base D cA cX10_convoy 9 RX10) (hr : meth.sig.returnType = some .int) (hR : 3 ≤ R.frames ∧ 68 ≤ R.locals) {res : cr_S × Int32} (r76 : cr_S → Int32 → Int32 → Int32 → Int32 → Option (cr_S × Int32)) (hr76 : ∀ (σ : cr_S) (x3 : Int32) (x5 : Int32) (x6 : Int32) (x7 : Int32), r76 σ x3 x5 x6 x7 = some res → cr_W p l e R s m args below meth c sfC 97 base D cA 9 (MQ below (cr_Qi sfC 97 base D cA res) args s 0 0 (cr_A 97 base)) σ 76 [(0, .ref (base + 0)), (3, .int x3), (5, .int x5), (6, .int x6), (7, .int x7)] []) (σ : cr_S) (x3 : Int32) (x5 : Int32) (x6 : Int32) (x7 : Int32) (t0 : Int32) (h : f_X10_convoy_B96 r76 σ x3 x5 x6 x7 t0 = some res) : cr_W p l e R s m args below meth c sfC 97 base D cA 9 (MQ below (cr_Qi sfC 97 base D cA res) args s 0 0 (cr_A 97 base)) σ 96 [(0, .ref (base + 0)), (3, .int x3), (5, .int x5), (6, .int x6), (7, .int x7)] [.int t0] := by
  unfold f_X10_convoy_B96 at h
  refine g_istore (pc' := 98) (lv' := [(8, .int t0), (0, .ref (base + 0)), (3, .int x3), (5, .int x5), (6, .int x6), (7, .int x7)]) C dX10_convoy_96 (by decide) rfl rfl ?_
  refine g_iload (pc' := 100) C dX10_convoy_98 0 rfl rfl ?_
  refine g_if_eq (pc' := 103) (tgt := 131) C dX10_convoy_100 (by decide) rfl (fun hc => ?_) (fun hc => ?_)
  · rw [if_pos hc] at h
    exact g_sub C [1, 2, 3, 4, 5] rfl (w_X10_convoy_B131 C hr hR r76 hr76 _ _ _ _ _ h)
  · rw [if_neg hc] at h
    refine g_iload (pc' := 105) C dX10_convoy_103 5 rfl rfl ?_
    obtain ⟨q16, h17, h⟩ := bind_some h
    refine g_callSi (pc' := 108) (res := q16) C [.int x7] cY_J6_bitCount_0f7a4 mv_J6_bitCount_0f7a4 mm_X10_244 ⟨Nat.le_trans (by decide) hR.1, Nat.le_trans (by decide) hR.2⟩ rfl (Nat.le_of_ble_eq_true rfl) rfl dX10_convoy_105 (c_J6_bitCount_0f7a4 l base D cA σ x7 q16 h17) rfl ?_
    refine g_iload (pc' := 110) C dX10_convoy_108 4 rfl rfl ?_
    obtain ⟨q18, h19, h⟩ := bind_some h
    refine g_callSi (pc' := 113) (res := q18) C [.int x6] cY_J6_bitCount_0f7a4 mv_J6_bitCount_0f7a4 mm_X10_244 ⟨Nat.le_trans (by decide) hR.1, Nat.le_trans (by decide) hR.2⟩ rfl (Nat.le_of_ble_eq_true rfl) rfl dX10_convoy_110 (c_J6_bitCount_0f7a4 l base D cA q16.1 x6 q18 h19) rfl ?_
    refine g_icmp_le (pc' := 116) (tgt := 131) C dX10_convoy_113 (by decide) rfl (fun hc => ?_) (fun hc => ?_)
    · rw [if_pos hc] at h
      exact g_sub C [1, 2, 3, 4, 5] rfl (w_X10_convoy_B131 C hr hR r76 hr76 _ _ _ _ _ h)
    · rw [if_neg hc] at h
      refine g_aload_n (pc' := 117) C dX10_convoy_116 1 rfl rfl ?_
      refine g_iload (pc' := 119) C dX10_convoy_117 5 rfl rfl ?_
      obtain ⟨q20, h21, h⟩ := bind_some h
      refine g_callVi (pc' := 122) (res := q20) C [.int x7] cY_X10_convoyTime rfl (o := 0) (by decide) rfl mv_X10_convoyTime mm_X10_249 ⟨Nat.le_trans (by decide) hR.1, Nat.le_trans (by decide) hR.2⟩ rfl (Nat.le_of_ble_eq_true rfl) rfl dX10_convoy_119 (c_X10_convoyTime l base D cA q18.1 x7 q20 h21) rfl ?_
      refine g_iload (pc' := 124) C dX10_convoy_122 3 rfl rfl ?_
      refine g_icmp_gt (pc' := 127) (tgt := 131) C dX10_convoy_124 (by decide) rfl (fun hc => ?_) (fun hc => ?_)
      · rw [if_pos hc] at h
        exact g_sub C [1, 2, 3, 4, 5] rfl (w_X10_convoy_B131 C hr hR r76 hr76 _ _ _ _ _ h)
      · rw [if_neg hc] at h
        refine g_iload (pc' := 129) C dX10_convoy_127 5 rfl rfl ?_
        refine g_istore (pc' := 131) (lv' := [(6, .int x7), (8, .int t0), (0, .ref (base + 0)), (3, .int x3), (5, .int x5), (7, .int x7)]) C dX10_convoy_129 (by decide) rfl rfl ?_
        exact g_sub C [2, 3, 4, 0, 5] rfl (w_X10_convoy_B131 C hr hR r76 hr76 _ _ _ _ _ h)
def f_X10_convoy_L76  : Nat → cr_S → Int32 → Int32 → Int32 → Int32 → Option (cr_S × Int32)
  | 0, _, _, _, _, _ => none
  | n + 1, σ, x3, x5, x6, x7 =>
    (if x3 < x7 then some (σ, x6) else f_X10_convoy_B96 (f_X10_convoy_L76 n) σ x3 x5 x6 x7 (if (x7 &&& (x3 ^^^ (-1))) = 0 then 1 else 0))
set_option maxRecDepth 100000 in
set_option maxHeartbeats 4000000 in
theorem w_X10_convoy_L76 (C : cr_C p l e R s m args below meth c sfC 97 base D cA cX10_convoy 9 RX10) (hr : meth.sig.returnType = some .int) (hR : 3 ≤ R.frames ∧ 68 ≤ R.locals) {res : cr_S × Int32}  : ∀ (n : Nat) (σ : cr_S) (x3 : Int32) (x5 : Int32) (x6 : Int32) (x7 : Int32), f_X10_convoy_L76 n σ x3 x5 x6 x7 = some res → cr_W p l e R s m args below meth c sfC 97 base D cA 9 (MQ below (cr_Qi sfC 97 base D cA res) args s 0 0 (cr_A 97 base)) σ 76 [(0, .ref (base + 0)), (3, .int x3), (5, .int x5), (6, .int x6), (7, .int x7)] [] := by
  intro n
  induction n with
  | zero =>
    intro σ x3 x5 x6 x7 h
    cases h
  | succ n ih =>
    intro σ x3 x5 x6 x7 h
    rw [f_X10_convoy_L76] at h
    refine g_iload (pc' := 78) C dX10_convoy_76 4 rfl rfl ?_
    refine g_iload_n (pc' := 79) C dX10_convoy_78 1 rfl rfl ?_
    refine g_icmp_gt (pc' := 82) (tgt := 137) C dX10_convoy_79 (by decide) rfl (fun hc => ?_) (fun hc => ?_)
    · rw [if_pos hc] at h
      refine g_iload (pc' := 139) C dX10_convoy_137 3 rfl rfl ?_
      exact g_iret C hr dX10_convoy_139 h
    · rw [if_neg hc] at h
      refine g_iload (pc' := 84) C dX10_convoy_82 4 rfl rfl ?_
      refine g_iload_n (pc' := 85) C dX10_convoy_84 1 rfl rfl ?_
      refine g_iconst (pc' := 86) (v := (-1)) C dX10_convoy_85 (by decide) rfl ?_
      refine g_ixor (pc' := 87) C dX10_convoy_86 rfl ?_
      refine g_iand (pc' := 88) C dX10_convoy_87 rfl ?_
      refine g_iteI (σ := σ) (pj := 96) (lv := [(0, .ref (base + 0)), (3, .int x3), (5, .int x5), (6, .int x6), (7, .int x7)]) (st := []) (cd := (x7 &&& (x3 ^^^ (-1))) = 0) (a := 1) (b := 0) C ?_ (fun kt kf => ?_)
      · exact g_sub C [0, 1, 2, 3, 4] rfl (w_X10_convoy_B96 C hr hR (f_X10_convoy_L76 n) ih _ _ _ _ _ _ h)
      · refine g_if_ne (pc' := 91) (tgt := 95) C dX10_convoy_88 (by decide) rfl (fun hc => ?_) (fun hc => ?_)
        · refine g_iconst (pc' := 96) (v := 0) C dX10_convoy_95 (by decide) rfl ?_
          exact kf hc
        · refine g_iconst (pc' := 92) (v := 1) C dX10_convoy_91 (by decide) rfl ?_
          refine g_goto (tgt := 96) C dX10_convoy_92 (by decide) ?_
          exact kt hc
def f_X10_convoy (σ : cr_S) (a1 : Int32) (a2 : Int32) (a3 : Int32) : Option (cr_S × Int32) :=
  Option.bind (f_X10_isPair σ a1) (fun q1 => (if q1.2 = 0 then some (q1.1, (-1)) else Option.bind (f_X10_isWithin q1.1 a2 0 9999) (fun q3 => (if q3.2 = 0 then some (q3.1, (-1)) else Option.bind (f_X10_isWithin q3.1 a3 0 ((1 <<< ((rF q3.1 1 6) &&& 31)) - 1)) (fun q5 => (if q5.2 = 0 then some (q5.1, (-1)) else chk (inb a1 6) (chk (kC (9 + a1.toNatClampNeg) = 3) (Option.bind (f_X3_firstShut q5.1 (9 + a1.toNatClampNeg) a2 (a2 + 55) (rF q5.1 (9 + a1.toNatClampNeg) 4)) (fun q9 => chk (kC (9 + a1.toNatClampNeg) = 3) (cr_let (q9.2 - a2) (fun v12 => f_X10_convoy_L76 cr_fuel q9.1 a3 v12 0 1)))))))))))
set_option maxRecDepth 100000 in
set_option maxHeartbeats 4000000 in
theorem w_X10_convoy (C : cr_C p l e R s m args below meth c sfC 97 base D cA cX10_convoy 9 RX10) (hr : meth.sig.returnType = some .int) (hR : 3 ≤ R.frames ∧ 68 ≤ R.locals) {res : cr_S × Int32} (σ : cr_S) (a1 : Int32) (a2 : Int32) (a3 : Int32) (h : f_X10_convoy σ a1 a2 a3 = some res) : cr_W p l e R s m args below meth c sfC 97 base D cA 9 (MQ below (cr_Qi sfC 97 base D cA res) args s 0 0 (cr_A 97 base)) σ 0 [(0, .ref (base + 0)), (1, .int a1), (2, .int a2), (3, .int a3)] [] := by
  unfold f_X10_convoy at h
  refine g_aload_n (pc' := 1) C dX10_convoy_0 0 rfl rfl ?_
  refine g_iload_n (pc' := 2) C dX10_convoy_1 1 rfl rfl ?_
  obtain ⟨q1, h2, h⟩ := bind_some h
  refine g_callVi (pc' := 5) (res := q1) C [.int a1] cY_X10_isPair rfl (o := 0) (by decide) rfl mv_X10_isPair mm_X10_72 ⟨Nat.le_trans (by decide) hR.1, Nat.le_trans (by decide) hR.2⟩ rfl (Nat.le_of_ble_eq_true rfl) rfl dX10_convoy_2 (c_X10_isPair l base D cA σ a1 q1 h2) rfl ?_
  refine g_if_eq (pc' := 8) (tgt := 38) C dX10_convoy_5 (by decide) rfl (fun hc => ?_) (fun hc => ?_)
  · rw [if_pos hc] at h
    refine g_iconst (pc' := 39) (v := (-1)) C dX10_convoy_38 (by decide) rfl ?_
    exact g_iret C hr dX10_convoy_39 h
  · rw [if_neg hc] at h
    refine g_iload_n (pc' := 9) C dX10_convoy_8 2 rfl rfl ?_
    refine g_iconst (pc' := 10) (v := 0) C dX10_convoy_9 (by decide) rfl ?_
    refine g_sipush (pc' := 13) (v := 9999) C dX10_convoy_10 (by decide) rfl ?_
    obtain ⟨q3, h4, h⟩ := bind_some h
    refine g_callSi (pc' := 16) (res := q3) C [.int a2, .int 0, .int 9999] cY_X10_isWithin mv_X10_isWithin mm_X10_54 ⟨Nat.le_trans (by decide) hR.1, Nat.le_trans (by decide) hR.2⟩ rfl (Nat.le_of_ble_eq_true rfl) rfl dX10_convoy_13 (c_X10_isWithin l base D cA q1.1 a2 0 9999 q3 h4) rfl ?_
    refine g_if_eq (pc' := 19) (tgt := 38) C dX10_convoy_16 (by decide) rfl (fun hc => ?_) (fun hc => ?_)
    · rw [if_pos hc] at h
      refine g_iconst (pc' := 39) (v := (-1)) C dX10_convoy_38 (by decide) rfl ?_
      exact g_iret C hr dX10_convoy_39 h
    · rw [if_neg hc] at h
      refine g_iload_n (pc' := 20) C dX10_convoy_19 3 rfl rfl ?_
      refine g_iconst (pc' := 21) (v := 0) C dX10_convoy_20 (by decide) rfl ?_
      refine g_iconst (pc' := 22) (v := 1) C dX10_convoy_21 (by decide) rfl ?_
      refine g_aload_n (pc' := 23) C dX10_convoy_22 0 rfl rfl ?_
      refine gg_X10_12 (pc' := 26) (o := 0) (r := 1) C rfl rfl dX10_convoy_23 rfl ?_
      refine gg_X10_82 (pc' := 29) (o := 1) C rfl dX10_convoy_26 rfl ?_
      refine g_ishl (pc' := 30) C dX10_convoy_29 rfl ?_
      refine g_iconst (pc' := 31) (v := 1) C dX10_convoy_30 (by decide) rfl ?_
      refine g_isub (pc' := 32) C dX10_convoy_31 rfl ?_
      obtain ⟨q5, h6, h⟩ := bind_some h
      refine g_callSi (pc' := 35) (res := q5) C [.int a3, .int 0, .int ((1 <<< ((rF q3.1 1 6) &&& 31)) - 1)] cY_X10_isWithin mv_X10_isWithin mm_X10_54 ⟨Nat.le_trans (by decide) hR.1, Nat.le_trans (by decide) hR.2⟩ rfl (Nat.le_of_ble_eq_true rfl) rfl dX10_convoy_32 (c_X10_isWithin l base D cA q3.1 a3 0 ((1 <<< ((rF q3.1 1 6) &&& 31)) - 1) q5 h6) rfl ?_
      refine g_if_ne (pc' := 38) (tgt := 40) C dX10_convoy_35 (by decide) rfl (fun hc => ?_) (fun hc => ?_)
      · rw [if_neg hc] at h
        refine g_aload_n (pc' := 41) C dX10_convoy_40 0 rfl rfl ?_
        refine gg_X10_12 (pc' := 44) (o := 0) (r := 1) C rfl rfl dX10_convoy_41 rfl ?_
        refine gg_X10_62 (pc' := 47) (o := 1) (r := 2) C rfl rfl dX10_convoy_44 rfl ?_
        refine g_iload_n (pc' := 48) C dX10_convoy_47 1 rfl rfl ?_
        obtain ⟨h7, h⟩ := chk_some h
        refine g_aald (pc' := 49) C (o := 2) (by decide) rfl (cn := "ClashRocks$Pair") rfl h7 dX10_convoy_48 rfl ?_
        refine g_astore (pc' := 51) (lv' := [(4, .ref (base + (9 + a1.toNatClampNeg))), (0, .ref (base + 0)), (1, .int a1), (2, .int a2), (3, .int a3)]) C dX10_convoy_49 (by decide) rfl rfl ?_
        refine g_aload (pc' := 53) C dX10_convoy_51 0 rfl rfl ?_
        refine g_iload_n (pc' := 54) C dX10_convoy_53 3 rfl rfl ?_
        refine g_iload_n (pc' := 55) C dX10_convoy_54 3 rfl rfl ?_
        refine g_bipush (pc' := 57) (v := 55) C dX10_convoy_55 (by decide) rfl ?_
        refine g_iadd (pc' := 58) C dX10_convoy_57 rfl ?_
        refine g_aload (pc' := 60) C dX10_convoy_58 0 rfl rfl ?_
        obtain ⟨h8, h⟩ := chk_some h
        refine gg_X10_79 (pc' := 63) (o := 9 + a1.toNatClampNeg) C h8 dX10_convoy_60 rfl ?_
        obtain ⟨q9, h10, h⟩ := bind_some h
        obtain ⟨h11, h⟩ := chk_some h
        refine g_callVi (pc' := 66) (res := q9) C [.int a2, .int (a2 + 55), .int (rF q5.1 (9 + a1.toNatClampNeg) 4)] cY_X3_firstShut rfl (o := 9 + a1.toNatClampNeg) (kC_lt h11 (by decide)) (sfC_3 h11) mv_X3_firstShut mm_X10_240 ⟨Nat.le_trans (by decide) hR.1, Nat.le_trans (by decide) hR.2⟩ rfl (Nat.le_of_ble_eq_true rfl) rfl dX10_convoy_63 (c_X3_firstShut l base D cA q5.1 (9 + a1.toNatClampNeg) a2 (a2 + 55) (rF q5.1 (9 + a1.toNatClampNeg) 4) q9 h10) rfl ?_
        refine g_iload_n (pc' := 67) C dX10_convoy_66 3 rfl rfl ?_
        refine g_isub (pc' := 68) C dX10_convoy_67 rfl ?_
        obtain ⟨v12, e13, h⟩ := let_some h
        refine g_nameI e13 ?_
        refine g_istore (pc' := 70) (lv' := [(5, .int v12), (4, .ref (base + (9 + a1.toNatClampNeg))), (0, .ref (base + 0)), (1, .int a1), (2, .int a2), (3, .int a3)]) C dX10_convoy_68 (by decide) rfl rfl ?_
        refine g_iconst (pc' := 71) (v := 0) C dX10_convoy_70 (by decide) rfl ?_
        refine g_istore (pc' := 73) (lv' := [(6, .int 0), (5, .int v12), (4, .ref (base + (9 + a1.toNatClampNeg))), (0, .ref (base + 0)), (1, .int a1), (2, .int a2), (3, .int a3)]) C dX10_convoy_71 (by decide) rfl rfl ?_
        refine g_iconst (pc' := 74) (v := 1) C dX10_convoy_73 (by decide) rfl ?_
        refine g_istore (pc' := 76) (lv' := [(7, .int 1), (6, .int 0), (5, .int v12), (4, .ref (base + (9 + a1.toNatClampNeg))), (0, .ref (base + 0)), (1, .int a1), (2, .int a2), (3, .int a3)]) C dX10_convoy_74 (by decide) rfl rfl ?_
        exact g_sub C [4, 7, 2, 1, 0] rfl (w_X10_convoy_L76 C hr hR _ _ _ _ _ _ h)
      · rw [if_pos hc] at h
        refine g_iconst (pc' := 39) (v := (-1)) C dX10_convoy_38 (by decide) rfl ?_
        exact g_iret C hr dX10_convoy_39 h
theorem c_X10_convoy (l : Launch) (base : Nat) (D : va_G) (cA : Nat → ClassId) (σ : cr_S) (a1 : Int32) (a2 : Int32) (a3 : Int32) (res : cr_S × Int32) (h : f_X10_convoy σ a1 a2 a3 = some res) : cr_M l yX10_convoy cX10_convoy 9 (some .int) 3 68 sfC 97 base D cA [.ref (base + 0), .int a1, .int a2, .int a3] σ (cr_Qi sfC 97 base D cA res) := by
  refine cr_enter [.ref (base + 0), .int a1, .int a2, .int a3] [(0, .ref (base + 0)), (1, .int a1), (2, .int a2), (3, .int a3)] (by decide) (Nat.le_of_ble_eq_true rfl) rfl ?_
  intro p e R s m below meth c C hr hR
  exact w_X10_convoy C hr hR σ a1 a2 a3 h
def f_X10_rudder_B68 (r28 : cr_S → Int32 → Int32 → Int32 → Int32 → Int32 → Option (cr_S × Int32)) (σ : cr_S) (x1 : Int32) (x2 : Int32) (x3 : Int32) (x5 : Int32) (t0 : Int32) (t1 : Int32) : Option (cr_S × Int32) :=
  cr_let (t1 ||| t0) (fun v7 => cr_let (x5 + 1) (fun v9 => r28 σ x1 x2 x3 v7 v9))
set_option maxRecDepth 100000 in
set_option maxHeartbeats 4000000 in
theorem w_X10_rudder_B68 (C : cr_C p l e R s m args below meth c sfC 97 base D cA cX10_rudder 6 RX10) (hr : meth.sig.returnType = some .int) (hR : 6 ≤ R.frames ∧ 143 ≤ R.locals) {res : cr_S × Int32} (r28 : cr_S → Int32 → Int32 → Int32 → Int32 → Int32 → Option (cr_S × Int32)) (hr28 : ∀ (σ : cr_S) (x1 : Int32) (x2 : Int32) (x3 : Int32) (x4 : Int32) (x5 : Int32), r28 σ x1 x2 x3 x4 x5 = some res → cr_W p l e R s m args below meth c sfC 97 base D cA 6 (MQ below (cr_Qi sfC 97 base D cA res) args s 0 0 (cr_A 97 base)) σ 28 [(0, .ref (base + 0)), (1, .int x1), (2, .int x2), (3, .int x3), (4, .int x4), (5, .int x5)] []) (σ : cr_S) (x1 : Int32) (x2 : Int32) (x3 : Int32) (x5 : Int32) (t0 : Int32) (t1 : Int32) (h : f_X10_rudder_B68 r28 σ x1 x2 x3 x5 t0 t1 = some res) : cr_W p l e R s m args below meth c sfC 97 base D cA 6 (MQ below (cr_Qi sfC 97 base D cA res) args s 0 0 (cr_A 97 base)) σ 68 [(0, .ref (base + 0)), (1, .int x1), (2, .int x2), (3, .int x3), (5, .int x5)] [.int t0, .int t1] := by
  unfold f_X10_rudder_B68 at h
  refine g_ior (pc' := 69) C dX10_rudder_68 rfl ?_
  obtain ⟨v7, e8, h⟩ := let_some h
  refine g_nameI e8 ?_
  refine g_istore (pc' := 71) (lv' := [(4, .int v7), (0, .ref (base + 0)), (1, .int x1), (2, .int x2), (3, .int x3), (5, .int x5)]) C dX10_rudder_69 (by decide) rfl rfl ?_
  obtain ⟨v9, e10, h⟩ := let_some h
  refine g_iinc (pc' := 74) (v := v9) (lv' := [(5, .int v9), (4, .int v7), (0, .ref (base + 0)), (1, .int x1), (2, .int x2), (3, .int x3)]) C dX10_rudder_71 5 rfl (by rw [e10]; rfl) (by decide) rfl rfl ?_
  refine g_goto (tgt := 28) C dX10_rudder_74 (by decide) ?_
  exact g_sub C [2, 3, 4, 5, 1, 0] rfl (hr28 _ _ _ _ _ _ h)
def f_X10_rudder_L28  : Nat → cr_S → Int32 → Int32 → Int32 → Int32 → Int32 → Option (cr_S × Int32)
  | 0, _, _, _, _, _, _ => none
  | n + 1, σ, x1, x2, x3, x4, x5 =>
    (if (x2 + x3) < x5 then some (σ, x4) else Option.bind (f_X10_goFull σ x1 x5) (fun q5 => f_X10_rudder_B68 (f_X10_rudder_L28 n) q5 x1 x2 x3 x5 (if (rF q5 70 3) = (-4) then rF q5 70 4 else 0) x4))
set_option maxRecDepth 100000 in
set_option maxHeartbeats 4000000 in
theorem w_X10_rudder_L28 (C : cr_C p l e R s m args below meth c sfC 97 base D cA cX10_rudder 6 RX10) (hr : meth.sig.returnType = some .int) (hR : 6 ≤ R.frames ∧ 143 ≤ R.locals) {res : cr_S × Int32}  : ∀ (n : Nat) (σ : cr_S) (x1 : Int32) (x2 : Int32) (x3 : Int32) (x4 : Int32) (x5 : Int32), f_X10_rudder_L28 n σ x1 x2 x3 x4 x5 = some res → cr_W p l e R s m args below meth c sfC 97 base D cA 6 (MQ below (cr_Qi sfC 97 base D cA res) args s 0 0 (cr_A 97 base)) σ 28 [(0, .ref (base + 0)), (1, .int x1), (2, .int x2), (3, .int x3), (4, .int x4), (5, .int x5)] [] := by
  intro n
  induction n with
  | zero =>
    intro σ x1 x2 x3 x4 x5 h
    cases h
  | succ n ih =>
    intro σ x1 x2 x3 x4 x5 h
    rw [f_X10_rudder_L28] at h
    refine g_iload (pc' := 30) C dX10_rudder_28 5 rfl rfl ?_
    refine g_iload_n (pc' := 31) C dX10_rudder_30 2 rfl rfl ?_
    refine g_iload_n (pc' := 32) C dX10_rudder_31 3 rfl rfl ?_
    refine g_iadd (pc' := 33) C dX10_rudder_32 rfl ?_
    refine g_icmp_gt (pc' := 36) (tgt := 77) C dX10_rudder_33 (by decide) rfl (fun hc => ?_) (fun hc => ?_)
    · rw [if_pos hc] at h
      refine g_iload (pc' := 79) C dX10_rudder_77 4 rfl rfl ?_
      exact g_iret C hr dX10_rudder_79 h
    · rw [if_neg hc] at h
      refine g_aload_n (pc' := 37) C dX10_rudder_36 0 rfl rfl ?_
      refine g_iload_n (pc' := 38) C dX10_rudder_37 1 rfl rfl ?_
      refine g_iload (pc' := 40) C dX10_rudder_38 5 rfl rfl ?_
      obtain ⟨q5, h6, h⟩ := bind_some h
      refine g_callVv (pc' := 43) (res := q5) C [.int x1, .int x5] cY_X10_goFull rfl (o := 0) (by decide) rfl mv_X10_goFull mm_X10_196 ⟨Nat.le_trans (by decide) hR.1, Nat.le_trans (by decide) hR.2⟩ rfl (Nat.le_of_ble_eq_true rfl) rfl dX10_rudder_40 (c_X10_goFull l base D cA σ x1 x5 q5 h6) rfl ?_
      refine g_iload (pc' := 45) C dX10_rudder_43 4 rfl rfl ?_
      refine g_aload_n (pc' := 46) C dX10_rudder_45 0 rfl rfl ?_
      refine gg_X10_29 (pc' := 49) (o := 0) (r := 70) C rfl rfl dX10_rudder_46 rfl ?_
      refine gg_X10_203 (pc' := 52) (o := 70) C rfl dX10_rudder_49 rfl ?_
      refine g_bipush (pc' := 54) (v := (-4)) C dX10_rudder_52 (by decide) rfl ?_
      refine g_iteI (σ := q5) (pj := 68) (lv := [(0, .ref (base + 0)), (1, .int x1), (2, .int x2), (3, .int x3), (4, .int x4), (5, .int x5)]) (st := [.int x4]) (cd := (rF q5 70 3) = (-4)) (a := rF q5 70 4) (b := 0) C ?_ (fun kt kf => ?_)
      · exact g_sub C [0, 1, 2, 3, 5] rfl (w_X10_rudder_B68 C hr hR (f_X10_rudder_L28 n) ih _ _ _ _ _ _ _ h)
      · refine g_icmp_ne (pc' := 57) (tgt := 67) C dX10_rudder_54 (by decide) rfl (fun hc => ?_) (fun hc => ?_)
        · refine g_iconst (pc' := 68) (v := 0) C dX10_rudder_67 (by decide) rfl ?_
          exact kf hc
        · refine g_aload_n (pc' := 58) C dX10_rudder_57 0 rfl rfl ?_
          refine gg_X10_29 (pc' := 61) (o := 0) (r := 70) C rfl rfl dX10_rudder_58 rfl ?_
          refine gg_X10_252 (pc' := 64) (o := 70) C rfl dX10_rudder_61 rfl ?_
          refine g_goto (tgt := 68) C dX10_rudder_64 (by decide) ?_
          exact kt hc
def f_X10_rudder (σ : cr_S) (a1 : Int32) (a2 : Int32) (a3 : Int32) : Option (cr_S × Int32) :=
  Option.bind (f_X10_isBegin σ a1 a2) (fun q1 => (if q1.2 = 0 then some (q1.1, (-1)) else Option.bind (f_X10_isWithin q1.1 a3 0 999) (fun q3 => (if q3.2 = 0 then some (q3.1, (-1)) else f_X10_rudder_L28 cr_fuel q3.1 a1 a2 a3 0 a2))))
set_option maxRecDepth 100000 in
set_option maxHeartbeats 4000000 in
theorem w_X10_rudder (C : cr_C p l e R s m args below meth c sfC 97 base D cA cX10_rudder 6 RX10) (hr : meth.sig.returnType = some .int) (hR : 6 ≤ R.frames ∧ 143 ≤ R.locals) {res : cr_S × Int32} (σ : cr_S) (a1 : Int32) (a2 : Int32) (a3 : Int32) (h : f_X10_rudder σ a1 a2 a3 = some res) : cr_W p l e R s m args below meth c sfC 97 base D cA 6 (MQ below (cr_Qi sfC 97 base D cA res) args s 0 0 (cr_A 97 base)) σ 0 [(0, .ref (base + 0)), (1, .int a1), (2, .int a2), (3, .int a3)] [] := by
  unfold f_X10_rudder at h
  refine g_aload_n (pc' := 1) C dX10_rudder_0 0 rfl rfl ?_
  refine g_iload_n (pc' := 2) C dX10_rudder_1 1 rfl rfl ?_
  refine g_iload_n (pc' := 3) C dX10_rudder_2 2 rfl rfl ?_
  obtain ⟨q1, h2, h⟩ := bind_some h
  refine g_callVi (pc' := 6) (res := q1) C [.int a1, .int a2] cY_X10_isBegin rfl (o := 0) (by decide) rfl mv_X10_isBegin mm_X10_206 ⟨Nat.le_trans (by decide) hR.1, Nat.le_trans (by decide) hR.2⟩ rfl (Nat.le_of_ble_eq_true rfl) rfl dX10_rudder_3 (c_X10_isBegin l base D cA σ a1 a2 q1 h2) rfl ?_
  refine g_if_eq (pc' := 9) (tgt := 20) C dX10_rudder_6 (by decide) rfl (fun hc => ?_) (fun hc => ?_)
  · rw [if_pos hc] at h
    refine g_iconst (pc' := 21) (v := (-1)) C dX10_rudder_20 (by decide) rfl ?_
    exact g_iret C hr dX10_rudder_21 h
  · rw [if_neg hc] at h
    refine g_iload_n (pc' := 10) C dX10_rudder_9 3 rfl rfl ?_
    refine g_iconst (pc' := 11) (v := 0) C dX10_rudder_10 (by decide) rfl ?_
    refine g_sipush (pc' := 14) (v := 999) C dX10_rudder_11 (by decide) rfl ?_
    obtain ⟨q3, h4, h⟩ := bind_some h
    refine g_callSi (pc' := 17) (res := q3) C [.int a3, .int 0, .int 999] cY_X10_isWithin mv_X10_isWithin mm_X10_54 ⟨Nat.le_trans (by decide) hR.1, Nat.le_trans (by decide) hR.2⟩ rfl (Nat.le_of_ble_eq_true rfl) rfl dX10_rudder_14 (c_X10_isWithin l base D cA q1.1 a3 0 999 q3 h4) rfl ?_
    refine g_if_ne (pc' := 20) (tgt := 22) C dX10_rudder_17 (by decide) rfl (fun hc => ?_) (fun hc => ?_)
    · rw [if_neg hc] at h
      refine g_iconst (pc' := 23) (v := 0) C dX10_rudder_22 (by decide) rfl ?_
      refine g_istore (pc' := 25) (lv' := [(4, .int 0), (0, .ref (base + 0)), (1, .int a1), (2, .int a2), (3, .int a3)]) C dX10_rudder_23 (by decide) rfl rfl ?_
      refine g_iload_n (pc' := 26) C dX10_rudder_25 3 rfl rfl ?_
      refine g_istore (pc' := 28) (lv' := [(5, .int a2), (4, .int 0), (0, .ref (base + 0)), (1, .int a1), (2, .int a2), (3, .int a3)]) C dX10_rudder_26 (by decide) rfl rfl ?_
      exact g_sub C [2, 3, 4, 5, 1, 0] rfl (w_X10_rudder_L28 C hr hR _ _ _ _ _ _ _ h)
    · rw [if_pos hc] at h
      refine g_iconst (pc' := 21) (v := (-1)) C dX10_rudder_20 (by decide) rfl ?_
      exact g_iret C hr dX10_rudder_21 h
theorem c_X10_rudder (l : Launch) (base : Nat) (D : va_G) (cA : Nat → ClassId) (σ : cr_S) (a1 : Int32) (a2 : Int32) (a3 : Int32) (res : cr_S × Int32) (h : f_X10_rudder σ a1 a2 a3 = some res) : cr_M l yX10_rudder cX10_rudder 6 (some .int) 6 143 sfC 97 base D cA [.ref (base + 0), .int a1, .int a2, .int a3] σ (cr_Qi sfC 97 base D cA res) := by
  refine cr_enter [.ref (base + 0), .int a1, .int a2, .int a3] [(0, .ref (base + 0)), (1, .int a1), (2, .int a2), (3, .int a3)] (by decide) (Nat.le_of_ble_eq_true rfl) rfl ?_
  intro p e R s m below meth c C hr hR
  exact w_X10_rudder C hr hR σ a1 a2 a3 h
def f_X0_isThroughBut_70_1_B26 (r2 : cr_S → Int32 → Int32 → Option (cr_S × Int32)) (σ : cr_S) (x2 : Int32) (x3 : Int32) : Option (cr_S × Int32) :=
  cr_let (x3 + 1) (fun v1 => r2 σ x2 v1)
set_option maxRecDepth 100000 in
set_option maxHeartbeats 4000000 in
theorem w_X0_isThroughBut_70_1_B26 (C : cr_C p l e R s m args below meth c sfC 97 base D cA cX0_isThroughBut 4 RX0) (hr : meth.sig.returnType = some .boolean) (hR : 5 ≤ R.frames ∧ 113 ≤ R.locals) {res : cr_S × Int32} (r2 : cr_S → Int32 → Int32 → Option (cr_S × Int32)) (hr2 : ∀ (σ : cr_S) (x2 : Int32) (x3 : Int32), r2 σ x2 x3 = some res → cr_W p l e R s m args below meth c sfC 97 base D cA 4 (MQ below (cr_Qi sfC 97 base D cA res) args s 0 0 (cr_A 97 base)) σ 2 [(0, .ref (base + 70)), (1, .ref (base + 1)), (2, .int x2), (3, .int x3)] []) (σ : cr_S) (x2 : Int32) (x3 : Int32) (h : f_X0_isThroughBut_70_1_B26 r2 σ x2 x3 = some res) : cr_W p l e R s m args below meth c sfC 97 base D cA 4 (MQ below (cr_Qi sfC 97 base D cA res) args s 0 0 (cr_A 97 base)) σ 26 [(0, .ref (base + 70)), (1, .ref (base + 1)), (2, .int x2), (3, .int x3)] [] := by
  unfold f_X0_isThroughBut_70_1_B26 at h
  obtain ⟨v1, e2, h⟩ := let_some h
  refine g_iinc (pc' := 29) (v := v1) (lv' := [(3, .int v1), (0, .ref (base + 70)), (1, .ref (base + 1)), (2, .int x2)]) C dX0_isThroughBut_26 3 rfl (by rw [e2]; rfl) (by decide) rfl rfl ?_
  refine g_goto (tgt := 2) C dX0_isThroughBut_29 (by decide) ?_
  exact g_sub C [1, 2, 3, 0] rfl (hr2 _ _ _ h)
def f_X0_isThroughBut_70_1_L2  : Nat → cr_S → Int32 → Int32 → Option (cr_S × Int32)
  | 0, _, _, _ => none
  | n + 1, σ, x2, x3 =>
    (if (rF σ 1 5) ≤ x3 then some (σ, 1) else (if x3 = x2 then f_X0_isThroughBut_70_1_B26 (f_X0_isThroughBut_70_1_L2 n) σ x2 x3 else Option.bind (f_X0_isThrough_70_1 σ x3) (fun q3 => (if q3.2 = 0 then some (q3.1, 0) else f_X0_isThroughBut_70_1_B26 (f_X0_isThroughBut_70_1_L2 n) q3.1 x2 x3))))
set_option maxRecDepth 100000 in
set_option maxHeartbeats 4000000 in
theorem w_X0_isThroughBut_70_1_L2 (C : cr_C p l e R s m args below meth c sfC 97 base D cA cX0_isThroughBut 4 RX0) (hr : meth.sig.returnType = some .boolean) (hR : 5 ≤ R.frames ∧ 113 ≤ R.locals) {res : cr_S × Int32}  : ∀ (n : Nat) (σ : cr_S) (x2 : Int32) (x3 : Int32), f_X0_isThroughBut_70_1_L2 n σ x2 x3 = some res → cr_W p l e R s m args below meth c sfC 97 base D cA 4 (MQ below (cr_Qi sfC 97 base D cA res) args s 0 0 (cr_A 97 base)) σ 2 [(0, .ref (base + 70)), (1, .ref (base + 1)), (2, .int x2), (3, .int x3)] [] := by
  intro n
  induction n with
  | zero =>
    intro σ x2 x3 h
    cases h
  | succ n ih =>
    intro σ x2 x3 h
    rw [f_X0_isThroughBut_70_1_L2] at h
    refine g_iload_n (pc' := 3) C dX0_isThroughBut_2 3 rfl rfl ?_
    refine g_aload_n (pc' := 4) C dX0_isThroughBut_3 1 rfl rfl ?_
    refine gg_X0_53 (pc' := 7) (o := 1) C rfl dX0_isThroughBut_4 rfl ?_
    refine g_icmp_ge (pc' := 10) (tgt := 32) C dX0_isThroughBut_7 (by decide) rfl (fun hc => ?_) (fun hc => ?_)
    · rw [if_pos hc] at h
      refine g_iconst (pc' := 33) (v := 1) C dX0_isThroughBut_32 (by decide) rfl ?_
      exact g_zret C hr rfl dX0_isThroughBut_33 h
    · rw [if_neg hc] at h
      refine g_iload_n (pc' := 11) C dX0_isThroughBut_10 3 rfl rfl ?_
      refine g_iload_n (pc' := 12) C dX0_isThroughBut_11 2 rfl rfl ?_
      refine g_icmp_eq (pc' := 15) (tgt := 26) C dX0_isThroughBut_12 (by decide) rfl (fun hc => ?_) (fun hc => ?_)
      · rw [if_pos hc] at h
        exact g_sub C [0, 1, 2, 3] rfl (w_X0_isThroughBut_70_1_B26 C hr hR (f_X0_isThroughBut_70_1_L2 n) ih _ _ _ h)
      · rw [if_neg hc] at h
        refine g_aload_n (pc' := 16) C dX0_isThroughBut_15 0 rfl rfl ?_
        refine g_aload_n (pc' := 17) C dX0_isThroughBut_16 1 rfl rfl ?_
        refine g_iload_n (pc' := 18) C dX0_isThroughBut_17 3 rfl rfl ?_
        obtain ⟨q3, h4, h⟩ := bind_some h
        refine g_callVi (pc' := 21) (res := q3) C [.ref (base + 1), .int x3] cY_X0_isThrough rfl (o := 70) (by decide) rfl mv_X0_isThrough mm_X0_73 ⟨Nat.le_trans (by decide) hR.1, Nat.le_trans (by decide) hR.2⟩ rfl (Nat.le_of_ble_eq_true rfl) rfl dX0_isThroughBut_18 (c_X0_isThrough_70_1 l base D cA σ x3 q3 h4) rfl ?_
        refine g_if_ne (pc' := 24) (tgt := 26) C dX0_isThroughBut_21 (by decide) rfl (fun hc => ?_) (fun hc => ?_)
        · rw [if_neg hc] at h
          exact g_sub C [0, 1, 2, 3] rfl (w_X0_isThroughBut_70_1_B26 C hr hR (f_X0_isThroughBut_70_1_L2 n) ih _ _ _ h)
        · rw [if_pos hc] at h
          refine g_iconst (pc' := 25) (v := 0) C dX0_isThroughBut_24 (by decide) rfl ?_
          exact g_zret C hr rfl dX0_isThroughBut_25 h
def f_X0_isThroughBut_70_1 (σ : cr_S) (a2 : Int32) : Option (cr_S × Int32) :=
  f_X0_isThroughBut_70_1_L2 cr_fuel σ a2 0
set_option maxRecDepth 100000 in
set_option maxHeartbeats 4000000 in
theorem w_X0_isThroughBut_70_1 (C : cr_C p l e R s m args below meth c sfC 97 base D cA cX0_isThroughBut 4 RX0) (hr : meth.sig.returnType = some .boolean) (hR : 5 ≤ R.frames ∧ 113 ≤ R.locals) {res : cr_S × Int32} (σ : cr_S) (a2 : Int32) (h : f_X0_isThroughBut_70_1 σ a2 = some res) : cr_W p l e R s m args below meth c sfC 97 base D cA 4 (MQ below (cr_Qi sfC 97 base D cA res) args s 0 0 (cr_A 97 base)) σ 0 [(0, .ref (base + 70)), (1, .ref (base + 1)), (2, .int a2)] [] := by
  unfold f_X0_isThroughBut_70_1 at h
  refine g_iconst (pc' := 1) (v := 0) C dX0_isThroughBut_0 (by decide) rfl ?_
  refine g_istore_n (pc' := 2) (lv' := [(3, .int 0), (0, .ref (base + 70)), (1, .ref (base + 1)), (2, .int a2)]) C dX0_isThroughBut_1 rfl (by decide) rfl rfl ?_
  exact g_sub C [1, 2, 3, 0] rfl (w_X0_isThroughBut_70_1_L2 C hr hR _ _ _ _ h)
theorem c_X0_isThroughBut_70_1 (l : Launch) (base : Nat) (D : va_G) (cA : Nat → ClassId) (σ : cr_S) (a2 : Int32) (res : cr_S × Int32) (h : f_X0_isThroughBut_70_1 σ a2 = some res) : cr_M l yX0_isThroughBut cX0_isThroughBut 4 (some .boolean) 5 113 sfC 97 base D cA [.ref (base + 70), .ref (base + 1), .int a2] σ (cr_Qi sfC 97 base D cA res) := by
  refine cr_enter [.ref (base + 70), .ref (base + 1), .int a2] [(0, .ref (base + 70)), (1, .ref (base + 1)), (2, .int a2)] (by decide) (Nat.le_of_ble_eq_true rfl) rfl ?_
  intro p e R s m below meth c C hr hR
  exact w_X0_isThroughBut_70_1 C hr hR σ a2 h
def f_X10_worth_B100 (r23 : cr_S → Int32 → Int32 → Int32 → Int32 → Option (cr_S × Int32)) (σ : cr_S) (x1 : Int32) (x2 : Int32) (x4 : Int32) (t0 : Int32) (t1 : Int32) : Option (cr_S × Int32) :=
  cr_let (t1 + t0) (fun v10 => cr_let (x4 + 1) (fun v12 => r23 σ x1 x2 v10 v12))
set_option maxRecDepth 100000 in
set_option maxHeartbeats 4000000 in
theorem w_X10_worth_B100 (C : cr_C p l e R s m args below meth c sfC 97 base D cA cX10_worth 6 RX10) (hr : meth.sig.returnType = some .int) (hR : 6 ≤ R.frames ∧ 136 ≤ R.locals) {res : cr_S × Int32} (r23 : cr_S → Int32 → Int32 → Int32 → Int32 → Option (cr_S × Int32)) (hr23 : ∀ (σ : cr_S) (x1 : Int32) (x2 : Int32) (x3 : Int32) (x4 : Int32), r23 σ x1 x2 x3 x4 = some res → cr_W p l e R s m args below meth c sfC 97 base D cA 6 (MQ below (cr_Qi sfC 97 base D cA res) args s 0 0 (cr_A 97 base)) σ 23 [(0, .ref (base + 0)), (1, .int x1), (2, .int x2), (3, .int x3), (4, .int x4)] []) (σ : cr_S) (x1 : Int32) (x2 : Int32) (x4 : Int32) (t0 : Int32) (t1 : Int32) (h : f_X10_worth_B100 r23 σ x1 x2 x4 t0 t1 = some res) : cr_W p l e R s m args below meth c sfC 97 base D cA 6 (MQ below (cr_Qi sfC 97 base D cA res) args s 0 0 (cr_A 97 base)) σ 100 [(0, .ref (base + 0)), (1, .int x1), (2, .int x2), (4, .int x4)] [.int t0, .int t1] := by
  unfold f_X10_worth_B100 at h
  refine g_iadd (pc' := 101) C dX10_worth_100 rfl ?_
  obtain ⟨v10, e11, h⟩ := let_some h
  refine g_nameI e11 ?_
  refine g_istore_n (pc' := 102) (lv' := [(3, .int v10), (0, .ref (base + 0)), (1, .int x1), (2, .int x2), (4, .int x4)]) C dX10_worth_101 rfl (by decide) rfl rfl ?_
  obtain ⟨v12, e13, h⟩ := let_some h
  refine g_iinc (pc' := 105) (v := v12) (lv' := [(4, .int v12), (3, .int v10), (0, .ref (base + 0)), (1, .int x1), (2, .int x2)]) C dX10_worth_102 4 rfl (by rw [e13]; rfl) (by decide) rfl rfl ?_
  refine g_goto (tgt := 23) C dX10_worth_105 (by decide) ?_
  exact g_sub C [2, 3, 4, 1, 0] rfl (hr23 _ _ _ _ _ h)
def f_X10_worth_B87 (r23 : cr_S → Int32 → Int32 → Int32 → Int32 → Option (cr_S × Int32)) (σ : cr_S) (x1 : Int32) (x2 : Int32) (x3 : Int32) (x4 : Int32) (t0 : Int32) : Option (cr_S × Int32) :=
  f_X10_worth_B100 r23 σ x1 x2 x4 (if t0 = 0 then 0 else 1) x3
set_option maxRecDepth 100000 in
set_option maxHeartbeats 4000000 in
theorem w_X10_worth_B87 (C : cr_C p l e R s m args below meth c sfC 97 base D cA cX10_worth 6 RX10) (hr : meth.sig.returnType = some .int) (hR : 6 ≤ R.frames ∧ 136 ≤ R.locals) {res : cr_S × Int32} (r23 : cr_S → Int32 → Int32 → Int32 → Int32 → Option (cr_S × Int32)) (hr23 : ∀ (σ : cr_S) (x1 : Int32) (x2 : Int32) (x3 : Int32) (x4 : Int32), r23 σ x1 x2 x3 x4 = some res → cr_W p l e R s m args below meth c sfC 97 base D cA 6 (MQ below (cr_Qi sfC 97 base D cA res) args s 0 0 (cr_A 97 base)) σ 23 [(0, .ref (base + 0)), (1, .int x1), (2, .int x2), (3, .int x3), (4, .int x4)] []) (σ : cr_S) (x1 : Int32) (x2 : Int32) (x3 : Int32) (x4 : Int32) (t0 : Int32) (h : f_X10_worth_B87 r23 σ x1 x2 x3 x4 t0 = some res) : cr_W p l e R s m args below meth c sfC 97 base D cA 6 (MQ below (cr_Qi sfC 97 base D cA res) args s 0 0 (cr_A 97 base)) σ 87 [(0, .ref (base + 0)), (1, .int x1), (2, .int x2), (3, .int x3), (4, .int x4)] [.int t0] := by
  unfold f_X10_worth_B87 at h
  refine g_istore (pc' := 89) (lv' := [(5, .int t0), (0, .ref (base + 0)), (1, .int x1), (2, .int x2), (3, .int x3), (4, .int x4)]) C dX10_worth_87 (by decide) rfl rfl ?_
  refine g_iload_n (pc' := 90) C dX10_worth_89 4 rfl rfl ?_
  refine g_iload (pc' := 92) C dX10_worth_90 0 rfl rfl ?_
  refine g_iteI (σ := σ) (pj := 100) (lv := [(5, .int t0), (0, .ref (base + 0)), (1, .int x1), (2, .int x2), (3, .int x3), (4, .int x4)]) (st := [.int x3]) (cd := t0 = 0) (a := 0) (b := 1) C ?_ (fun kt kf => ?_)
  · exact g_sub C [1, 2, 3, 5] rfl (w_X10_worth_B100 C hr hR r23 hr23 _ _ _ _ _ _ h)
  · refine g_if_eq (pc' := 95) (tgt := 99) C dX10_worth_92 (by decide) rfl (fun hc => ?_) (fun hc => ?_)
    · refine g_iconst (pc' := 100) (v := 0) C dX10_worth_99 (by decide) rfl ?_
      exact kt hc
    · refine g_iconst (pc' := 96) (v := 1) C dX10_worth_95 (by decide) rfl ?_
      refine g_goto (tgt := 100) C dX10_worth_96 (by decide) ?_
      exact kf hc
def f_X10_worth_B86 (r23 : cr_S → Int32 → Int32 → Int32 → Int32 → Option (cr_S × Int32)) (σ : cr_S) (x1 : Int32) (x2 : Int32) (x3 : Int32) (x4 : Int32) : Option (cr_S × Int32) :=
  f_X10_worth_B87 r23 σ x1 x2 x3 x4 0
set_option maxRecDepth 100000 in
set_option maxHeartbeats 4000000 in
theorem w_X10_worth_B86 (C : cr_C p l e R s m args below meth c sfC 97 base D cA cX10_worth 6 RX10) (hr : meth.sig.returnType = some .int) (hR : 6 ≤ R.frames ∧ 136 ≤ R.locals) {res : cr_S × Int32} (r23 : cr_S → Int32 → Int32 → Int32 → Int32 → Option (cr_S × Int32)) (hr23 : ∀ (σ : cr_S) (x1 : Int32) (x2 : Int32) (x3 : Int32) (x4 : Int32), r23 σ x1 x2 x3 x4 = some res → cr_W p l e R s m args below meth c sfC 97 base D cA 6 (MQ below (cr_Qi sfC 97 base D cA res) args s 0 0 (cr_A 97 base)) σ 23 [(0, .ref (base + 0)), (1, .int x1), (2, .int x2), (3, .int x3), (4, .int x4)] []) (σ : cr_S) (x1 : Int32) (x2 : Int32) (x3 : Int32) (x4 : Int32) (h : f_X10_worth_B86 r23 σ x1 x2 x3 x4 = some res) : cr_W p l e R s m args below meth c sfC 97 base D cA 6 (MQ below (cr_Qi sfC 97 base D cA res) args s 0 0 (cr_A 97 base)) σ 86 [(0, .ref (base + 0)), (1, .int x1), (2, .int x2), (3, .int x3), (4, .int x4)] [] := by
  unfold f_X10_worth_B86 at h
  refine g_iconst (pc' := 87) (v := 0) C dX10_worth_86 (by decide) rfl ?_
  exact g_sub C [0, 1, 2, 3, 4] rfl (w_X10_worth_B87 C hr hR r23 hr23 _ _ _ _ _ _ h)
def f_X10_worth_L23  : Nat → cr_S → Int32 → Int32 → Int32 → Int32 → Option (cr_S × Int32)
  | 0, _, _, _, _, _ => none
  | n + 1, σ, x1, x2, x3, x4 =>
    (if 60 ≤ x4 then some (σ, x3) else chk (inb x1 5) (Option.bind (f_X0_planFull_70_1 σ (15 + x1.toNatClampNeg) x4) (fun q6 => Option.bind (f_X0_isThroughBut_70_1 q6 x2) (fun q8 => (if q8.2 = 0 then f_X10_worth_B86 (f_X10_worth_L23 n) q8.1 x1 x2 x3 x4 else Option.bind (f_X0_isThrough_70_1 q8.1 x2) (fun q14 => (if q14.2 = 0 then f_X10_worth_B87 (f_X10_worth_L23 n) q14.1 x1 x2 x3 x4 1 else f_X10_worth_B86 (f_X10_worth_L23 n) q14.1 x1 x2 x3 x4)))))))
set_option maxRecDepth 100000 in
set_option maxHeartbeats 4000000 in
theorem w_X10_worth_L23 (C : cr_C p l e R s m args below meth c sfC 97 base D cA cX10_worth 6 RX10) (hr : meth.sig.returnType = some .int) (hR : 6 ≤ R.frames ∧ 136 ≤ R.locals) {res : cr_S × Int32}  : ∀ (n : Nat) (σ : cr_S) (x1 : Int32) (x2 : Int32) (x3 : Int32) (x4 : Int32), f_X10_worth_L23 n σ x1 x2 x3 x4 = some res → cr_W p l e R s m args below meth c sfC 97 base D cA 6 (MQ below (cr_Qi sfC 97 base D cA res) args s 0 0 (cr_A 97 base)) σ 23 [(0, .ref (base + 0)), (1, .int x1), (2, .int x2), (3, .int x3), (4, .int x4)] [] := by
  intro n
  induction n with
  | zero =>
    intro σ x1 x2 x3 x4 h
    cases h
  | succ n ih =>
    intro σ x1 x2 x3 x4 h
    rw [f_X10_worth_L23] at h
    refine g_iload (pc' := 25) C dX10_worth_23 4 rfl rfl ?_
    refine g_bipush (pc' := 27) (v := 60) C dX10_worth_25 (by decide) rfl ?_
    refine g_icmp_ge (pc' := 30) (tgt := 108) C dX10_worth_27 (by decide) rfl (fun hc => ?_) (fun hc => ?_)
    · rw [if_pos hc] at h
      refine g_iload_n (pc' := 109) C dX10_worth_108 3 rfl rfl ?_
      exact g_iret C hr dX10_worth_109 h
    · rw [if_neg hc] at h
      refine g_aload_n (pc' := 31) C dX10_worth_30 0 rfl rfl ?_
      refine gg_X10_29 (pc' := 34) (o := 0) (r := 70) C rfl rfl dX10_worth_31 rfl ?_
      refine g_aload_n (pc' := 35) C dX10_worth_34 0 rfl rfl ?_
      refine gg_X10_12 (pc' := 38) (o := 0) (r := 1) C rfl rfl dX10_worth_35 rfl ?_
      refine g_aload_n (pc' := 39) C dX10_worth_38 0 rfl rfl ?_
      refine gg_X10_12 (pc' := 42) (o := 0) (r := 1) C rfl rfl dX10_worth_39 rfl ?_
      refine gg_X10_85 (pc' := 45) (o := 1) (r := 3) C rfl rfl dX10_worth_42 rfl ?_
      refine g_iload_n (pc' := 46) C dX10_worth_45 1 rfl rfl ?_
      obtain ⟨h5, h⟩ := chk_some h
      refine g_aald (pc' := 47) C (o := 3) (by decide) rfl (cn := "ClashRocks$Ship") rfl h5 dX10_worth_46 rfl ?_
      refine g_iload (pc' := 49) C dX10_worth_47 4 rfl rfl ?_
      obtain ⟨q6, h7, h⟩ := bind_some h
      refine g_callVv (pc' := 52) (res := q6) C [.ref (base + 1), .ref (base + (15 + x1.toNatClampNeg)), .int x4] cY_X0_planFull rfl (o := 70) (by decide) rfl mv_X0_planFull mm_X10_229 ⟨Nat.le_trans (by decide) hR.1, Nat.le_trans (by decide) hR.2⟩ rfl (Nat.le_of_ble_eq_true rfl) rfl dX10_worth_49 (c_X0_planFull_70_1 l base D cA σ (15 + x1.toNatClampNeg) x4 q6 h7) rfl ?_
      refine g_aload_n (pc' := 53) C dX10_worth_52 0 rfl rfl ?_
      refine gg_X10_29 (pc' := 56) (o := 0) (r := 70) C rfl rfl dX10_worth_53 rfl ?_
      refine g_aload_n (pc' := 57) C dX10_worth_56 0 rfl rfl ?_
      refine gg_X10_12 (pc' := 60) (o := 0) (r := 1) C rfl rfl dX10_worth_57 rfl ?_
      refine g_iload_n (pc' := 61) C dX10_worth_60 2 rfl rfl ?_
      obtain ⟨q8, h9, h⟩ := bind_some h
      refine g_callVi (pc' := 64) (res := q8) C [.ref (base + 1), .int x2] cY_X0_isThroughBut rfl (o := 70) (by decide) rfl mv_X0_isThroughBut mm_X10_253 ⟨Nat.le_trans (by decide) hR.1, Nat.le_trans (by decide) hR.2⟩ rfl (Nat.le_of_ble_eq_true rfl) rfl dX10_worth_61 (c_X0_isThroughBut_70_1 l base D cA q6 x2 q8 h9) rfl ?_
      refine g_if_eq (pc' := 67) (tgt := 86) C dX10_worth_64 (by decide) rfl (fun hc => ?_) (fun hc => ?_)
      · rw [if_pos hc] at h
        exact g_sub C [0, 1, 2, 3, 4] rfl (w_X10_worth_B86 C hr hR (f_X10_worth_L23 n) ih _ _ _ _ _ h)
      · rw [if_neg hc] at h
        refine g_aload_n (pc' := 68) C dX10_worth_67 0 rfl rfl ?_
        refine gg_X10_29 (pc' := 71) (o := 0) (r := 70) C rfl rfl dX10_worth_68 rfl ?_
        refine g_aload_n (pc' := 72) C dX10_worth_71 0 rfl rfl ?_
        refine gg_X10_12 (pc' := 75) (o := 0) (r := 1) C rfl rfl dX10_worth_72 rfl ?_
        refine g_iload_n (pc' := 76) C dX10_worth_75 2 rfl rfl ?_
        obtain ⟨q14, h15, h⟩ := bind_some h
        refine g_callVi (pc' := 79) (res := q14) C [.ref (base + 1), .int x2] cY_X0_isThrough rfl (o := 70) (by decide) rfl mv_X0_isThrough mm_X10_257 ⟨Nat.le_trans (by decide) hR.1, Nat.le_trans (by decide) hR.2⟩ rfl (Nat.le_of_ble_eq_true rfl) rfl dX10_worth_76 (c_X0_isThrough_70_1 l base D cA q8.1 x2 q14 h15) rfl ?_
        refine g_if_ne (pc' := 82) (tgt := 86) C dX10_worth_79 (by decide) rfl (fun hc => ?_) (fun hc => ?_)
        · rw [if_neg hc] at h
          exact g_sub C [0, 1, 2, 3, 4] rfl (w_X10_worth_B86 C hr hR (f_X10_worth_L23 n) ih _ _ _ _ _ h)
        · rw [if_pos hc] at h
          refine g_iconst (pc' := 83) (v := 1) C dX10_worth_82 (by decide) rfl ?_
          refine g_goto (tgt := 87) C dX10_worth_83 (by decide) ?_
          exact g_sub C [0, 1, 2, 3, 4] rfl (w_X10_worth_B87 C hr hR (f_X10_worth_L23 n) ih _ _ _ _ _ _ h)
def f_X10_worth (σ : cr_S) (a1 : Int32) (a2 : Int32) : Option (cr_S × Int32) :=
  Option.bind (f_X10_isShip σ a1) (fun q1 => (if q1.2 = 0 then some (q1.1, (-1)) else Option.bind (f_X10_isPair q1.1 a2) (fun q3 => (if q3.2 = 0 then some (q3.1, (-1)) else f_X10_worth_L23 cr_fuel q3.1 a1 a2 0 0))))
set_option maxRecDepth 100000 in
set_option maxHeartbeats 4000000 in
theorem w_X10_worth (C : cr_C p l e R s m args below meth c sfC 97 base D cA cX10_worth 6 RX10) (hr : meth.sig.returnType = some .int) (hR : 6 ≤ R.frames ∧ 136 ≤ R.locals) {res : cr_S × Int32} (σ : cr_S) (a1 : Int32) (a2 : Int32) (h : f_X10_worth σ a1 a2 = some res) : cr_W p l e R s m args below meth c sfC 97 base D cA 6 (MQ below (cr_Qi sfC 97 base D cA res) args s 0 0 (cr_A 97 base)) σ 0 [(0, .ref (base + 0)), (1, .int a1), (2, .int a2)] [] := by
  unfold f_X10_worth at h
  refine g_aload_n (pc' := 1) C dX10_worth_0 0 rfl rfl ?_
  refine g_iload_n (pc' := 2) C dX10_worth_1 1 rfl rfl ?_
  obtain ⟨q1, h2, h⟩ := bind_some h
  refine g_callVi (pc' := 5) (res := q1) C [.int a1] cY_X10_isShip rfl (o := 0) (by decide) rfl mv_X10_isShip mm_X10_103 ⟨Nat.le_trans (by decide) hR.1, Nat.le_trans (by decide) hR.2⟩ rfl (Nat.le_of_ble_eq_true rfl) rfl dX10_worth_2 (c_X10_isShip l base D cA σ a1 q1 h2) rfl ?_
  refine g_if_eq (pc' := 8) (tgt := 16) C dX10_worth_5 (by decide) rfl (fun hc => ?_) (fun hc => ?_)
  · rw [if_pos hc] at h
    refine g_iconst (pc' := 17) (v := (-1)) C dX10_worth_16 (by decide) rfl ?_
    exact g_iret C hr dX10_worth_17 h
  · rw [if_neg hc] at h
    refine g_aload_n (pc' := 9) C dX10_worth_8 0 rfl rfl ?_
    refine g_iload_n (pc' := 10) C dX10_worth_9 2 rfl rfl ?_
    obtain ⟨q3, h4, h⟩ := bind_some h
    refine g_callVi (pc' := 13) (res := q3) C [.int a2] cY_X10_isPair rfl (o := 0) (by decide) rfl mv_X10_isPair mm_X10_72 ⟨Nat.le_trans (by decide) hR.1, Nat.le_trans (by decide) hR.2⟩ rfl (Nat.le_of_ble_eq_true rfl) rfl dX10_worth_10 (c_X10_isPair l base D cA q1.1 a2 q3 h4) rfl ?_
    refine g_if_ne (pc' := 16) (tgt := 18) C dX10_worth_13 (by decide) rfl (fun hc => ?_) (fun hc => ?_)
    · rw [if_neg hc] at h
      refine g_iconst (pc' := 19) (v := 0) C dX10_worth_18 (by decide) rfl ?_
      refine g_istore_n (pc' := 20) (lv' := [(3, .int 0), (0, .ref (base + 0)), (1, .int a1), (2, .int a2)]) C dX10_worth_19 rfl (by decide) rfl rfl ?_
      refine g_iconst (pc' := 21) (v := 0) C dX10_worth_20 (by decide) rfl ?_
      refine g_istore (pc' := 23) (lv' := [(4, .int 0), (3, .int 0), (0, .ref (base + 0)), (1, .int a1), (2, .int a2)]) C dX10_worth_21 (by decide) rfl rfl ?_
      exact g_sub C [2, 3, 4, 1, 0] rfl (w_X10_worth_L23 C hr hR _ _ _ _ _ _ h)
    · rw [if_pos hc] at h
      refine g_iconst (pc' := 17) (v := (-1)) C dX10_worth_16 (by decide) rfl ?_
      exact g_iret C hr dX10_worth_17 h
theorem c_X10_worth (l : Launch) (base : Nat) (D : va_G) (cA : Nat → ClassId) (σ : cr_S) (a1 : Int32) (a2 : Int32) (res : cr_S × Int32) (h : f_X10_worth σ a1 a2 = some res) : cr_M l yX10_worth cX10_worth 6 (some .int) 6 136 sfC 97 base D cA [.ref (base + 0), .int a1, .int a2] σ (cr_Qi sfC 97 base D cA res) := by
  refine cr_enter [.ref (base + 0), .int a1, .int a2] [(0, .ref (base + 0)), (1, .int a1), (2, .int a2)] (by decide) (Nat.le_of_ble_eq_true rfl) rfl ?_
  intro p e R s m below meth c C hr hR
  exact w_X10_worth C hr hR σ a1 a2 h
def f_X2_add_6 (σ : cr_S) (a1 : Int32) (a2 : Int32) : Option (cr_S × Int32) :=
  (if (rF σ 6 2) < 12 then chk (inb (rF σ 6 2) 12) (cr_let (sA σ 7 (rF σ 6 2) a1) (fun s2 => chk (inb (rF s2 6 2) 12) (cr_let (sA s2 8 (rF s2 6 2) a2) (fun s5 => cr_let (sF s5 6 2 ((rF s5 6 2) + 1)) (fun s7 => some (s7, 1)))))) else some (σ, 0))
set_option maxRecDepth 100000 in
set_option maxHeartbeats 4000000 in
theorem w_X2_add_6 (C : cr_C p l e R s m args below meth c sfC 97 base D cA cX2_add 3 RX2) (hr : meth.sig.returnType = some .boolean) (hR : 0 ≤ R.frames ∧ 0 ≤ R.locals) {res : cr_S × Int32} (σ : cr_S) (a1 : Int32) (a2 : Int32) (h : f_X2_add_6 σ a1 a2 = some res) : cr_W p l e R s m args below meth c sfC 97 base D cA 3 (MQ below (cr_Qi sfC 97 base D cA res) args s 0 0 (cr_A 97 base)) σ 0 [(0, .ref (base + 6)), (1, .int a1), (2, .int a2)] [] := by
  unfold f_X2_add_6 at h
  refine g_aload_n (pc' := 1) C dX2_add_0 0 rfl rfl ?_
  refine gg_X2_18 (pc' := 4) (o := 6) C rfl dX2_add_1 rfl ?_
  refine g_bipush (pc' := 6) (v := 12) C dX2_add_4 (by decide) rfl ?_
  refine g_icmp_lt (pc' := 9) (tgt := 11) C dX2_add_6 (by decide) rfl (fun hc => ?_) (fun hc => ?_)
  · rw [if_pos hc] at h
    refine g_aload_n (pc' := 12) C dX2_add_11 0 rfl rfl ?_
    refine gg_X2_9 (pc' := 15) (o := 6) (r := 7) C rfl rfl dX2_add_12 rfl ?_
    refine g_aload_n (pc' := 16) C dX2_add_15 0 rfl rfl ?_
    refine gg_X2_18 (pc' := 19) (o := 6) C rfl dX2_add_16 rfl ?_
    refine g_iload_n (pc' := 20) C dX2_add_19 1 rfl rfl ?_
    obtain ⟨h1, h⟩ := chk_some h
    obtain ⟨s2, e3, h⟩ := let_some h
    refine g_iast (pc' := 21) C (o := 7) (by decide) rfl h1 dX2_add_20 rfl e3 ?_
    refine g_aload_n (pc' := 22) C dX2_add_21 0 rfl rfl ?_
    refine gg_X2_15 (pc' := 25) (o := 6) (r := 8) C rfl rfl dX2_add_22 rfl ?_
    refine g_aload_n (pc' := 26) C dX2_add_25 0 rfl rfl ?_
    refine gg_X2_18 (pc' := 29) (o := 6) C rfl dX2_add_26 rfl ?_
    refine g_iload_n (pc' := 30) C dX2_add_29 2 rfl rfl ?_
    obtain ⟨h4, h⟩ := chk_some h
    obtain ⟨s5, e6, h⟩ := let_some h
    refine g_iast (pc' := 31) C (o := 8) (by decide) rfl h4 dX2_add_30 rfl e6 ?_
    refine g_aload_n (pc' := 32) C dX2_add_31 0 rfl rfl ?_
    refine g_dup (pc' := 33) C dX2_add_32 rfl rfl ?_
    refine gg_X2_18 (pc' := 36) (o := 6) C rfl dX2_add_33 rfl ?_
    refine g_iconst (pc' := 37) (v := 1) C dX2_add_36 (by decide) rfl ?_
    refine g_iadd (pc' := 38) C dX2_add_37 rfl ?_
    obtain ⟨s7, e8, h⟩ := let_some h
    refine gp_X2_18 (pc' := 41) (o := 6) C rfl dX2_add_38 rfl e8 ?_
    refine g_iconst (pc' := 42) (v := 1) C dX2_add_41 (by decide) rfl ?_
    exact g_zret C hr rfl dX2_add_42 h
  · rw [if_neg hc] at h
    refine g_iconst (pc' := 10) (v := 0) C dX2_add_9 (by decide) rfl ?_
    exact g_zret C hr rfl dX2_add_10 h
theorem c_X2_add_6 (l : Launch) (base : Nat) (D : va_G) (cA : Nat → ClassId) (σ : cr_S) (a1 : Int32) (a2 : Int32) (res : cr_S × Int32) (h : f_X2_add_6 σ a1 a2 = some res) : cr_M l yX2_add cX2_add 3 (some .boolean) 0 0 sfC 97 base D cA [.ref (base + 6), .int a1, .int a2] σ (cr_Qi sfC 97 base D cA res) := by
  refine cr_enter [.ref (base + 6), .int a1, .int a2] [(0, .ref (base + 6)), (1, .int a1), (2, .int a2)] (by decide) (Nat.le_of_ble_eq_true rfl) rfl ?_
  intro p e R s m below meth c C hr hR
  exact w_X2_add_6 C hr hR σ a1 a2 h
def f_X10_look (σ : cr_S) (a1 : Int32) (a2 : Int32) : Option (cr_S × Int32) :=
  Option.bind (f_X10_isWithin σ a1 0 9999) (fun q1 => (if q1.2 = 0 then some (q1.1, (-1)) else Option.bind (f_X10_isWithin q1.1 a2 0 1) (fun q3 => (if q3.2 = 0 then some (q3.1, (-1)) else Option.bind (f_X2_add_6 q3.1 a1 a2) (fun q5 => some (q5.1, if q5.2 = 0 then (-3) else rF q5.1 6 2))))))
set_option maxRecDepth 100000 in
set_option maxHeartbeats 4000000 in
theorem w_X10_look (C : cr_C p l e R s m args below meth c sfC 97 base D cA cX10_look 3 RX10) (hr : meth.sig.returnType = some .int) (hR : 1 ≤ R.frames ∧ 22 ≤ R.locals) {res : cr_S × Int32} (σ : cr_S) (a1 : Int32) (a2 : Int32) (h : f_X10_look σ a1 a2 = some res) : cr_W p l e R s m args below meth c sfC 97 base D cA 3 (MQ below (cr_Qi sfC 97 base D cA res) args s 0 0 (cr_A 97 base)) σ 0 [(0, .ref (base + 0)), (1, .int a1), (2, .int a2)] [] := by
  unfold f_X10_look at h
  refine g_iload_n (pc' := 1) C dX10_look_0 1 rfl rfl ?_
  refine g_iconst (pc' := 2) (v := 0) C dX10_look_1 (by decide) rfl ?_
  refine g_sipush (pc' := 5) (v := 9999) C dX10_look_2 (by decide) rfl ?_
  obtain ⟨q1, h2, h⟩ := bind_some h
  refine g_callSi (pc' := 8) (res := q1) C [.int a1, .int 0, .int 9999] cY_X10_isWithin mv_X10_isWithin mm_X10_54 ⟨Nat.le_trans (by decide) hR.1, Nat.le_trans (by decide) hR.2⟩ rfl (Nat.le_of_ble_eq_true rfl) rfl dX10_look_5 (c_X10_isWithin l base D cA σ a1 0 9999 q1 h2) rfl ?_
  refine g_if_eq (pc' := 11) (tgt := 20) C dX10_look_8 (by decide) rfl (fun hc => ?_) (fun hc => ?_)
  · rw [if_pos hc] at h
    refine g_iconst (pc' := 21) (v := (-1)) C dX10_look_20 (by decide) rfl ?_
    exact g_iret C hr dX10_look_21 h
  · rw [if_neg hc] at h
    refine g_iload_n (pc' := 12) C dX10_look_11 2 rfl rfl ?_
    refine g_iconst (pc' := 13) (v := 0) C dX10_look_12 (by decide) rfl ?_
    refine g_iconst (pc' := 14) (v := 1) C dX10_look_13 (by decide) rfl ?_
    obtain ⟨q3, h4, h⟩ := bind_some h
    refine g_callSi (pc' := 17) (res := q3) C [.int a2, .int 0, .int 1] cY_X10_isWithin mv_X10_isWithin mm_X10_54 ⟨Nat.le_trans (by decide) hR.1, Nat.le_trans (by decide) hR.2⟩ rfl (Nat.le_of_ble_eq_true rfl) rfl dX10_look_14 (c_X10_isWithin l base D cA q1.1 a2 0 1 q3 h4) rfl ?_
    refine g_if_ne (pc' := 20) (tgt := 22) C dX10_look_17 (by decide) rfl (fun hc => ?_) (fun hc => ?_)
    · rw [if_neg hc] at h
      refine g_aload_n (pc' := 23) C dX10_look_22 0 rfl rfl ?_
      refine gg_X10_12 (pc' := 26) (o := 0) (r := 1) C rfl rfl dX10_look_23 rfl ?_
      refine gg_X10_170 (pc' := 29) (o := 1) (r := 6) C rfl rfl dX10_look_26 rfl ?_
      refine g_iload_n (pc' := 30) C dX10_look_29 1 rfl rfl ?_
      refine g_iload_n (pc' := 31) C dX10_look_30 2 rfl rfl ?_
      obtain ⟨q5, h6, h⟩ := bind_some h
      refine g_callVi (pc' := 34) (res := q5) C [.int a1, .int a2] cY_X2_add rfl (o := 6) (by decide) rfl mv_X2_add mm_X10_260 ⟨Nat.le_trans (by decide) hR.1, Nat.le_trans (by decide) hR.2⟩ rfl (Nat.le_of_ble_eq_true rfl) rfl dX10_look_31 (c_X2_add_6 l base D cA q3.1 a1 a2 q5 h6) rfl ?_
      refine g_iteI (σ := q5.1) (pj := 52) (lv := [(0, .ref (base + 0)), (1, .int a1), (2, .int a2)]) (st := []) (cd := q5.2 = 0) (a := (-3)) (b := rF q5.1 6 2) C ?_ (fun kt kf => ?_)
      · exact g_iret C hr dX10_look_52 h
      · refine g_if_eq (pc' := 37) (tgt := 50) C dX10_look_34 (by decide) rfl (fun hc => ?_) (fun hc => ?_)
        · refine g_bipush (pc' := 52) (v := (-3)) C dX10_look_50 (by decide) rfl ?_
          exact kt hc
        · refine g_aload_n (pc' := 38) C dX10_look_37 0 rfl rfl ?_
          refine gg_X10_12 (pc' := 41) (o := 0) (r := 1) C rfl rfl dX10_look_38 rfl ?_
          refine gg_X10_170 (pc' := 44) (o := 1) (r := 6) C rfl rfl dX10_look_41 rfl ?_
          refine gg_X10_174 (pc' := 47) (o := 6) C rfl dX10_look_44 rfl ?_
          refine g_goto (tgt := 52) C dX10_look_47 (by decide) ?_
          exact kf hc
    · rw [if_pos hc] at h
      refine g_iconst (pc' := 21) (v := (-1)) C dX10_look_20 (by decide) rfl ?_
      exact g_iret C hr dX10_look_21 h
theorem c_X10_look (l : Launch) (base : Nat) (D : va_G) (cA : Nat → ClassId) (σ : cr_S) (a1 : Int32) (a2 : Int32) (res : cr_S × Int32) (h : f_X10_look σ a1 a2 = some res) : cr_M l yX10_look cX10_look 3 (some .int) 1 22 sfC 97 base D cA [.ref (base + 0), .int a1, .int a2] σ (cr_Qi sfC 97 base D cA res) := by
  refine cr_enter [.ref (base + 0), .int a1, .int a2] [(0, .ref (base + 0)), (1, .int a1), (2, .int a2)] (by decide) (Nat.le_of_ble_eq_true rfl) rfl ?_
  intro p e R s m below meth c C hr hR
  exact w_X10_look C hr hR σ a1 a2 h
def f_X10_forget (σ : cr_S) : Option (cr_S × Int32) :=
  cr_let (rF σ 6 2) (fun v1 => cr_let (sF σ 6 2 0) (fun s3 => some (s3, v1)))
set_option maxRecDepth 100000 in
set_option maxHeartbeats 4000000 in
theorem w_X10_forget (C : cr_C p l e R s m args below meth c sfC 97 base D cA cX10_forget 2 RX10) (hr : meth.sig.returnType = some .int) (hR : 0 ≤ R.frames ∧ 0 ≤ R.locals) {res : cr_S × Int32} (σ : cr_S) (h : f_X10_forget σ = some res) : cr_W p l e R s m args below meth c sfC 97 base D cA 2 (MQ below (cr_Qi sfC 97 base D cA res) args s 0 0 (cr_A 97 base)) σ 0 [(0, .ref (base + 0))] [] := by
  unfold f_X10_forget at h
  refine g_aload_n (pc' := 1) C dX10_forget_0 0 rfl rfl ?_
  refine gg_X10_12 (pc' := 4) (o := 0) (r := 1) C rfl rfl dX10_forget_1 rfl ?_
  refine gg_X10_170 (pc' := 7) (o := 1) (r := 6) C rfl rfl dX10_forget_4 rfl ?_
  refine gg_X10_174 (pc' := 10) (o := 6) C rfl dX10_forget_7 rfl ?_
  obtain ⟨v1, e2, h⟩ := let_some h
  refine g_nameI e2 ?_
  refine g_istore_n (pc' := 11) (lv' := [(1, .int v1), (0, .ref (base + 0))]) C dX10_forget_10 rfl (by decide) rfl rfl ?_
  refine g_aload_n (pc' := 12) C dX10_forget_11 1 rfl rfl ?_
  refine gg_X10_12 (pc' := 15) (o := 0) (r := 1) C rfl rfl dX10_forget_12 rfl ?_
  refine gg_X10_170 (pc' := 18) (o := 1) (r := 6) C rfl rfl dX10_forget_15 rfl ?_
  refine g_iconst (pc' := 19) (v := 0) C dX10_forget_18 (by decide) rfl ?_
  obtain ⟨s3, e4, h⟩ := let_some h
  refine gp_X10_174 (pc' := 22) (o := 6) C rfl dX10_forget_19 rfl e4 ?_
  refine g_iload_n (pc' := 23) C dX10_forget_22 0 rfl rfl ?_
  exact g_iret C hr dX10_forget_23 h
theorem c_X10_forget (l : Launch) (base : Nat) (D : va_G) (cA : Nat → ClassId) (σ : cr_S) (res : cr_S × Int32) (h : f_X10_forget σ = some res) : cr_M l yX10_forget cX10_forget 2 (some .int) 0 0 sfC 97 base D cA [.ref (base + 0)] σ (cr_Qi sfC 97 base D cA res) := by
  refine cr_enter [.ref (base + 0)] [(0, .ref (base + 0))] (by decide) (Nat.le_of_ble_eq_true rfl) rfl ?_
  intro p e R s m below meth c C hr hR
  exact w_X10_forget C hr hR σ h
def f_J7_fill_53178_87_L5  : Nat → cr_S → Int32 → Int32 → Int32 → Option (cr_S)
  | 0, _, _, _, _ => none
  | n + 1, σ, x1, x2, x3 =>
    (if x3 ≤ x2 then some σ else chk (inb x2 60) (cr_let (sA σ 87 x2 x1) (fun s2 => cr_let (x2 + 1) (fun v4 => f_J7_fill_53178_87_L5 n s2 x1 v4 x3))))
set_option maxRecDepth 100000 in
set_option maxHeartbeats 4000000 in
theorem w_J7_fill_53178_87_L5 (C : cr_C p l e R s m args below meth c sfC 97 base D cA cJ7_fill_53178 4 RJ7) (hr : meth.sig.returnType = none) (hR : 0 ≤ R.frames ∧ 0 ≤ R.locals) {res : cr_S}  : ∀ (n : Nat) (σ : cr_S) (x1 : Int32) (x2 : Int32) (x3 : Int32), f_J7_fill_53178_87_L5 n σ x1 x2 x3 = some res → cr_W p l e R s m args below meth c sfC 97 base D cA 4 (MQ below (cr_Qv sfC 97 base D cA res) args s 0 0 (cr_A 97 base)) σ 5 [(0, .ref (base + 87)), (1, .int x1), (2, .int x2), (3, .int x3)] [] := by
  intro n
  induction n with
  | zero =>
    intro σ x1 x2 x3 h
    cases h
  | succ n ih =>
    intro σ x1 x2 x3 h
    rw [f_J7_fill_53178_87_L5] at h
    refine g_iload_n (pc' := 6) C dJ7_fill_53178_5 2 rfl rfl ?_
    refine g_iload_n (pc' := 7) C dJ7_fill_53178_6 3 rfl rfl ?_
    refine g_icmp_ge (pc' := 10) (tgt := 20) C dJ7_fill_53178_7 (by decide) rfl (fun hc => ?_) (fun hc => ?_)
    · rw [if_pos hc] at h
      exact g_vret C hr dJ7_fill_53178_20 h
    · rw [if_neg hc] at h
      refine g_aload_n (pc' := 11) C dJ7_fill_53178_10 0 rfl rfl ?_
      refine g_iload_n (pc' := 12) C dJ7_fill_53178_11 2 rfl rfl ?_
      refine g_iload_n (pc' := 13) C dJ7_fill_53178_12 1 rfl rfl ?_
      obtain ⟨h1, h⟩ := chk_some h
      obtain ⟨s2, e3, h⟩ := let_some h
      refine g_iast (pc' := 14) C (o := 87) (by decide) rfl h1 dJ7_fill_53178_13 rfl e3 ?_
      obtain ⟨v4, e5, h⟩ := let_some h
      refine g_iinc (pc' := 17) (v := v4) (lv' := [(2, .int v4), (0, .ref (base + 87)), (1, .int x1), (3, .int x3)]) C dJ7_fill_53178_14 2 rfl (by rw [e5]; rfl) (by decide) rfl rfl ?_
      refine g_goto (tgt := 5) C dJ7_fill_53178_17 (by decide) ?_
      exact g_sub C [1, 2, 0, 3] rfl (ih _ _ _ _ h)
def f_J7_fill_53178_87 (σ : cr_S) (a1 : Int32) : Option (cr_S) :=
  f_J7_fill_53178_87_L5 cr_fuel σ a1 0 60
set_option maxRecDepth 100000 in
set_option maxHeartbeats 4000000 in
theorem w_J7_fill_53178_87 (C : cr_C p l e R s m args below meth c sfC 97 base D cA cJ7_fill_53178 4 RJ7) (hr : meth.sig.returnType = none) (hR : 0 ≤ R.frames ∧ 0 ≤ R.locals) {res : cr_S} (σ : cr_S) (a1 : Int32) (h : f_J7_fill_53178_87 σ a1 = some res) : cr_W p l e R s m args below meth c sfC 97 base D cA 4 (MQ below (cr_Qv sfC 97 base D cA res) args s 0 0 (cr_A 97 base)) σ 0 [(0, .ref (base + 87)), (1, .int a1)] [] := by
  unfold f_J7_fill_53178_87 at h
  refine g_iconst (pc' := 1) (v := 0) C dJ7_fill_53178_0 (by decide) rfl ?_
  refine g_istore_n (pc' := 2) (lv' := [(2, .int 0), (0, .ref (base + 87)), (1, .int a1)]) C dJ7_fill_53178_1 rfl (by decide) rfl rfl ?_
  refine g_aload_n (pc' := 3) C dJ7_fill_53178_2 1 rfl rfl ?_
  refine g_alenI (pc' := 4) (v := 60) C (o := 87) (by decide) rfl rfl (by decide) dJ7_fill_53178_3 rfl ?_
  refine g_istore_n (pc' := 5) (lv' := [(3, .int 60), (2, .int 0), (0, .ref (base + 87)), (1, .int a1)]) C dJ7_fill_53178_4 rfl (by decide) rfl rfl ?_
  exact g_sub C [2, 3, 1, 0] rfl (w_J7_fill_53178_87_L5 C hr hR _ _ _ _ _ h)
theorem c_J7_fill_53178_87 (l : Launch) (base : Nat) (D : va_G) (cA : Nat → ClassId) (σ : cr_S) (a1 : Int32) (res : cr_S) (h : f_J7_fill_53178_87 σ a1 = some res) : cr_M l yJ7_fill_53178 cJ7_fill_53178 4 none 0 0 sfC 97 base D cA [.ref (base + 87), .int a1] σ (cr_Qv sfC 97 base D cA res) := by
  refine cr_enter [.ref (base + 87), .int a1] [(0, .ref (base + 87)), (1, .int a1)] (by decide) (Nat.le_of_ble_eq_true rfl) rfl ?_
  intro p e R s m below meth c C hr hR
  exact w_J7_fill_53178_87 C hr hR σ a1 h
def f_J7_fill_53178_86_L5  : Nat → cr_S → Int32 → Int32 → Int32 → Option (cr_S)
  | 0, _, _, _, _ => none
  | n + 1, σ, x1, x2, x3 =>
    (if x3 ≤ x2 then some σ else chk (inb x2 24) (cr_let (sA σ 86 x2 x1) (fun s2 => cr_let (x2 + 1) (fun v4 => f_J7_fill_53178_86_L5 n s2 x1 v4 x3))))
set_option maxRecDepth 100000 in
set_option maxHeartbeats 4000000 in
theorem w_J7_fill_53178_86_L5 (C : cr_C p l e R s m args below meth c sfC 97 base D cA cJ7_fill_53178 4 RJ7) (hr : meth.sig.returnType = none) (hR : 0 ≤ R.frames ∧ 0 ≤ R.locals) {res : cr_S}  : ∀ (n : Nat) (σ : cr_S) (x1 : Int32) (x2 : Int32) (x3 : Int32), f_J7_fill_53178_86_L5 n σ x1 x2 x3 = some res → cr_W p l e R s m args below meth c sfC 97 base D cA 4 (MQ below (cr_Qv sfC 97 base D cA res) args s 0 0 (cr_A 97 base)) σ 5 [(0, .ref (base + 86)), (1, .int x1), (2, .int x2), (3, .int x3)] [] := by
  intro n
  induction n with
  | zero =>
    intro σ x1 x2 x3 h
    cases h
  | succ n ih =>
    intro σ x1 x2 x3 h
    rw [f_J7_fill_53178_86_L5] at h
    refine g_iload_n (pc' := 6) C dJ7_fill_53178_5 2 rfl rfl ?_
    refine g_iload_n (pc' := 7) C dJ7_fill_53178_6 3 rfl rfl ?_
    refine g_icmp_ge (pc' := 10) (tgt := 20) C dJ7_fill_53178_7 (by decide) rfl (fun hc => ?_) (fun hc => ?_)
    · rw [if_pos hc] at h
      exact g_vret C hr dJ7_fill_53178_20 h
    · rw [if_neg hc] at h
      refine g_aload_n (pc' := 11) C dJ7_fill_53178_10 0 rfl rfl ?_
      refine g_iload_n (pc' := 12) C dJ7_fill_53178_11 2 rfl rfl ?_
      refine g_iload_n (pc' := 13) C dJ7_fill_53178_12 1 rfl rfl ?_
      obtain ⟨h1, h⟩ := chk_some h
      obtain ⟨s2, e3, h⟩ := let_some h
      refine g_iast (pc' := 14) C (o := 86) (by decide) rfl h1 dJ7_fill_53178_13 rfl e3 ?_
      obtain ⟨v4, e5, h⟩ := let_some h
      refine g_iinc (pc' := 17) (v := v4) (lv' := [(2, .int v4), (0, .ref (base + 86)), (1, .int x1), (3, .int x3)]) C dJ7_fill_53178_14 2 rfl (by rw [e5]; rfl) (by decide) rfl rfl ?_
      refine g_goto (tgt := 5) C dJ7_fill_53178_17 (by decide) ?_
      exact g_sub C [1, 2, 0, 3] rfl (ih _ _ _ _ h)
def f_J7_fill_53178_86 (σ : cr_S) (a1 : Int32) : Option (cr_S) :=
  f_J7_fill_53178_86_L5 cr_fuel σ a1 0 24
set_option maxRecDepth 100000 in
set_option maxHeartbeats 4000000 in
theorem w_J7_fill_53178_86 (C : cr_C p l e R s m args below meth c sfC 97 base D cA cJ7_fill_53178 4 RJ7) (hr : meth.sig.returnType = none) (hR : 0 ≤ R.frames ∧ 0 ≤ R.locals) {res : cr_S} (σ : cr_S) (a1 : Int32) (h : f_J7_fill_53178_86 σ a1 = some res) : cr_W p l e R s m args below meth c sfC 97 base D cA 4 (MQ below (cr_Qv sfC 97 base D cA res) args s 0 0 (cr_A 97 base)) σ 0 [(0, .ref (base + 86)), (1, .int a1)] [] := by
  unfold f_J7_fill_53178_86 at h
  refine g_iconst (pc' := 1) (v := 0) C dJ7_fill_53178_0 (by decide) rfl ?_
  refine g_istore_n (pc' := 2) (lv' := [(2, .int 0), (0, .ref (base + 86)), (1, .int a1)]) C dJ7_fill_53178_1 rfl (by decide) rfl rfl ?_
  refine g_aload_n (pc' := 3) C dJ7_fill_53178_2 1 rfl rfl ?_
  refine g_alenI (pc' := 4) (v := 24) C (o := 86) (by decide) rfl rfl (by decide) dJ7_fill_53178_3 rfl ?_
  refine g_istore_n (pc' := 5) (lv' := [(3, .int 24), (2, .int 0), (0, .ref (base + 86)), (1, .int a1)]) C dJ7_fill_53178_4 rfl (by decide) rfl rfl ?_
  exact g_sub C [2, 3, 1, 0] rfl (w_J7_fill_53178_86_L5 C hr hR _ _ _ _ _ h)
theorem c_J7_fill_53178_86 (l : Launch) (base : Nat) (D : va_G) (cA : Nat → ClassId) (σ : cr_S) (a1 : Int32) (res : cr_S) (h : f_J7_fill_53178_86 σ a1 = some res) : cr_M l yJ7_fill_53178 cJ7_fill_53178 4 none 0 0 sfC 97 base D cA [.ref (base + 86), .int a1] σ (cr_Qv sfC 97 base D cA res) := by
  refine cr_enter [.ref (base + 86), .int a1] [(0, .ref (base + 86)), (1, .int a1)] (by decide) (Nat.le_of_ble_eq_true rfl) rfl ?_
  intro p e R s m below meth c C hr hR
  exact w_J7_fill_53178_86 C hr hR σ a1 h
def f_X1_fold_85_6_B82 (r12 : cr_S → Int32 → Int32 → Option (cr_S)) (σ : cr_S) (x2 : Int32) (x3 : Int32) (t0 : Int32) (t1 : Int32) : Option (cr_S) :=
  cr_let (sF σ 85 5 (t1 ||| t0)) (fun s13 => cr_let (x3 + 1) (fun v15 => r12 s13 x2 v15))
set_option maxRecDepth 100000 in
set_option maxHeartbeats 4000000 in
theorem w_X1_fold_85_6_B82 (C : cr_C p l e R s m args below meth c sfC 97 base D cA cX1_fold 5 RX1) (hr : meth.sig.returnType = none) (hR : 0 ≤ R.frames ∧ 0 ≤ R.locals) {res : cr_S} (r12 : cr_S → Int32 → Int32 → Option (cr_S)) (hr12 : ∀ (σ : cr_S) (x2 : Int32) (x3 : Int32), r12 σ x2 x3 = some res → cr_W p l e R s m args below meth c sfC 97 base D cA 5 (MQ below (cr_Qv sfC 97 base D cA res) args s 0 0 (cr_A 97 base)) σ 12 [(0, .ref (base + 85)), (1, .ref (base + 6)), (2, .int x2), (3, .int x3)] []) (σ : cr_S) (x2 : Int32) (x3 : Int32) (t0 : Int32) (t1 : Int32) (h : f_X1_fold_85_6_B82 r12 σ x2 x3 t0 t1 = some res) : cr_W p l e R s m args below meth c sfC 97 base D cA 5 (MQ below (cr_Qv sfC 97 base D cA res) args s 0 0 (cr_A 97 base)) σ 82 [(0, .ref (base + 85)), (1, .ref (base + 6)), (2, .int x2), (3, .int x3)] [.int t0, .int t1, .ref (base + 85)] := by
  unfold f_X1_fold_85_6_B82 at h
  refine g_ior (pc' := 83) C dX1_fold_82 rfl ?_
  obtain ⟨s13, e14, h⟩ := let_some h
  refine gp_X1_42 (pc' := 86) (o := 85) C rfl dX1_fold_83 rfl e14 ?_
  obtain ⟨v15, e16, h⟩ := let_some h
  refine g_iinc (pc' := 89) (v := v15) (lv' := [(3, .int v15), (0, .ref (base + 85)), (1, .ref (base + 6)), (2, .int x2)]) C dX1_fold_86 3 rfl (by rw [e16]; rfl) (by decide) rfl rfl ?_
  refine g_goto (tgt := 12) C dX1_fold_89 (by decide) ?_
  exact g_sub C [1, 2, 3, 0] rfl (hr12 _ _ _ h)
def f_X1_fold_85_6_B57 (r12 : cr_S → Int32 → Int32 → Option (cr_S)) (σ : cr_S) (x2 : Int32) (x3 : Int32) (x4 : Int32) (t0 : Int32) (t1 : Int32) : Option (cr_S) :=
  cr_let (sF σ 85 4 (t1 ||| t0)) (fun s10 => chk (inb x3 12) (f_X1_fold_85_6_B82 r12 s10 x2 x3 (if (rA s10 8 x3) = 1 then 0 else x4) (rF s10 85 5)))
set_option maxRecDepth 100000 in
set_option maxHeartbeats 4000000 in
theorem w_X1_fold_85_6_B57 (C : cr_C p l e R s m args below meth c sfC 97 base D cA cX1_fold 5 RX1) (hr : meth.sig.returnType = none) (hR : 0 ≤ R.frames ∧ 0 ≤ R.locals) {res : cr_S} (r12 : cr_S → Int32 → Int32 → Option (cr_S)) (hr12 : ∀ (σ : cr_S) (x2 : Int32) (x3 : Int32), r12 σ x2 x3 = some res → cr_W p l e R s m args below meth c sfC 97 base D cA 5 (MQ below (cr_Qv sfC 97 base D cA res) args s 0 0 (cr_A 97 base)) σ 12 [(0, .ref (base + 85)), (1, .ref (base + 6)), (2, .int x2), (3, .int x3)] []) (σ : cr_S) (x2 : Int32) (x3 : Int32) (x4 : Int32) (t0 : Int32) (t1 : Int32) (h : f_X1_fold_85_6_B57 r12 σ x2 x3 x4 t0 t1 = some res) : cr_W p l e R s m args below meth c sfC 97 base D cA 5 (MQ below (cr_Qv sfC 97 base D cA res) args s 0 0 (cr_A 97 base)) σ 57 [(0, .ref (base + 85)), (1, .ref (base + 6)), (2, .int x2), (3, .int x3), (4, .int x4)] [.int t0, .int t1, .ref (base + 85)] := by
  unfold f_X1_fold_85_6_B57 at h
  refine g_ior (pc' := 58) C dX1_fold_57 rfl ?_
  obtain ⟨s10, e11, h⟩ := let_some h
  refine gp_X1_39 (pc' := 61) (o := 85) C rfl dX1_fold_58 rfl e11 ?_
  refine g_aload_n (pc' := 62) C dX1_fold_61 0 rfl rfl ?_
  refine g_dup (pc' := 63) C dX1_fold_62 rfl rfl ?_
  refine gg_X1_42 (pc' := 66) (o := 85) C rfl dX1_fold_63 rfl ?_
  refine g_aload_n (pc' := 67) C dX1_fold_66 1 rfl rfl ?_
  refine gg_X1_53 (pc' := 70) (o := 6) (r := 8) C rfl rfl dX1_fold_67 rfl ?_
  refine g_iload_n (pc' := 71) C dX1_fold_70 3 rfl rfl ?_
  obtain ⟨h12, h⟩ := chk_some h
  refine g_iald (pc' := 72) C (o := 8) (by decide) rfl h12 dX1_fold_71 rfl ?_
  refine g_iconst (pc' := 73) (v := 1) C dX1_fold_72 (by decide) rfl ?_
  refine g_iteI (σ := s10) (pj := 82) (lv := [(0, .ref (base + 85)), (1, .ref (base + 6)), (2, .int x2), (3, .int x3), (4, .int x4)]) (st := [.int (rF s10 85 5), .ref (base + 85)]) (cd := (rA s10 8 x3) = 1) (a := 0) (b := x4) C ?_ (fun kt kf => ?_)
  · exact g_sub C [0, 1, 2, 3] rfl (w_X1_fold_85_6_B82 C hr hR r12 hr12 _ _ _ _ _ h)
  · refine g_icmp_ne (pc' := 76) (tgt := 80) C dX1_fold_73 (by decide) rfl (fun hc => ?_) (fun hc => ?_)
    · refine g_iload (pc' := 82) C dX1_fold_80 4 rfl rfl ?_
      exact kf hc
    · refine g_iconst (pc' := 77) (v := 0) C dX1_fold_76 (by decide) rfl ?_
      refine g_goto (tgt := 82) C dX1_fold_77 (by decide) ?_
      exact kt hc
def f_X1_fold_85_6_L12  : Nat → cr_S → Int32 → Int32 → Option (cr_S)
  | 0, _, _, _ => none
  | n + 1, σ, x2, x3 =>
    (if (rF σ 6 2) ≤ x3 then some σ else (if x2 ≤ 0 then some σ else chk (inb x3 12) (chk (¬ x2 = 0) (cr_let (1 <<< (((rA σ 7 x3) - (rA σ 7 x3) / x2 * x2) &&& 31)) (fun v7 => chk (inb x3 12) (f_X1_fold_85_6_B57 (f_X1_fold_85_6_L12 n) σ x2 x3 v7 (if (rA σ 8 x3) = 1 then v7 else 0) (rF σ 85 4)))))))
set_option maxRecDepth 100000 in
set_option maxHeartbeats 4000000 in
theorem w_X1_fold_85_6_L12 (C : cr_C p l e R s m args below meth c sfC 97 base D cA cX1_fold 5 RX1) (hr : meth.sig.returnType = none) (hR : 0 ≤ R.frames ∧ 0 ≤ R.locals) {res : cr_S}  : ∀ (n : Nat) (σ : cr_S) (x2 : Int32) (x3 : Int32), f_X1_fold_85_6_L12 n σ x2 x3 = some res → cr_W p l e R s m args below meth c sfC 97 base D cA 5 (MQ below (cr_Qv sfC 97 base D cA res) args s 0 0 (cr_A 97 base)) σ 12 [(0, .ref (base + 85)), (1, .ref (base + 6)), (2, .int x2), (3, .int x3)] [] := by
  intro n
  induction n with
  | zero =>
    intro σ x2 x3 h
    cases h
  | succ n ih =>
    intro σ x2 x3 h
    rw [f_X1_fold_85_6_L12] at h
    refine g_iload_n (pc' := 13) C dX1_fold_12 3 rfl rfl ?_
    refine g_aload_n (pc' := 14) C dX1_fold_13 1 rfl rfl ?_
    refine gg_X1_45 (pc' := 17) (o := 6) C rfl dX1_fold_14 rfl ?_
    refine g_icmp_ge (pc' := 20) (tgt := 92) C dX1_fold_17 (by decide) rfl (fun hc => ?_) (fun hc => ?_)
    · rw [if_pos hc] at h
      exact g_vret C hr dX1_fold_92 h
    · rw [if_neg hc] at h
      refine g_iload_n (pc' := 21) C dX1_fold_20 2 rfl rfl ?_
      refine g_if_le (pc' := 24) (tgt := 92) C dX1_fold_21 (by decide) rfl (fun hc => ?_) (fun hc => ?_)
      · rw [if_pos hc] at h
        exact g_vret C hr dX1_fold_92 h
      · rw [if_neg hc] at h
        refine g_iconst (pc' := 25) (v := 1) C dX1_fold_24 (by decide) rfl ?_
        refine g_aload_n (pc' := 26) C dX1_fold_25 1 rfl rfl ?_
        refine gg_X1_50 (pc' := 29) (o := 6) (r := 7) C rfl rfl dX1_fold_26 rfl ?_
        refine g_iload_n (pc' := 30) C dX1_fold_29 3 rfl rfl ?_
        obtain ⟨h5, h⟩ := chk_some h
        refine g_iald (pc' := 31) C (o := 7) (by decide) rfl h5 dX1_fold_30 rfl ?_
        refine g_iload_n (pc' := 32) C dX1_fold_31 2 rfl rfl ?_
        obtain ⟨h6, h⟩ := chk_some h
        refine g_irem (pc' := 33) C dX1_fold_32 h6 rfl ?_
        refine g_ishl (pc' := 34) C dX1_fold_33 rfl ?_
        obtain ⟨v7, e8, h⟩ := let_some h
        refine g_nameI e8 ?_
        refine g_istore (pc' := 36) (lv' := [(4, .int v7), (0, .ref (base + 85)), (1, .ref (base + 6)), (2, .int x2), (3, .int x3)]) C dX1_fold_34 (by decide) rfl rfl ?_
        refine g_aload_n (pc' := 37) C dX1_fold_36 1 rfl rfl ?_
        refine g_dup (pc' := 38) C dX1_fold_37 rfl rfl ?_
        refine gg_X1_39 (pc' := 41) (o := 85) C rfl dX1_fold_38 rfl ?_
        refine g_aload_n (pc' := 42) C dX1_fold_41 2 rfl rfl ?_
        refine gg_X1_53 (pc' := 45) (o := 6) (r := 8) C rfl rfl dX1_fold_42 rfl ?_
        refine g_iload_n (pc' := 46) C dX1_fold_45 4 rfl rfl ?_
        obtain ⟨h9, h⟩ := chk_some h
        refine g_iald (pc' := 47) C (o := 8) (by decide) rfl h9 dX1_fold_46 rfl ?_
        refine g_iconst (pc' := 48) (v := 1) C dX1_fold_47 (by decide) rfl ?_
        refine g_iteI (σ := σ) (pj := 57) (lv := [(4, .int v7), (0, .ref (base + 85)), (1, .ref (base + 6)), (2, .int x2), (3, .int x3)]) (st := [.int (rF σ 85 4), .ref (base + 85)]) (cd := (rA σ 8 x3) = 1) (a := v7) (b := 0) C ?_ (fun kt kf => ?_)
        · exact g_sub C [1, 2, 3, 4, 0] rfl (w_X1_fold_85_6_B57 C hr hR (f_X1_fold_85_6_L12 n) ih _ _ _ _ _ _ h)
        · refine g_icmp_ne (pc' := 51) (tgt := 56) C dX1_fold_48 (by decide) rfl (fun hc => ?_) (fun hc => ?_)
          · refine g_iconst (pc' := 57) (v := 0) C dX1_fold_56 (by decide) rfl ?_
            exact kf hc
          · refine g_iload (pc' := 53) C dX1_fold_51 0 rfl rfl ?_
            refine g_goto (tgt := 57) C dX1_fold_53 (by decide) ?_
            exact kt hc
def f_X1_fold_85_6 (σ : cr_S) (a2 : Int32) : Option (cr_S) :=
  cr_let (sF σ 85 4 0) (fun s1 => cr_let (sF s1 85 5 0) (fun s3 => f_X1_fold_85_6_L12 cr_fuel s3 a2 0))
set_option maxRecDepth 100000 in
set_option maxHeartbeats 4000000 in
theorem w_X1_fold_85_6 (C : cr_C p l e R s m args below meth c sfC 97 base D cA cX1_fold 5 RX1) (hr : meth.sig.returnType = none) (hR : 0 ≤ R.frames ∧ 0 ≤ R.locals) {res : cr_S} (σ : cr_S) (a2 : Int32) (h : f_X1_fold_85_6 σ a2 = some res) : cr_W p l e R s m args below meth c sfC 97 base D cA 5 (MQ below (cr_Qv sfC 97 base D cA res) args s 0 0 (cr_A 97 base)) σ 0 [(0, .ref (base + 85)), (1, .ref (base + 6)), (2, .int a2)] [] := by
  unfold f_X1_fold_85_6 at h
  refine g_aload_n (pc' := 1) C dX1_fold_0 0 rfl rfl ?_
  refine g_iconst (pc' := 2) (v := 0) C dX1_fold_1 (by decide) rfl ?_
  obtain ⟨s1, e2, h⟩ := let_some h
  refine gp_X1_39 (pc' := 5) (o := 85) C rfl dX1_fold_2 rfl e2 ?_
  refine g_aload_n (pc' := 6) C dX1_fold_5 0 rfl rfl ?_
  refine g_iconst (pc' := 7) (v := 0) C dX1_fold_6 (by decide) rfl ?_
  obtain ⟨s3, e4, h⟩ := let_some h
  refine gp_X1_42 (pc' := 10) (o := 85) C rfl dX1_fold_7 rfl e4 ?_
  refine g_iconst (pc' := 11) (v := 0) C dX1_fold_10 (by decide) rfl ?_
  refine g_istore_n (pc' := 12) (lv' := [(3, .int 0), (0, .ref (base + 85)), (1, .ref (base + 6)), (2, .int a2)]) C dX1_fold_11 rfl (by decide) rfl rfl ?_
  exact g_sub C [1, 2, 3, 0] rfl (w_X1_fold_85_6_L12 C hr hR _ _ _ _ h)
theorem c_X1_fold_85_6 (l : Launch) (base : Nat) (D : va_G) (cA : Nat → ClassId) (σ : cr_S) (a2 : Int32) (res : cr_S) (h : f_X1_fold_85_6 σ a2 = some res) : cr_M l yX1_fold cX1_fold 5 none 0 0 sfC 97 base D cA [.ref (base + 85), .ref (base + 6), .int a2] σ (cr_Qv sfC 97 base D cA res) := by
  refine cr_enter [.ref (base + 85), .ref (base + 6), .int a2] [(0, .ref (base + 85)), (1, .ref (base + 6)), (2, .int a2)] (by decide) (Nat.le_of_ble_eq_true rfl) rfl ?_
  intro p e R s m below meth c C hr hR
  exact w_X1_fold_85_6 C hr hR σ a2 h
def f_X1_surveyPhases_85_B137 (r16 : cr_S → Int32 → Int32 → Int32 → Int32 → Int32 → Option (cr_S)) (σ : cr_S) (x1 : Int32) (x2 : Int32) (x3 : Int32) (x4 : Int32) (x5 : Int32) : Option (cr_S) :=
  cr_let (x5 + 1) (fun v7 => r16 σ x1 x2 x3 x4 v7)
set_option maxRecDepth 100000 in
set_option maxHeartbeats 4000000 in
theorem w_X1_surveyPhases_85_B137 (C : cr_C p l e R s m args below meth c sfC 97 base D cA cX1_surveyPhases 8 RX1) (hr : meth.sig.returnType = none) (hR : 0 ≤ R.frames ∧ 0 ≤ R.locals) {res : cr_S} (r16 : cr_S → Int32 → Int32 → Int32 → Int32 → Int32 → Option (cr_S)) (hr16 : ∀ (σ : cr_S) (x1 : Int32) (x2 : Int32) (x3 : Int32) (x4 : Int32) (x5 : Int32), r16 σ x1 x2 x3 x4 x5 = some res → cr_W p l e R s m args below meth c sfC 97 base D cA 8 (MQ below (cr_Qv sfC 97 base D cA res) args s 0 0 (cr_A 97 base)) σ 16 [(0, .ref (base + 85)), (1, .int x1), (2, .int x2), (3, .int x3), (4, .int x4), (5, .int x5)] []) (σ : cr_S) (x1 : Int32) (x2 : Int32) (x3 : Int32) (x4 : Int32) (x5 : Int32) (h : f_X1_surveyPhases_85_B137 r16 σ x1 x2 x3 x4 x5 = some res) : cr_W p l e R s m args below meth c sfC 97 base D cA 8 (MQ below (cr_Qv sfC 97 base D cA res) args s 0 0 (cr_A 97 base)) σ 137 [(0, .ref (base + 85)), (1, .int x1), (2, .int x2), (3, .int x3), (4, .int x4), (5, .int x5)] [] := by
  unfold f_X1_surveyPhases_85_B137 at h
  obtain ⟨v7, e8, h⟩ := let_some h
  refine g_iinc (pc' := 140) (v := v7) (lv' := [(5, .int v7), (0, .ref (base + 85)), (1, .int x1), (2, .int x2), (3, .int x3), (4, .int x4)]) C dX1_surveyPhases_137 5 rfl (by rw [e8]; rfl) (by decide) rfl rfl ?_
  refine g_goto (tgt := 16) C dX1_surveyPhases_140 (by decide) ?_
  exact g_sub C [1, 2, 3, 4, 5, 0] rfl (hr16 _ _ _ _ _ _ h)
def f_X1_surveyPhases_85_L108 (r16 : cr_S → Int32 → Int32 → Int32 → Int32 → Int32 → Option (cr_S)) : Nat → cr_S → Int32 → Int32 → Int32 → Int32 → Int32 → Int32 → Int32 → Option (cr_S)
  | 0, _, _, _, _, _, _, _, _ => none
  | n + 1, σ, x1, x2, x3, x4, x5, x6, x7 =>
    (if x1 ≤ x7 then f_X1_surveyPhases_85_B137 r16 σ x1 x2 x3 x4 x5 else chk (inb x7 24) (chk (inb x7 24) (cr_let (sA σ 86 x7 ((rA σ 86 x7) + ((x6 >>> (x7 &&& 31)) &&& 1))) (fun s15 => cr_let (x7 + 1) (fun v17 => f_X1_surveyPhases_85_L108 r16 n s15 x1 x2 x3 x4 x5 x6 v17)))))
set_option maxRecDepth 100000 in
set_option maxHeartbeats 4000000 in
theorem w_X1_surveyPhases_85_L108 (C : cr_C p l e R s m args below meth c sfC 97 base D cA cX1_surveyPhases 8 RX1) (hr : meth.sig.returnType = none) (hR : 0 ≤ R.frames ∧ 0 ≤ R.locals) {res : cr_S} (r16 : cr_S → Int32 → Int32 → Int32 → Int32 → Int32 → Option (cr_S)) (hr16 : ∀ (σ : cr_S) (x1 : Int32) (x2 : Int32) (x3 : Int32) (x4 : Int32) (x5 : Int32), r16 σ x1 x2 x3 x4 x5 = some res → cr_W p l e R s m args below meth c sfC 97 base D cA 8 (MQ below (cr_Qv sfC 97 base D cA res) args s 0 0 (cr_A 97 base)) σ 16 [(0, .ref (base + 85)), (1, .int x1), (2, .int x2), (3, .int x3), (4, .int x4), (5, .int x5)] []) : ∀ (n : Nat) (σ : cr_S) (x1 : Int32) (x2 : Int32) (x3 : Int32) (x4 : Int32) (x5 : Int32) (x6 : Int32) (x7 : Int32), f_X1_surveyPhases_85_L108 r16 n σ x1 x2 x3 x4 x5 x6 x7 = some res → cr_W p l e R s m args below meth c sfC 97 base D cA 8 (MQ below (cr_Qv sfC 97 base D cA res) args s 0 0 (cr_A 97 base)) σ 108 [(0, .ref (base + 85)), (1, .int x1), (2, .int x2), (3, .int x3), (4, .int x4), (5, .int x5), (6, .int x6), (7, .int x7)] [] := by
  intro n
  induction n with
  | zero =>
    intro σ x1 x2 x3 x4 x5 x6 x7 h
    cases h
  | succ n ih =>
    intro σ x1 x2 x3 x4 x5 x6 x7 h
    rw [f_X1_surveyPhases_85_L108] at h
    refine g_iload (pc' := 110) C dX1_surveyPhases_108 7 rfl rfl ?_
    refine g_iload_n (pc' := 111) C dX1_surveyPhases_110 1 rfl rfl ?_
    refine g_icmp_ge (pc' := 114) (tgt := 137) C dX1_surveyPhases_111 (by decide) rfl (fun hc => ?_) (fun hc => ?_)
    · rw [if_pos hc] at h
      exact g_sub C [0, 1, 2, 3, 4, 5] rfl (w_X1_surveyPhases_85_B137 C hr hR r16 hr16 _ _ _ _ _ _ h)
    · rw [if_neg hc] at h
      refine g_aload_n (pc' := 115) C dX1_surveyPhases_114 0 rfl rfl ?_
      refine gg_X1_9 (pc' := 118) (o := 85) (r := 86) C rfl rfl dX1_surveyPhases_115 rfl ?_
      refine g_iload (pc' := 120) C dX1_surveyPhases_118 7 rfl rfl ?_
      refine g_dup2 (pc' := 121) C dX1_surveyPhases_120 rfl rfl rfl ?_
      obtain ⟨h13, h⟩ := chk_some h
      refine g_iald (pc' := 122) C (o := 86) (by decide) rfl h13 dX1_surveyPhases_121 rfl ?_
      refine g_iload (pc' := 124) C dX1_surveyPhases_122 6 rfl rfl ?_
      refine g_iload (pc' := 126) C dX1_surveyPhases_124 7 rfl rfl ?_
      refine g_ishr (pc' := 127) C dX1_surveyPhases_126 rfl ?_
      refine g_iconst (pc' := 128) (v := 1) C dX1_surveyPhases_127 (by decide) rfl ?_
      refine g_iand (pc' := 129) C dX1_surveyPhases_128 rfl ?_
      refine g_iadd (pc' := 130) C dX1_surveyPhases_129 rfl ?_
      obtain ⟨h14, h⟩ := chk_some h
      obtain ⟨s15, e16, h⟩ := let_some h
      refine g_iast (pc' := 131) C (o := 86) (by decide) rfl h14 dX1_surveyPhases_130 rfl e16 ?_
      obtain ⟨v17, e18, h⟩ := let_some h
      refine g_iinc (pc' := 134) (v := v17) (lv' := [(7, .int v17), (0, .ref (base + 85)), (1, .int x1), (2, .int x2), (3, .int x3), (4, .int x4), (5, .int x5), (6, .int x6)]) C dX1_surveyPhases_131 7 rfl (by rw [e18]; rfl) (by decide) rfl rfl ?_
      refine g_goto (tgt := 108) C dX1_surveyPhases_134 (by decide) ?_
      exact g_sub C [1, 2, 3, 4, 5, 6, 7, 0] rfl (ih _ _ _ _ _ _ _ _ h)
def f_X1_surveyPhases_85_B92 (r16 : cr_S → Int32 → Int32 → Int32 → Int32 → Int32 → Option (cr_S)) (σ : cr_S) (x1 : Int32) (x2 : Int32) (x3 : Int32) (x4 : Int32) (x5 : Int32) (x6 : Int32) (t0 : Int32) : Option (cr_S) :=
  cr_let (sF σ 85 3 t0) (fun s9 => cr_let (sF s9 85 2 ((rF s9 85 2) + 1)) (fun s11 => f_X1_surveyPhases_85_L108 r16 cr_fuel s11 x1 x2 x3 x4 x5 x6 0))
set_option maxRecDepth 100000 in
set_option maxHeartbeats 4000000 in
theorem w_X1_surveyPhases_85_B92 (C : cr_C p l e R s m args below meth c sfC 97 base D cA cX1_surveyPhases 8 RX1) (hr : meth.sig.returnType = none) (hR : 0 ≤ R.frames ∧ 0 ≤ R.locals) {res : cr_S} (r16 : cr_S → Int32 → Int32 → Int32 → Int32 → Int32 → Option (cr_S)) (hr16 : ∀ (σ : cr_S) (x1 : Int32) (x2 : Int32) (x3 : Int32) (x4 : Int32) (x5 : Int32), r16 σ x1 x2 x3 x4 x5 = some res → cr_W p l e R s m args below meth c sfC 97 base D cA 8 (MQ below (cr_Qv sfC 97 base D cA res) args s 0 0 (cr_A 97 base)) σ 16 [(0, .ref (base + 85)), (1, .int x1), (2, .int x2), (3, .int x3), (4, .int x4), (5, .int x5)] []) (σ : cr_S) (x1 : Int32) (x2 : Int32) (x3 : Int32) (x4 : Int32) (x5 : Int32) (x6 : Int32) (t0 : Int32) (h : f_X1_surveyPhases_85_B92 r16 σ x1 x2 x3 x4 x5 x6 t0 = some res) : cr_W p l e R s m args below meth c sfC 97 base D cA 8 (MQ below (cr_Qv sfC 97 base D cA res) args s 0 0 (cr_A 97 base)) σ 92 [(0, .ref (base + 85)), (1, .int x1), (2, .int x2), (3, .int x3), (4, .int x4), (5, .int x5), (6, .int x6)] [.int t0, .ref (base + 85)] := by
  unfold f_X1_surveyPhases_85_B92 at h
  obtain ⟨s9, e10, h⟩ := let_some h
  refine gp_X1_22 (pc' := 95) (o := 85) C rfl dX1_surveyPhases_92 rfl e10 ?_
  refine g_aload_n (pc' := 96) C dX1_surveyPhases_95 0 rfl rfl ?_
  refine g_dup (pc' := 97) C dX1_surveyPhases_96 rfl rfl ?_
  refine gg_X1_18 (pc' := 100) (o := 85) C rfl dX1_surveyPhases_97 rfl ?_
  refine g_iconst (pc' := 101) (v := 1) C dX1_surveyPhases_100 (by decide) rfl ?_
  refine g_iadd (pc' := 102) C dX1_surveyPhases_101 rfl ?_
  obtain ⟨s11, e12, h⟩ := let_some h
  refine gp_X1_18 (pc' := 105) (o := 85) C rfl dX1_surveyPhases_102 rfl e12 ?_
  refine g_iconst (pc' := 106) (v := 0) C dX1_surveyPhases_105 (by decide) rfl ?_
  refine g_istore (pc' := 108) (lv' := [(7, .int 0), (0, .ref (base + 85)), (1, .int x1), (2, .int x2), (3, .int x3), (4, .int x4), (5, .int x5), (6, .int x6)]) C dX1_surveyPhases_106 (by decide) rfl rfl ?_
  exact g_sub C [1, 2, 3, 4, 5, 6, 7, 0] rfl (w_X1_surveyPhases_85_L108 C hr hR r16 hr16 _ _ _ _ _ _ _ _ _ h)
def f_X1_surveyPhases_85_L16  : Nat → cr_S → Int32 → Int32 → Int32 → Int32 → Int32 → Option (cr_S)
  | 0, _, _, _, _, _, _ => none
  | n + 1, σ, x1, x2, x3, x4, x5 =>
    (if x1 ≤ x5 then some σ else cr_let (((x4 >>> (x5 &&& 31)) ||| (x4 <<< ((x1 - x5) &&& 31))) &&& x3) (fun v5 => (if ((rF σ 85 4) &&& (v5 ^^^ (-1))) = 0 then (if ((rF σ 85 5) &&& v5) = 0 then f_X1_surveyPhases_85_B92 (f_X1_surveyPhases_85_L16 n) σ x1 x2 x3 x4 x5 v5 (if (rF σ 85 2) = 0 then ((10000 * x1) + (100 * x2)) + x5 else rF σ 85 3) else f_X1_surveyPhases_85_B137 (f_X1_surveyPhases_85_L16 n) σ x1 x2 x3 x4 x5) else f_X1_surveyPhases_85_B137 (f_X1_surveyPhases_85_L16 n) σ x1 x2 x3 x4 x5)))
set_option maxRecDepth 100000 in
set_option maxHeartbeats 4000000 in
theorem w_X1_surveyPhases_85_L16 (C : cr_C p l e R s m args below meth c sfC 97 base D cA cX1_surveyPhases 8 RX1) (hr : meth.sig.returnType = none) (hR : 0 ≤ R.frames ∧ 0 ≤ R.locals) {res : cr_S}  : ∀ (n : Nat) (σ : cr_S) (x1 : Int32) (x2 : Int32) (x3 : Int32) (x4 : Int32) (x5 : Int32), f_X1_surveyPhases_85_L16 n σ x1 x2 x3 x4 x5 = some res → cr_W p l e R s m args below meth c sfC 97 base D cA 8 (MQ below (cr_Qv sfC 97 base D cA res) args s 0 0 (cr_A 97 base)) σ 16 [(0, .ref (base + 85)), (1, .int x1), (2, .int x2), (3, .int x3), (4, .int x4), (5, .int x5)] [] := by
  intro n
  induction n with
  | zero =>
    intro σ x1 x2 x3 x4 x5 h
    cases h
  | succ n ih =>
    intro σ x1 x2 x3 x4 x5 h
    rw [f_X1_surveyPhases_85_L16] at h
    refine g_iload (pc' := 18) C dX1_surveyPhases_16 5 rfl rfl ?_
    refine g_iload_n (pc' := 19) C dX1_surveyPhases_18 1 rfl rfl ?_
    refine g_icmp_ge (pc' := 22) (tgt := 143) C dX1_surveyPhases_19 (by decide) rfl (fun hc => ?_) (fun hc => ?_)
    · rw [if_pos hc] at h
      exact g_vret C hr dX1_surveyPhases_143 h
    · rw [if_neg hc] at h
      refine g_iload (pc' := 24) C dX1_surveyPhases_22 4 rfl rfl ?_
      refine g_iload (pc' := 26) C dX1_surveyPhases_24 5 rfl rfl ?_
      refine g_ishr (pc' := 27) C dX1_surveyPhases_26 rfl ?_
      refine g_iload (pc' := 29) C dX1_surveyPhases_27 4 rfl rfl ?_
      refine g_iload_n (pc' := 30) C dX1_surveyPhases_29 1 rfl rfl ?_
      refine g_iload (pc' := 32) C dX1_surveyPhases_30 5 rfl rfl ?_
      refine g_isub (pc' := 33) C dX1_surveyPhases_32 rfl ?_
      refine g_ishl (pc' := 34) C dX1_surveyPhases_33 rfl ?_
      refine g_ior (pc' := 35) C dX1_surveyPhases_34 rfl ?_
      refine g_iload_n (pc' := 36) C dX1_surveyPhases_35 3 rfl rfl ?_
      refine g_iand (pc' := 37) C dX1_surveyPhases_36 rfl ?_
      obtain ⟨v5, e6, h⟩ := let_some h
      refine g_nameI e6 ?_
      refine g_istore (pc' := 39) (lv' := [(6, .int v5), (0, .ref (base + 85)), (1, .int x1), (2, .int x2), (3, .int x3), (4, .int x4), (5, .int x5)]) C dX1_surveyPhases_37 (by decide) rfl rfl ?_
      refine g_aload_n (pc' := 40) C dX1_surveyPhases_39 1 rfl rfl ?_
      refine gg_X1_39 (pc' := 43) (o := 85) C rfl dX1_surveyPhases_40 rfl ?_
      refine g_iload (pc' := 45) C dX1_surveyPhases_43 0 rfl rfl ?_
      refine g_iconst (pc' := 46) (v := (-1)) C dX1_surveyPhases_45 (by decide) rfl ?_
      refine g_ixor (pc' := 47) C dX1_surveyPhases_46 rfl ?_
      refine g_iand (pc' := 48) C dX1_surveyPhases_47 rfl ?_
      refine g_if_ne (pc' := 51) (tgt := 137) C dX1_surveyPhases_48 (by decide) rfl (fun hc => ?_) (fun hc => ?_)
      · rw [if_neg hc] at h
        exact g_sub C [1, 2, 3, 4, 5, 6] rfl (w_X1_surveyPhases_85_B137 C hr hR (f_X1_surveyPhases_85_L16 n) ih _ _ _ _ _ _ h)
      · rw [if_pos hc] at h
        refine g_aload_n (pc' := 52) C dX1_surveyPhases_51 1 rfl rfl ?_
        refine gg_X1_42 (pc' := 55) (o := 85) C rfl dX1_surveyPhases_52 rfl ?_
        refine g_iload (pc' := 57) C dX1_surveyPhases_55 0 rfl rfl ?_
        refine g_iand (pc' := 58) C dX1_surveyPhases_57 rfl ?_
        refine g_if_eq (pc' := 61) (tgt := 64) C dX1_surveyPhases_58 (by decide) rfl (fun hc => ?_) (fun hc => ?_)
        · rw [if_pos hc] at h
          refine g_aload_n (pc' := 65) C dX1_surveyPhases_64 1 rfl rfl ?_
          refine g_aload_n (pc' := 66) C dX1_surveyPhases_65 1 rfl rfl ?_
          refine gg_X1_18 (pc' := 69) (o := 85) C rfl dX1_surveyPhases_66 rfl ?_
          refine g_iteI (σ := σ) (pj := 92) (lv := [(6, .int v5), (0, .ref (base + 85)), (1, .int x1), (2, .int x2), (3, .int x3), (4, .int x4), (5, .int x5)]) (st := [.ref (base + 85)]) (cd := (rF σ 85 2) = 0) (a := ((10000 * x1) + (100 * x2)) + x5) (b := rF σ 85 3) C ?_ (fun kt kf => ?_)
          · exact g_sub C [1, 2, 3, 4, 5, 6, 0] rfl (w_X1_surveyPhases_85_B92 C hr hR (f_X1_surveyPhases_85_L16 n) ih _ _ _ _ _ _ _ _ h)
          · refine g_if_ne (pc' := 72) (tgt := 88) C dX1_surveyPhases_69 (by decide) rfl (fun hc => ?_) (fun hc => ?_)
            · refine g_aload_n (pc' := 89) C dX1_surveyPhases_88 1 rfl rfl ?_
              refine gg_X1_22 (pc' := 92) (o := 85) C rfl dX1_surveyPhases_89 rfl ?_
              exact kf hc
            · refine g_sipush (pc' := 75) (v := 10000) C dX1_surveyPhases_72 (by decide) rfl ?_
              refine g_iload_n (pc' := 76) C dX1_surveyPhases_75 2 rfl rfl ?_
              refine g_imul (pc' := 77) C dX1_surveyPhases_76 rfl ?_
              refine g_bipush (pc' := 79) (v := 100) C dX1_surveyPhases_77 (by decide) rfl ?_
              refine g_iload_n (pc' := 80) C dX1_surveyPhases_79 3 rfl rfl ?_
              refine g_imul (pc' := 81) C dX1_surveyPhases_80 rfl ?_
              refine g_iadd (pc' := 82) C dX1_surveyPhases_81 rfl ?_
              refine g_iload (pc' := 84) C dX1_surveyPhases_82 6 rfl rfl ?_
              refine g_iadd (pc' := 85) C dX1_surveyPhases_84 rfl ?_
              refine g_goto (tgt := 92) C dX1_surveyPhases_85 (by decide) ?_
              exact kt hc
        · rw [if_neg hc] at h
          refine g_goto (tgt := 137) C dX1_surveyPhases_61 (by decide) ?_
          exact g_sub C [1, 2, 3, 4, 5, 6] rfl (w_X1_surveyPhases_85_B137 C hr hR (f_X1_surveyPhases_85_L16 n) ih _ _ _ _ _ _ h)
def f_X1_surveyPhases_85 (σ : cr_S) (a1 : Int32) (a2 : Int32) : Option (cr_S) :=
  cr_let ((1 <<< (a1 &&& 31)) - 1) (fun v1 => cr_let ((1 <<< (a2 &&& 31)) - 1) (fun v3 => f_X1_surveyPhases_85_L16 cr_fuel σ a1 a2 v1 v3 0))
set_option maxRecDepth 100000 in
set_option maxHeartbeats 4000000 in
theorem w_X1_surveyPhases_85 (C : cr_C p l e R s m args below meth c sfC 97 base D cA cX1_surveyPhases 8 RX1) (hr : meth.sig.returnType = none) (hR : 0 ≤ R.frames ∧ 0 ≤ R.locals) {res : cr_S} (σ : cr_S) (a1 : Int32) (a2 : Int32) (h : f_X1_surveyPhases_85 σ a1 a2 = some res) : cr_W p l e R s m args below meth c sfC 97 base D cA 8 (MQ below (cr_Qv sfC 97 base D cA res) args s 0 0 (cr_A 97 base)) σ 0 [(0, .ref (base + 85)), (1, .int a1), (2, .int a2)] [] := by
  unfold f_X1_surveyPhases_85 at h
  refine g_iconst (pc' := 1) (v := 1) C dX1_surveyPhases_0 (by decide) rfl ?_
  refine g_iload_n (pc' := 2) C dX1_surveyPhases_1 1 rfl rfl ?_
  refine g_ishl (pc' := 3) C dX1_surveyPhases_2 rfl ?_
  refine g_iconst (pc' := 4) (v := 1) C dX1_surveyPhases_3 (by decide) rfl ?_
  refine g_isub (pc' := 5) C dX1_surveyPhases_4 rfl ?_
  obtain ⟨v1, e2, h⟩ := let_some h
  refine g_nameI e2 ?_
  refine g_istore_n (pc' := 6) (lv' := [(3, .int v1), (0, .ref (base + 85)), (1, .int a1), (2, .int a2)]) C dX1_surveyPhases_5 rfl (by decide) rfl rfl ?_
  refine g_iconst (pc' := 7) (v := 1) C dX1_surveyPhases_6 (by decide) rfl ?_
  refine g_iload_n (pc' := 8) C dX1_surveyPhases_7 3 rfl rfl ?_
  refine g_ishl (pc' := 9) C dX1_surveyPhases_8 rfl ?_
  refine g_iconst (pc' := 10) (v := 1) C dX1_surveyPhases_9 (by decide) rfl ?_
  refine g_isub (pc' := 11) C dX1_surveyPhases_10 rfl ?_
  obtain ⟨v3, e4, h⟩ := let_some h
  refine g_nameI e4 ?_
  refine g_istore (pc' := 13) (lv' := [(4, .int v3), (3, .int v1), (0, .ref (base + 85)), (1, .int a1), (2, .int a2)]) C dX1_surveyPhases_11 (by decide) rfl rfl ?_
  refine g_iconst (pc' := 14) (v := 0) C dX1_surveyPhases_13 (by decide) rfl ?_
  refine g_istore (pc' := 16) (lv' := [(5, .int 0), (4, .int v3), (3, .int v1), (0, .ref (base + 85)), (1, .int a1), (2, .int a2)]) C dX1_surveyPhases_14 (by decide) rfl rfl ?_
  exact g_sub C [3, 4, 5, 2, 1, 0] rfl (w_X1_surveyPhases_85_L16 C hr hR _ _ _ _ _ _ _ h)
theorem c_X1_surveyPhases_85 (l : Launch) (base : Nat) (D : va_G) (cA : Nat → ClassId) (σ : cr_S) (a1 : Int32) (a2 : Int32) (res : cr_S) (h : f_X1_surveyPhases_85 σ a1 a2 = some res) : cr_M l yX1_surveyPhases cX1_surveyPhases 8 none 0 0 sfC 97 base D cA [.ref (base + 85), .int a1, .int a2] σ (cr_Qv sfC 97 base D cA res) := by
  refine cr_enter [.ref (base + 85), .int a1, .int a2] [(0, .ref (base + 85)), (1, .int a1), (2, .int a2)] (by decide) (Nat.le_of_ble_eq_true rfl) rfl ?_
  intro p e R s m below meth c C hr hR
  exact w_X1_surveyPhases_85 C hr hR σ a1 a2 h
end

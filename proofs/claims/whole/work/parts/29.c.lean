section
variable {p : Program} {l : Launch} {e : Env} {R : Room} {s : State} {m : MethodId} {args : Array Value} {below : List Frame} {meth : Method} {c : Code} {base : Nat} {D : va_G} {cA : Nat → ClassId}
noncomputable def f_X4_begin (σ : cr_S) (o0 : Nat) (a1 : Int32) (a2 : Int32) : Option (cr_S) :=
  chk (kC o0 = 4) (cr_let (sF σ o0 1 1) (fun s2 => chk (kC o0 = 4) (cr_let (sF s2 o0 2 a1) (fun s5 => chk (kC o0 = 4) (cr_let (sF s5 o0 3 a2) (fun s8 => chk (kC o0 = 4) (Option.bind (f_J7_fill_d0a16 s8 (o0 + 1) 0) (fun q11 => some q11))))))))
set_option maxRecDepth 100000 in
set_option maxHeartbeats 4000000 in
theorem w_X4_begin (C : cr_C p l e R s m args below meth c sfC 97 base D cA cX4_begin 3 RX4) (hr : meth.sig.returnType = none) (hR : 1 ≤ R.frames ∧ 24 ≤ R.locals) {res : cr_S} (σ : cr_S) (o0 : Nat) (a1 : Int32) (a2 : Int32) (h : f_X4_begin σ o0 a1 a2 = some res) : cr_W p l e R s m args below meth c sfC 97 base D cA 3 (MQ below (cr_Qv sfC 97 base D cA res) args s 0 0 (cr_A 97 base)) σ 0 [(0, .ref (base + o0)), (1, .int a1), (2, .int a2)] [] := by
  unfold f_X4_begin at h
  refine g_aload_n (pc' := 1) C dX4_begin_0 0 rfl rfl ?_
  refine g_iconst (pc' := 2) (v := 1) C dX4_begin_1 (by decide) rfl ?_
  obtain ⟨h1, h⟩ := chk_some h
  obtain ⟨s2, e3, h⟩ := let_some h
  refine gp_X4_15 (pc' := 5) (o := o0) C h1 rfl rfl dX4_begin_2 rfl e3 ?_
  refine g_aload_n (pc' := 6) C dX4_begin_5 0 rfl rfl ?_
  refine g_iload_n (pc' := 7) C dX4_begin_6 1 rfl rfl ?_
  obtain ⟨h4, h⟩ := chk_some h
  obtain ⟨s5, e6, h⟩ := let_some h
  refine gp_X4_19 (pc' := 10) (o := o0) C h4 dX4_begin_7 rfl e6 ?_
  refine g_aload_n (pc' := 11) C dX4_begin_10 0 rfl rfl ?_
  refine g_iload_n (pc' := 12) C dX4_begin_11 2 rfl rfl ?_
  obtain ⟨h7, h⟩ := chk_some h
  obtain ⟨s8, e9, h⟩ := let_some h
  refine gp_X4_23 (pc' := 15) (o := o0) C h7 dX4_begin_12 rfl e9 ?_
  refine g_aload_n (pc' := 16) C dX4_begin_15 0 rfl rfl ?_
  obtain ⟨h10, h⟩ := chk_some h
  refine gg_X4_9 (pc' := 19) (o := o0) (r := o0 + 1) C h10 rfl dX4_begin_16 rfl ?_
  refine g_lconst (pc' := 20) (v := 0) C dX4_begin_19 (by decide) rfl ?_
  obtain ⟨q11, h12, h⟩ := bind_some h
  refine g_callSv (pc' := 23) (res := q11) C [.ref (base + (o0 + 1)), .long 0] cY_J7_fill_d0a16 mv_J7_fill_d0a16 mm_X4_26 ⟨Nat.le_trans (by decide) hR.1, Nat.le_trans (by decide) hR.2⟩ rfl (Nat.le_of_ble_eq_true rfl) rfl dX4_begin_20 (c_J7_fill_d0a16 l base D cA s8 (o0 + 1) 0 q11 h12) rfl ?_
  exact g_vret C hr dX4_begin_23 h
theorem c_X4_begin (l : Launch) (base : Nat) (D : va_G) (cA : Nat → ClassId) (σ : cr_S) (o0 : Nat) (a1 : Int32) (a2 : Int32) (res : cr_S) (h : f_X4_begin σ o0 a1 a2 = some res) : cr_M l yX4_begin cX4_begin 3 none 1 24 sfC 97 base D cA [.ref (base + o0), .int a1, .int a2] σ (cr_Qv sfC 97 base D cA res) := by
  refine cr_enter [.ref (base + o0), .int a1, .int a2] [(0, .ref (base + o0)), (1, .int a1), (2, .int a2)] (by decide) (Nat.le_of_ble_eq_true rfl) rfl ?_
  intro p e R s m below meth c C hr hR
  exact w_X4_begin C hr hR σ o0 a1 a2 h
noncomputable def f_X10_sheet (σ : cr_S) (a1 : Int32) (a2 : Int32) (a3 : Int32) : Option (cr_S × Int32) :=
  Option.bind (f_X10_isRow σ a1 a2) (fun q1 => (if q1.2 = 0 then some (q1.1, (-1)) else (if a3 ≤ 16 then (if 0 ≤ a3 then chk (inb a1 4) (Option.bind (f_X4_begin q1.1 (89 + 2 * a1.toNatClampNeg) a2 a3) (fun q4 => chk (kC (89 + 2 * a1.toNatClampNeg) = 4) (some (q4, a3)))) else some (q1.1, (-14))) else some (q1.1, (-1)))))
set_option maxRecDepth 100000 in
set_option maxHeartbeats 4000000 in
theorem w_X10_sheet (C : cr_C p l e R s m args below meth c sfC 97 base D cA cX10_sheet 4 RX10) (hr : meth.sig.returnType = some .int) (hR : 2 ≤ R.frames ∧ 46 ≤ R.locals) {res : cr_S × Int32} (σ : cr_S) (a1 : Int32) (a2 : Int32) (a3 : Int32) (h : f_X10_sheet σ a1 a2 a3 = some res) : cr_W p l e R s m args below meth c sfC 97 base D cA 4 (MQ below (cr_Qi sfC 97 base D cA res) args s 0 0 (cr_A 97 base)) σ 0 [(0, .ref (base + 0)), (1, .int a1), (2, .int a2), (3, .int a3)] [] := by
  unfold f_X10_sheet at h
  refine g_aload_n (pc' := 1) C dX10_sheet_0 0 rfl rfl ?_
  refine g_iload_n (pc' := 2) C dX10_sheet_1 1 rfl rfl ?_
  refine g_iload_n (pc' := 3) C dX10_sheet_2 2 rfl rfl ?_
  obtain ⟨q1, h2, h⟩ := bind_some h
  refine g_callVi (pc' := 6) (res := q1) C [.int a1, .int a2] cY_X10_isRow rfl (o := 0) (by decide) rfl mv_X10_isRow mm_X10_289 ⟨Nat.le_trans (by decide) hR.1, Nat.le_trans (by decide) hR.2⟩ rfl (Nat.le_of_ble_eq_true rfl) rfl dX10_sheet_3 (c_X10_isRow l base D cA σ a1 a2 q1 h2) rfl ?_
  refine g_if_eq (pc' := 9) (tgt := 15) C dX10_sheet_6 (by decide) rfl (fun hc => ?_) (fun hc => ?_)
  · rw [if_pos hc] at h
    refine g_iconst (pc' := 16) (v := (-1)) C dX10_sheet_15 (by decide) rfl ?_
    exact g_iret C hr dX10_sheet_16 h
  · rw [if_neg hc] at h
    refine g_iload_n (pc' := 10) C dX10_sheet_9 3 rfl rfl ?_
    refine g_bipush (pc' := 12) (v := 16) C dX10_sheet_10 (by decide) rfl ?_
    refine g_icmp_le (pc' := 15) (tgt := 17) C dX10_sheet_12 (by decide) rfl (fun hc => ?_) (fun hc => ?_)
    · rw [if_pos hc] at h
      refine g_iload_n (pc' := 18) C dX10_sheet_17 3 rfl rfl ?_
      refine g_if_ge (pc' := 21) (tgt := 24) C dX10_sheet_18 (by decide) rfl (fun hc => ?_) (fun hc => ?_)
      · rw [if_pos hc] at h
        refine g_aload_n (pc' := 25) C dX10_sheet_24 0 rfl rfl ?_
        refine gg_X10_49 (pc' := 28) (o := 0) (r := 88) C rfl rfl dX10_sheet_25 rfl ?_
        refine g_iload_n (pc' := 29) C dX10_sheet_28 1 rfl rfl ?_
        obtain ⟨h3, h⟩ := chk_some h
        refine g_aald (pc' := 30) C (o := 88) (by decide) rfl (cn := "ClashRocks$Row") rfl (inb_d h3) dX10_sheet_29 rfl ?_
        refine g_iload_n (pc' := 31) C dX10_sheet_30 2 rfl rfl ?_
        refine g_iload_n (pc' := 32) C dX10_sheet_31 3 rfl rfl ?_
        obtain ⟨q4, h5, h⟩ := bind_some h
        obtain ⟨h6, h⟩ := chk_some h
        refine g_callVv (pc' := 35) (res := q4) C [.int a2, .int a3] cY_X4_begin rfl (o := 89 + 2 * a1.toNatClampNeg) (kC_lt h6 (by decide)) (sfC_4 h6) mv_X4_begin mm_X10_303 ⟨Nat.le_trans (by decide) hR.1, Nat.le_trans (by decide) hR.2⟩ rfl (Nat.le_of_ble_eq_true rfl) rfl dX10_sheet_32 (c_X4_begin l base D cA q1.1 (89 + 2 * a1.toNatClampNeg) a2 a3 q4 h5) rfl ?_
        refine g_iload_n (pc' := 36) C dX10_sheet_35 3 rfl rfl ?_
        exact g_iret C hr dX10_sheet_36 h
      · rw [if_neg hc] at h
        refine g_bipush (pc' := 23) (v := (-14)) C dX10_sheet_21 (by decide) rfl ?_
        exact g_iret C hr dX10_sheet_23 h
    · rw [if_neg hc] at h
      refine g_iconst (pc' := 16) (v := (-1)) C dX10_sheet_15 (by decide) rfl ?_
      exact g_iret C hr dX10_sheet_16 h
theorem c_X10_sheet (l : Launch) (base : Nat) (D : va_G) (cA : Nat → ClassId) (σ : cr_S) (a1 : Int32) (a2 : Int32) (a3 : Int32) (res : cr_S × Int32) (h : f_X10_sheet σ a1 a2 a3 = some res) : cr_M l yX10_sheet cX10_sheet 4 (some .int) 2 46 sfC 97 base D cA [.ref (base + 0), .int a1, .int a2, .int a3] σ (cr_Qi sfC 97 base D cA res) := by
  refine cr_enter [.ref (base + 0), .int a1, .int a2, .int a3] [(0, .ref (base + 0)), (1, .int a1), (2, .int a2), (3, .int a3)] (by decide) (Nat.le_of_ble_eq_true rfl) rfl ?_
  intro p e R s m below meth c C hr hR
  exact w_X10_sheet C hr hR σ a1 a2 a3 h
noncomputable def f_X10_drop (σ : cr_S) (a1 : Int32) : Option (cr_S × Int32) :=
  Option.bind (f_X10_isWithin σ a1 0 3) (fun q1 => (if q1.2 = 0 then some (q1.1, (-1)) else chk (inb a1 4) (chk (kC (89 + 2 * a1.toNatClampNeg) = 4) ((if (rF q1.1 (89 + 2 * a1.toNatClampNeg) 1) = 0 then some (q1.1, (-11)) else chk (inb a1 4) (chk (kC (89 + 2 * a1.toNatClampNeg) = 4) (cr_let (sF q1.1 (89 + 2 * a1.toNatClampNeg) 1 0) (fun s7 => chk (inb a1 4) (chk (kC (89 + 2 * a1.toNatClampNeg) = 4) (some (s7, rF s7 (89 + 2 * a1.toNatClampNeg) 3)))))))))))
set_option maxRecDepth 100000 in
set_option maxHeartbeats 4000000 in
theorem w_X10_drop (C : cr_C p l e R s m args below meth c sfC 97 base D cA cX10_drop 2 RX10) (hr : meth.sig.returnType = some .int) (hR : 1 ≤ R.frames ∧ 22 ≤ R.locals) {res : cr_S × Int32} (σ : cr_S) (a1 : Int32) (h : f_X10_drop σ a1 = some res) : cr_W p l e R s m args below meth c sfC 97 base D cA 2 (MQ below (cr_Qi sfC 97 base D cA res) args s 0 0 (cr_A 97 base)) σ 0 [(0, .ref (base + 0)), (1, .int a1)] [] := by
  unfold f_X10_drop at h
  refine g_iload_n (pc' := 1) C dX10_drop_0 1 rfl rfl ?_
  refine g_iconst (pc' := 2) (v := 0) C dX10_drop_1 (by decide) rfl ?_
  refine g_iconst (pc' := 3) (v := 3) C dX10_drop_2 (by decide) rfl ?_
  obtain ⟨q1, h2, h⟩ := bind_some h
  refine g_callSi (pc' := 6) (res := q1) C [.int a1, .int 0, .int 3] cY_X10_isWithin mv_X10_isWithin mm_X10_54 ⟨Nat.le_trans (by decide) hR.1, Nat.le_trans (by decide) hR.2⟩ rfl (Nat.le_of_ble_eq_true rfl) rfl dX10_drop_3 (c_X10_isWithin l base D cA σ a1 0 3 q1 h2) rfl ?_
  refine g_if_ne (pc' := 9) (tgt := 11) C dX10_drop_6 (by decide) rfl (fun hc => ?_) (fun hc => ?_)
  · rw [if_neg hc] at h
    refine g_aload_n (pc' := 12) C dX10_drop_11 0 rfl rfl ?_
    refine gg_X10_49 (pc' := 15) (o := 0) (r := 88) C rfl rfl dX10_drop_12 rfl ?_
    refine g_iload_n (pc' := 16) C dX10_drop_15 1 rfl rfl ?_
    obtain ⟨h3, h⟩ := chk_some h
    refine g_aald (pc' := 17) C (o := 88) (by decide) rfl (cn := "ClashRocks$Row") rfl (inb_d h3) dX10_drop_16 rfl ?_
    obtain ⟨h4, h⟩ := chk_some h
    refine gg_X10_305 (pc' := 20) (o := 89 + 2 * a1.toNatClampNeg) C h4 dX10_drop_17 rfl ?_
    refine g_if_ne (pc' := 23) (tgt := 26) C dX10_drop_20 (by decide) rfl (fun hc => ?_) (fun hc => ?_)
    · rw [if_neg hc] at h
      refine g_aload_n (pc' := 27) C dX10_drop_26 0 rfl rfl ?_
      refine gg_X10_49 (pc' := 30) (o := 0) (r := 88) C rfl rfl dX10_drop_27 rfl ?_
      refine g_iload_n (pc' := 31) C dX10_drop_30 1 rfl rfl ?_
      obtain ⟨h5, h⟩ := chk_some h
      refine g_aald (pc' := 32) C (o := 88) (by decide) rfl (cn := "ClashRocks$Row") rfl (inb_d h5) dX10_drop_31 rfl ?_
      refine g_iconst (pc' := 33) (v := 0) C dX10_drop_32 (by decide) rfl ?_
      obtain ⟨h6, h⟩ := chk_some h
      obtain ⟨s7, e8, h⟩ := let_some h
      refine gp_X10_305 (pc' := 36) (o := 89 + 2 * a1.toNatClampNeg) C h6 rfl rfl dX10_drop_33 rfl e8 ?_
      refine g_aload_n (pc' := 37) C dX10_drop_36 0 rfl rfl ?_
      refine gg_X10_49 (pc' := 40) (o := 0) (r := 88) C rfl rfl dX10_drop_37 rfl ?_
      refine g_iload_n (pc' := 41) C dX10_drop_40 1 rfl rfl ?_
      obtain ⟨h9, h⟩ := chk_some h
      refine g_aald (pc' := 42) C (o := 88) (by decide) rfl (cn := "ClashRocks$Row") rfl (inb_d h9) dX10_drop_41 rfl ?_
      obtain ⟨h10, h⟩ := chk_some h
      refine gg_X10_308 (pc' := 45) (o := 89 + 2 * a1.toNatClampNeg) C h10 dX10_drop_42 rfl ?_
      exact g_iret C hr dX10_drop_45 h
    · rw [if_pos hc] at h
      refine g_bipush (pc' := 25) (v := (-11)) C dX10_drop_23 (by decide) rfl ?_
      exact g_iret C hr dX10_drop_25 h
  · rw [if_pos hc] at h
    refine g_iconst (pc' := 10) (v := (-1)) C dX10_drop_9 (by decide) rfl ?_
    exact g_iret C hr dX10_drop_10 h
theorem c_X10_drop (l : Launch) (base : Nat) (D : va_G) (cA : Nat → ClassId) (σ : cr_S) (a1 : Int32) (res : cr_S × Int32) (h : f_X10_drop σ a1 = some res) : cr_M l yX10_drop cX10_drop 2 (some .int) 1 22 sfC 97 base D cA [.ref (base + 0), .int a1] σ (cr_Qi sfC 97 base D cA res) := by
  refine cr_enter [.ref (base + 0), .int a1] [(0, .ref (base + 0)), (1, .int a1)] (by decide) (Nat.le_of_ble_eq_true rfl) rfl ?_
  intro p e R s m below meth c C hr hR
  exact w_X10_drop C hr hR σ a1 h
noncomputable def f_X10_lowestBits (σ : cr_S) (a0 : Int32) (a1 : Int64) : Option (cr_S × Int64) :=
  (if a0 = 0 then some (σ, Int32.toInt64 ((Int32.toInt8 (Int64.toInt32 a1)).toInt32)) else (if a0 = 1 then some (σ, Int32.toInt64 ((Int32.toInt16 (Int64.toInt32 a1)).toInt32)) else (if a0 = 2 then some (σ, Int32.toInt64 (Int64.toInt32 a1)) else some (σ, a1))))
set_option maxRecDepth 100000 in
set_option maxHeartbeats 4000000 in
theorem w_X10_lowestBits (C : cr_C p l e R s m args below meth c sfC 97 base D cA cX10_lowestBits 3 RX10) (hr : meth.sig.returnType = some .long) (hR : 0 ≤ R.frames ∧ 0 ≤ R.locals) {res : cr_S × Int64} (σ : cr_S) (a0 : Int32) (a1 : Int64) (h : f_X10_lowestBits σ a0 a1 = some res) : cr_W p l e R s m args below meth c sfC 97 base D cA 3 (MQ below (cr_Ql sfC 97 base D cA res) args s 0 0 (cr_A 97 base)) σ 0 [(0, .int a0), (1, .long a1)] [] := by
  unfold f_X10_lowestBits at h
  refine g_iload_n (pc' := 1) C dX10_lowestBits_0 0 rfl rfl ?_
  by_cases hc0 : a0 = 0
  · rw [if_pos hc0] at h
    refine g_tableIn (off := 27) (tgt := 28) C dX10_lowestBits_1 (by rw [hc0]; decide) (by rw [hc0]; decide) (by rw [hc0]; decide) (by decide) ?_
    refine g_lload_n (pc' := 29) C dX10_lowestBits_28 1 rfl rfl ?_
    refine g_l2i (pc' := 30) C dX10_lowestBits_29 rfl ?_
    refine g_i2b (pc' := 31) C dX10_lowestBits_30 rfl ?_
    refine g_i2l (pc' := 32) C dX10_lowestBits_31 rfl ?_
    exact g_lret C hr dX10_lowestBits_32 h
  rw [if_neg hc0] at h
  by_cases hc1 : a0 = 1
  · rw [if_pos hc1] at h
    refine g_tableIn (off := 32) (tgt := 33) C dX10_lowestBits_1 (by rw [hc1]; decide) (by rw [hc1]; decide) (by rw [hc1]; decide) (by decide) ?_
    refine g_lload_n (pc' := 34) C dX10_lowestBits_33 1 rfl rfl ?_
    refine g_l2i (pc' := 35) C dX10_lowestBits_34 rfl ?_
    refine g_i2s (pc' := 36) C dX10_lowestBits_35 rfl ?_
    refine g_i2l (pc' := 37) C dX10_lowestBits_36 rfl ?_
    exact g_lret C hr dX10_lowestBits_37 h
  rw [if_neg hc1] at h
  by_cases hc2 : a0 = 2
  · rw [if_pos hc2] at h
    refine g_tableIn (off := 37) (tgt := 38) C dX10_lowestBits_1 (by rw [hc2]; decide) (by rw [hc2]; decide) (by rw [hc2]; decide) (by decide) ?_
    refine g_lload_n (pc' := 39) C dX10_lowestBits_38 1 rfl rfl ?_
    refine g_l2i (pc' := 40) C dX10_lowestBits_39 rfl ?_
    refine g_i2l (pc' := 41) C dX10_lowestBits_40 rfl ?_
    exact g_lret C hr dX10_lowestBits_41 h
  rw [if_neg hc2] at h
  refine g_tableOut (tgt := 42) C dX10_lowestBits_1 (by have q0 : a0.toInt ≠ 0 := ne_toInt hc0; have q1 : a0.toInt ≠ 1 := ne_toInt hc1; have q2 : a0.toInt ≠ 2 := ne_toInt hc2; omega) (by decide) ?_
  refine g_lload_n (pc' := 43) C dX10_lowestBits_42 1 rfl rfl ?_
  exact g_lret C hr dX10_lowestBits_43 h
theorem c_X10_lowestBits (l : Launch) (base : Nat) (D : va_G) (cA : Nat → ClassId) (σ : cr_S) (a0 : Int32) (a1 : Int64) (res : cr_S × Int64) (h : f_X10_lowestBits σ a0 a1 = some res) : cr_M l yX10_lowestBits cX10_lowestBits 3 (some .long) 0 0 sfC 97 base D cA [.int a0, .long a1] σ (cr_Ql sfC 97 base D cA res) := by
  refine cr_enter [.int a0, .long a1] [(0, .int a0), (1, .long a1)] (by decide) (Nat.le_of_ble_eq_true rfl) rfl ?_
  intro p e R s m below meth c C hr hR
  exact w_X10_lowestBits C hr hR σ a0 a1 h
noncomputable def f_X10_item (σ : cr_S) (a1 : Int32) (a2 : Int32) (a3 : Int32) (a4 : Int64) : Option (cr_S × Int32) :=
  Option.bind (f_X10_isRow σ a1 a2) (fun q1 => (if q1.2 = 0 then some (q1.1, (-1)) else chk (inb a1 4) (Option.bind (f_X4_refusal q1.1 (89 + 2 * a1.toNatClampNeg) a2 a3 1) (fun q4 => chk (kC (89 + 2 * a1.toNatClampNeg) = 4) (cr_let q4.2 (fun v7 => (if v7 = 0 then chk (inb a1 4) (chk (kC (89 + 2 * a1.toNatClampNeg) = 4) (Option.bind (f_X10_lowestBits q4.1 a2 a4) (fun q11 => chk (kC (89 + 2 * a1.toNatClampNeg + 1) = 3016) (chk (inb a3 16) (cr_let (sL q11.1 (89 + 2 * a1.toNatClampNeg + 1) a3 q11.2) (fun s15 => some (s15, 1))))))) else some (q4.1, v7))))))))
set_option maxRecDepth 100000 in
set_option maxHeartbeats 4000000 in
theorem w_X10_item (C : cr_C p l e R s m args below meth c sfC 97 base D cA cX10_item 7 RX10) (hr : meth.sig.returnType = some .int) (hR : 2 ≤ R.frames ∧ 45 ≤ R.locals) {res : cr_S × Int32} (σ : cr_S) (a1 : Int32) (a2 : Int32) (a3 : Int32) (a4 : Int64) (h : f_X10_item σ a1 a2 a3 a4 = some res) : cr_W p l e R s m args below meth c sfC 97 base D cA 7 (MQ below (cr_Qi sfC 97 base D cA res) args s 0 0 (cr_A 97 base)) σ 0 [(0, .ref (base + 0)), (1, .int a1), (2, .int a2), (3, .int a3), (4, .long a4)] [] := by
  unfold f_X10_item at h
  refine g_aload_n (pc' := 1) C dX10_item_0 0 rfl rfl ?_
  refine g_iload_n (pc' := 2) C dX10_item_1 1 rfl rfl ?_
  refine g_iload_n (pc' := 3) C dX10_item_2 2 rfl rfl ?_
  obtain ⟨q1, h2, h⟩ := bind_some h
  refine g_callVi (pc' := 6) (res := q1) C [.int a1, .int a2] cY_X10_isRow rfl (o := 0) (by decide) rfl mv_X10_isRow mm_X10_289 ⟨Nat.le_trans (by decide) hR.1, Nat.le_trans (by decide) hR.2⟩ rfl (Nat.le_of_ble_eq_true rfl) rfl dX10_item_3 (c_X10_isRow l base D cA σ a1 a2 q1 h2) rfl ?_
  refine g_if_ne (pc' := 9) (tgt := 11) C dX10_item_6 (by decide) rfl (fun hc => ?_) (fun hc => ?_)
  · rw [if_neg hc] at h
    refine g_aload_n (pc' := 12) C dX10_item_11 0 rfl rfl ?_
    refine gg_X10_49 (pc' := 15) (o := 0) (r := 88) C rfl rfl dX10_item_12 rfl ?_
    refine g_iload_n (pc' := 16) C dX10_item_15 1 rfl rfl ?_
    obtain ⟨h3, h⟩ := chk_some h
    refine g_aald (pc' := 17) C (o := 88) (by decide) rfl (cn := "ClashRocks$Row") rfl (inb_d h3) dX10_item_16 rfl ?_
    refine g_iload_n (pc' := 18) C dX10_item_17 2 rfl rfl ?_
    refine g_iload_n (pc' := 19) C dX10_item_18 3 rfl rfl ?_
    refine g_iconst (pc' := 20) (v := 1) C dX10_item_19 (by decide) rfl ?_
    obtain ⟨q4, h5, h⟩ := bind_some h
    obtain ⟨h6, h⟩ := chk_some h
    refine g_callVi (pc' := 23) (res := q4) C [.int a2, .int a3, .int 1] cY_X4_refusal rfl (o := 89 + 2 * a1.toNatClampNeg) (kC_lt h6 (by decide)) (sfC_4 h6) mv_X4_refusal mm_X10_292 ⟨Nat.le_trans (by decide) hR.1, Nat.le_trans (by decide) hR.2⟩ rfl (Nat.le_of_ble_eq_true rfl) rfl dX10_item_20 (c_X4_refusal l base D cA q1.1 (89 + 2 * a1.toNatClampNeg) a2 a3 1 q4 h5) rfl ?_
    obtain ⟨v7, e8, h⟩ := let_some h
    refine g_nameI e8 ?_
    refine g_istore (pc' := 25) (lv' := [(6, .int v7), (0, .ref (base + 0)), (1, .int a1), (2, .int a2), (3, .int a3), (4, .long a4)]) C dX10_item_23 (by decide) rfl rfl ?_
    refine g_iload (pc' := 27) C dX10_item_25 0 rfl rfl ?_
    refine g_if_eq (pc' := 30) (tgt := 33) C dX10_item_27 (by decide) rfl (fun hc => ?_) (fun hc => ?_)
    · rw [if_pos hc] at h
      refine g_aload_n (pc' := 34) C dX10_item_33 1 rfl rfl ?_
      refine gg_X10_49 (pc' := 37) (o := 0) (r := 88) C rfl rfl dX10_item_34 rfl ?_
      refine g_iload_n (pc' := 38) C dX10_item_37 2 rfl rfl ?_
      obtain ⟨h9, h⟩ := chk_some h
      refine g_aald (pc' := 39) C (o := 88) (by decide) rfl (cn := "ClashRocks$Row") rfl (inb_d h9) dX10_item_38 rfl ?_
      obtain ⟨h10, h⟩ := chk_some h
      refine gg_X10_295 (pc' := 42) (o := 89 + 2 * a1.toNatClampNeg) (r := 89 + 2 * a1.toNatClampNeg + 1) C h10 rfl dX10_item_39 rfl ?_
      refine g_iload_n (pc' := 43) C dX10_item_42 4 rfl rfl ?_
      refine g_iload_n (pc' := 44) C dX10_item_43 3 rfl rfl ?_
      refine g_lload (pc' := 46) C dX10_item_44 5 rfl rfl ?_
      obtain ⟨q11, h12, h⟩ := bind_some h
      refine g_callSl (pc' := 49) (res := q11) C [.int a2, .long a4] cY_X10_lowestBits mv_X10_lowestBits mm_X10_309 ⟨Nat.le_trans (by decide) hR.1, Nat.le_trans (by decide) hR.2⟩ rfl (Nat.le_of_ble_eq_true rfl) rfl dX10_item_46 (c_X10_lowestBits l base D cA q4.1 a2 a4 q11 h12) rfl ?_
      obtain ⟨h13, h⟩ := chk_some h
      obtain ⟨h14, h⟩ := chk_some h
      obtain ⟨s15, e16, h⟩ := let_some h
      refine g_last (pc' := 50) C (o := 89 + 2 * a1.toNatClampNeg + 1) (kC_lt h13 (by decide)) (sfC_3016 h13) (inb_d h14) dX10_item_49 rfl e16 ?_
      refine g_iconst (pc' := 51) (v := 1) C dX10_item_50 (by decide) rfl ?_
      exact g_iret C hr dX10_item_51 h
    · rw [if_neg hc] at h
      refine g_iload (pc' := 32) C dX10_item_30 0 rfl rfl ?_
      exact g_iret C hr dX10_item_32 h
  · rw [if_pos hc] at h
    refine g_iconst (pc' := 10) (v := (-1)) C dX10_item_9 (by decide) rfl ?_
    exact g_iret C hr dX10_item_10 h
theorem c_X10_item (l : Launch) (base : Nat) (D : va_G) (cA : Nat → ClassId) (σ : cr_S) (a1 : Int32) (a2 : Int32) (a3 : Int32) (a4 : Int64) (res : cr_S × Int32) (h : f_X10_item σ a1 a2 a3 a4 = some res) : cr_M l yX10_item cX10_item 7 (some .int) 2 45 sfC 97 base D cA [.ref (base + 0), .int a1, .int a2, .int a3, .long a4] σ (cr_Qi sfC 97 base D cA res) := by
  refine cr_enter [.ref (base + 0), .int a1, .int a2, .int a3, .long a4] [(0, .ref (base + 0)), (1, .int a1), (2, .int a2), (3, .int a3), (4, .long a4)] (by decide) (Nat.le_of_ble_eq_true rfl) rfl ?_
  intro p e R s m below meth c C hr hR
  exact w_X10_item C hr hR σ a1 a2 a3 a4 h
noncomputable def f_X10_copy (σ : cr_S) (a1 : Int32) (a2 : Int32) (a3 : Int32) (a4 : Int32) (a5 : Int32) : Option (cr_S × Int32) :=
  Option.bind (f_X10_isWithin σ a1 0 3) (fun q1 => (if q1.2 = 0 then some (q1.1, (-1)) else Option.bind (f_X10_isWithin q1.1 a3 0 3) (fun q3 => (if q3.2 = 0 then some (q3.1, (-1)) else chk (inb a1 4) (chk (inb a3 4) (chk (kC (89 + 2 * a1.toNatClampNeg) = 4) ((if (rF q3.1 (89 + 2 * a1.toNatClampNeg) 1) = 0 then some (q3.1, (-11)) else chk (kC (89 + 2 * a3.toNatClampNeg) = 4) ((if (rF q3.1 (89 + 2 * a3.toNatClampNeg) 1) = 0 then some (q3.1, (-11)) else chk (kC (89 + 2 * a1.toNatClampNeg) = 4) (chk (kC (89 + 2 * a3.toNatClampNeg) = 4) ((if (rF q3.1 (89 + 2 * a1.toNatClampNeg) 2) = (rF q3.1 (89 + 2 * a3.toNatClampNeg) 2) then Option.bind (f_X4_hasItems q3.1 (89 + 2 * a1.toNatClampNeg) a2 a5) (fun q11 => chk (kC (89 + 2 * a1.toNatClampNeg) = 4) ((if q11.2 = 0 then some (q11.1, (-13)) else Option.bind (f_X4_hasItems q11.1 (89 + 2 * a3.toNatClampNeg) a4 a5) (fun q14 => chk (kC (89 + 2 * a3.toNatClampNeg) = 4) ((if q14.2 = 0 then some (q14.1, (-13)) else chk (kC (89 + 2 * a1.toNatClampNeg) = 4) (chk (kC (89 + 2 * a3.toNatClampNeg) = 4) (chk (kC (89 + 2 * a1.toNatClampNeg + 1) = 3016) (chk (kC (89 + 2 * a3.toNatClampNeg + 1) = 3016) (chk (cpOk a2 a4 a5 16 16) (cr_let (sC q14.1 (89 + 2 * a1.toNatClampNeg + 1) (89 + 2 * a3.toNatClampNeg + 1) a2 a4 a5) (fun s22 => some (s22, a5))))))))))))) else some (q3.1, (-12)))))))))))))))
set_option maxRecDepth 100000 in
set_option maxHeartbeats 4000000 in
theorem w_X10_copy (C : cr_C p l e R s m args below meth c sfC 97 base D cA cX10_copy 8 RX10) (hr : meth.sig.returnType = some .int) (hR : 1 ≤ R.frames ∧ 60 ≤ R.locals) {res : cr_S × Int32} (σ : cr_S) (a1 : Int32) (a2 : Int32) (a3 : Int32) (a4 : Int32) (a5 : Int32) (h : f_X10_copy σ a1 a2 a3 a4 a5 = some res) : cr_W p l e R s m args below meth c sfC 97 base D cA 8 (MQ below (cr_Qi sfC 97 base D cA res) args s 0 0 (cr_A 97 base)) σ 0 [(0, .ref (base + 0)), (1, .int a1), (2, .int a2), (3, .int a3), (4, .int a4), (5, .int a5)] [] := by
  unfold f_X10_copy at h
  refine g_iload_n (pc' := 1) C dX10_copy_0 1 rfl rfl ?_
  refine g_iconst (pc' := 2) (v := 0) C dX10_copy_1 (by decide) rfl ?_
  refine g_iconst (pc' := 3) (v := 3) C dX10_copy_2 (by decide) rfl ?_
  obtain ⟨q1, h2, h⟩ := bind_some h
  refine g_callSi (pc' := 6) (res := q1) C [.int a1, .int 0, .int 3] cY_X10_isWithin mv_X10_isWithin mm_X10_54 ⟨Nat.le_trans (by decide) hR.1, Nat.le_trans (by decide) hR.2⟩ rfl (Nat.le_of_ble_eq_true rfl) rfl dX10_copy_3 (c_X10_isWithin l base D cA σ a1 0 3 q1 h2) rfl ?_
  refine g_if_eq (pc' := 9) (tgt := 18) C dX10_copy_6 (by decide) rfl (fun hc => ?_) (fun hc => ?_)
  · rw [if_pos hc] at h
    refine g_iconst (pc' := 19) (v := (-1)) C dX10_copy_18 (by decide) rfl ?_
    exact g_iret C hr dX10_copy_19 h
  · rw [if_neg hc] at h
    refine g_iload_n (pc' := 10) C dX10_copy_9 3 rfl rfl ?_
    refine g_iconst (pc' := 11) (v := 0) C dX10_copy_10 (by decide) rfl ?_
    refine g_iconst (pc' := 12) (v := 3) C dX10_copy_11 (by decide) rfl ?_
    obtain ⟨q3, h4, h⟩ := bind_some h
    refine g_callSi (pc' := 15) (res := q3) C [.int a3, .int 0, .int 3] cY_X10_isWithin mv_X10_isWithin mm_X10_54 ⟨Nat.le_trans (by decide) hR.1, Nat.le_trans (by decide) hR.2⟩ rfl (Nat.le_of_ble_eq_true rfl) rfl dX10_copy_12 (c_X10_isWithin l base D cA q1.1 a3 0 3 q3 h4) rfl ?_
    refine g_if_ne (pc' := 18) (tgt := 20) C dX10_copy_15 (by decide) rfl (fun hc => ?_) (fun hc => ?_)
    · rw [if_neg hc] at h
      refine g_aload_n (pc' := 21) C dX10_copy_20 0 rfl rfl ?_
      refine gg_X10_49 (pc' := 24) (o := 0) (r := 88) C rfl rfl dX10_copy_21 rfl ?_
      refine g_iload_n (pc' := 25) C dX10_copy_24 1 rfl rfl ?_
      obtain ⟨h5, h⟩ := chk_some h
      refine g_aald (pc' := 26) C (o := 88) (by decide) rfl (cn := "ClashRocks$Row") rfl (inb_d h5) dX10_copy_25 rfl ?_
      refine g_astore (pc' := 28) (lv' := [(6, .ref (base + (89 + 2 * a1.toNatClampNeg))), (0, .ref (base + 0)), (1, .int a1), (2, .int a2), (3, .int a3), (4, .int a4), (5, .int a5)]) C dX10_copy_26 (by decide) rfl rfl ?_
      refine g_aload_n (pc' := 29) C dX10_copy_28 1 rfl rfl ?_
      refine gg_X10_49 (pc' := 32) (o := 0) (r := 88) C rfl rfl dX10_copy_29 rfl ?_
      refine g_iload_n (pc' := 33) C dX10_copy_32 4 rfl rfl ?_
      obtain ⟨h6, h⟩ := chk_some h
      refine g_aald (pc' := 34) C (o := 88) (by decide) rfl (cn := "ClashRocks$Row") rfl (inb_d h6) dX10_copy_33 rfl ?_
      refine g_astore (pc' := 36) (lv' := [(7, .ref (base + (89 + 2 * a3.toNatClampNeg))), (6, .ref (base + (89 + 2 * a1.toNatClampNeg))), (0, .ref (base + 0)), (1, .int a1), (2, .int a2), (3, .int a3), (4, .int a4), (5, .int a5)]) C dX10_copy_34 (by decide) rfl rfl ?_
      refine g_aload (pc' := 38) C dX10_copy_36 1 rfl rfl ?_
      obtain ⟨h7, h⟩ := chk_some h
      refine gg_X10_305 (pc' := 41) (o := 89 + 2 * a1.toNatClampNeg) C h7 dX10_copy_38 rfl ?_
      refine g_if_eq (pc' := 44) (tgt := 52) C dX10_copy_41 (by decide) rfl (fun hc => ?_) (fun hc => ?_)
      · rw [if_pos hc] at h
        refine g_bipush (pc' := 54) (v := (-11)) C dX10_copy_52 (by decide) rfl ?_
        exact g_iret C hr dX10_copy_54 h
      · rw [if_neg hc] at h
        refine g_aload (pc' := 46) C dX10_copy_44 0 rfl rfl ?_
        obtain ⟨h8, h⟩ := chk_some h
        refine gg_X10_305 (pc' := 49) (o := 89 + 2 * a3.toNatClampNeg) C h8 dX10_copy_46 rfl ?_
        refine g_if_ne (pc' := 52) (tgt := 55) C dX10_copy_49 (by decide) rfl (fun hc => ?_) (fun hc => ?_)
        · rw [if_neg hc] at h
          refine g_aload (pc' := 57) C dX10_copy_55 1 rfl rfl ?_
          obtain ⟨h9, h⟩ := chk_some h
          refine gg_X10_313 (pc' := 60) (o := 89 + 2 * a1.toNatClampNeg) C h9 dX10_copy_57 rfl ?_
          refine g_aload (pc' := 62) C dX10_copy_60 0 rfl rfl ?_
          obtain ⟨h10, h⟩ := chk_some h
          refine gg_X10_313 (pc' := 65) (o := 89 + 2 * a3.toNatClampNeg) C h10 dX10_copy_62 rfl ?_
          refine g_icmp_eq (pc' := 68) (tgt := 71) C dX10_copy_65 (by decide) rfl (fun hc => ?_) (fun hc => ?_)
          · rw [if_pos hc] at h
            refine g_aload (pc' := 73) C dX10_copy_71 1 rfl rfl ?_
            refine g_iload_n (pc' := 74) C dX10_copy_73 4 rfl rfl ?_
            refine g_iload (pc' := 76) C dX10_copy_74 7 rfl rfl ?_
            obtain ⟨q11, h12, h⟩ := bind_some h
            obtain ⟨h13, h⟩ := chk_some h
            refine g_callVi (pc' := 79) (res := q11) C [.int a2, .int a5] cY_X4_hasItems rfl (o := 89 + 2 * a1.toNatClampNeg) (kC_lt h13 (by decide)) (sfC_4 h13) mv_X4_hasItems mm_X10_316 ⟨Nat.le_trans (by decide) hR.1, Nat.le_trans (by decide) hR.2⟩ rfl (Nat.le_of_ble_eq_true rfl) rfl dX10_copy_76 (c_X4_hasItems l base D cA q3.1 (89 + 2 * a1.toNatClampNeg) a2 a5 q11 h12) rfl ?_
            refine g_if_eq (pc' := 82) (tgt := 94) C dX10_copy_79 (by decide) rfl (fun hc => ?_) (fun hc => ?_)
            · rw [if_pos hc] at h
              refine g_bipush (pc' := 96) (v := (-13)) C dX10_copy_94 (by decide) rfl ?_
              exact g_iret C hr dX10_copy_96 h
            · rw [if_neg hc] at h
              refine g_aload (pc' := 84) C dX10_copy_82 0 rfl rfl ?_
              refine g_iload (pc' := 86) C dX10_copy_84 6 rfl rfl ?_
              refine g_iload (pc' := 88) C dX10_copy_86 7 rfl rfl ?_
              obtain ⟨q14, h15, h⟩ := bind_some h
              obtain ⟨h16, h⟩ := chk_some h
              refine g_callVi (pc' := 91) (res := q14) C [.int a4, .int a5] cY_X4_hasItems rfl (o := 89 + 2 * a3.toNatClampNeg) (kC_lt h16 (by decide)) (sfC_4 h16) mv_X4_hasItems mm_X10_316 ⟨Nat.le_trans (by decide) hR.1, Nat.le_trans (by decide) hR.2⟩ rfl (Nat.le_of_ble_eq_true rfl) rfl dX10_copy_88 (c_X4_hasItems l base D cA q11.1 (89 + 2 * a3.toNatClampNeg) a4 a5 q14 h15) rfl ?_
              refine g_if_ne (pc' := 94) (tgt := 97) C dX10_copy_91 (by decide) rfl (fun hc => ?_) (fun hc => ?_)
              · rw [if_neg hc] at h
                refine g_aload (pc' := 99) C dX10_copy_97 1 rfl rfl ?_
                obtain ⟨h17, h⟩ := chk_some h
                refine gg_X10_295 (pc' := 102) (o := 89 + 2 * a1.toNatClampNeg) (r := 89 + 2 * a1.toNatClampNeg + 1) C h17 rfl dX10_copy_99 rfl ?_
                refine g_iload_n (pc' := 103) C dX10_copy_102 4 rfl rfl ?_
                refine g_aload (pc' := 105) C dX10_copy_103 0 rfl rfl ?_
                obtain ⟨h18, h⟩ := chk_some h
                refine gg_X10_295 (pc' := 108) (o := 89 + 2 * a3.toNatClampNeg) (r := 89 + 2 * a3.toNatClampNeg + 1) C h18 rfl dX10_copy_105 rfl ?_
                refine g_iload (pc' := 110) C dX10_copy_108 6 rfl rfl ?_
                refine g_iload (pc' := 112) C dX10_copy_110 7 rfl rfl ?_
                obtain ⟨h19, h⟩ := chk_some h
                obtain ⟨h20, h⟩ := chk_some h
                obtain ⟨h21, h⟩ := chk_some h
                obtain ⟨s22, e23, h⟩ := let_some h
                refine g_copyl (pc' := 115) (a := 89 + 2 * a1.toNatClampNeg + 1) (b := 89 + 2 * a3.toNatClampNeg + 1) C mm_X10_319 (kC_lt h19 (by decide)) (sfC_3016 h19) (kC_lt h20 (by decide)) (sfC_3016 h20) h21 ⟨Nat.le_trans (by decide) hR.1, Nat.le_trans (by decide) hR.2⟩ dX10_copy_112 rfl e23 ?_
                refine g_iload (pc' := 117) C dX10_copy_115 7 rfl rfl ?_
                exact g_iret C hr dX10_copy_117 h
              · rw [if_pos hc] at h
                refine g_bipush (pc' := 96) (v := (-13)) C dX10_copy_94 (by decide) rfl ?_
                exact g_iret C hr dX10_copy_96 h
          · rw [if_neg hc] at h
            refine g_bipush (pc' := 70) (v := (-12)) C dX10_copy_68 (by decide) rfl ?_
            exact g_iret C hr dX10_copy_70 h
        · rw [if_pos hc] at h
          refine g_bipush (pc' := 54) (v := (-11)) C dX10_copy_52 (by decide) rfl ?_
          exact g_iret C hr dX10_copy_54 h
    · rw [if_pos hc] at h
      refine g_iconst (pc' := 19) (v := (-1)) C dX10_copy_18 (by decide) rfl ?_
      exact g_iret C hr dX10_copy_19 h
theorem c_X10_copy (l : Launch) (base : Nat) (D : va_G) (cA : Nat → ClassId) (σ : cr_S) (a1 : Int32) (a2 : Int32) (a3 : Int32) (a4 : Int32) (a5 : Int32) (res : cr_S × Int32) (h : f_X10_copy σ a1 a2 a3 a4 a5 = some res) : cr_M l yX10_copy cX10_copy 8 (some .int) 1 60 sfC 97 base D cA [.ref (base + 0), .int a1, .int a2, .int a3, .int a4, .int a5] σ (cr_Qi sfC 97 base D cA res) := by
  refine cr_enter [.ref (base + 0), .int a1, .int a2, .int a3, .int a4, .int a5] [(0, .ref (base + 0)), (1, .int a1), (2, .int a2), (3, .int a3), (4, .int a4), (5, .int a5)] (by decide) (Nat.le_of_ble_eq_true rfl) rfl ?_
  intro p e R s m below meth c C hr hR
  exact w_X10_copy C hr hR σ a1 a2 a3 a4 a5 h
end

section
variable {p : Program} {l : Launch} {e : Env} {R : Room} {s : State} {m : MethodId} {args : Array Value} {below : List Frame} {meth : Method} {c : Code} {base : Nat} {D : va_G} {cA : Nat → ClassId}
def f_X10_soonest (σ : cr_S) (a1 : Int32) (a2 : Int32) (a3 : Int32) : Option (cr_S × Int32) :=
  Option.bind (f_X10_isBegin σ a1 a2) (fun q1 => (if q1.2 = 0 then some (q1.1, (-1)) else Option.bind (f_X10_isWithin q1.1 a3 (-2) ((rF q1.1 1 5) - 1)) (fun q3 => (if q3.2 = 0 then some (q3.1, (-1)) else chk (inb a1 5) (Option.bind (f_X5_findSoonest_74_1 q3.1 (15 + a1.toNatClampNeg) a2) (fun q6 => (if (rF q6 74 4) = 1000000 then some (q6, (-4)) else (if a3 = (-2) then some (q6, a2 + (rF q6 74 4)) else (if a3 = (-1) then some (q6, a2 + (rF q6 74 3)) else chk (inb a3 6) (some (q6, rA q6 84 a3)))))))))))
set_option maxRecDepth 100000 in
set_option maxHeartbeats 4000000 in
theorem w_X10_soonest (C : cr_C p l e R s m args below meth c sfC 97 base D cA cX10_soonest 4 RX10) (hr : meth.sig.returnType = some .int) (hR : 6 ≤ R.frames ∧ 141 ≤ R.locals) {res : cr_S × Int32} (σ : cr_S) (a1 : Int32) (a2 : Int32) (a3 : Int32) (h : f_X10_soonest σ a1 a2 a3 = some res) : cr_W p l e R s m args below meth c sfC 97 base D cA 4 (MQ below (cr_Qi sfC 97 base D cA res) args s 0 0 (cr_A 97 base)) σ 0 [(0, .ref (base + 0)), (1, .int a1), (2, .int a2), (3, .int a3)] [] := by
  unfold f_X10_soonest at h
  refine g_aload_n (pc' := 1) C dX10_soonest_0 0 rfl rfl ?_
  refine g_iload_n (pc' := 2) C dX10_soonest_1 1 rfl rfl ?_
  refine g_iload_n (pc' := 3) C dX10_soonest_2 2 rfl rfl ?_
  obtain ⟨q1, h2, h⟩ := bind_some h
  refine g_callVi (pc' := 6) (res := q1) C [.int a1, .int a2] cY_X10_isBegin rfl (o := 0) (by decide) rfl mv_X10_isBegin mm_X10_206 ⟨Nat.le_trans (by decide) hR.1, Nat.le_trans (by decide) hR.2⟩ rfl (Nat.le_of_ble_eq_true rfl) rfl dX10_soonest_3 (c_X10_isBegin l base D cA σ a1 a2 q1 h2) rfl ?_
  refine g_if_eq (pc' := 9) (tgt := 27) C dX10_soonest_6 (by decide) rfl (fun hc => ?_) (fun hc => ?_)
  · rw [if_pos hc] at h
    refine g_iconst (pc' := 28) (v := (-1)) C dX10_soonest_27 (by decide) rfl ?_
    exact g_iret C hr dX10_soonest_28 h
  · rw [if_neg hc] at h
    refine g_iload_n (pc' := 10) C dX10_soonest_9 3 rfl rfl ?_
    refine g_bipush (pc' := 12) (v := (-2)) C dX10_soonest_10 (by decide) rfl ?_
    refine g_aload_n (pc' := 13) C dX10_soonest_12 0 rfl rfl ?_
    refine gg_X10_12 (pc' := 16) (o := 0) (r := 1) C rfl rfl dX10_soonest_13 rfl ?_
    refine gg_X10_58 (pc' := 19) (o := 1) C rfl dX10_soonest_16 rfl ?_
    refine g_iconst (pc' := 20) (v := 1) C dX10_soonest_19 (by decide) rfl ?_
    refine g_isub (pc' := 21) C dX10_soonest_20 rfl ?_
    obtain ⟨q3, h4, h⟩ := bind_some h
    refine g_callSi (pc' := 24) (res := q3) C [.int a3, .int (-2), .int ((rF q1.1 1 5) - 1)] cY_X10_isWithin mv_X10_isWithin mm_X10_54 ⟨Nat.le_trans (by decide) hR.1, Nat.le_trans (by decide) hR.2⟩ rfl (Nat.le_of_ble_eq_true rfl) rfl dX10_soonest_21 (c_X10_isWithin l base D cA q1.1 a3 (-2) ((rF q1.1 1 5) - 1) q3 h4) rfl ?_
    refine g_if_ne (pc' := 27) (tgt := 29) C dX10_soonest_24 (by decide) rfl (fun hc => ?_) (fun hc => ?_)
    · rw [if_neg hc] at h
      refine g_aload_n (pc' := 30) C dX10_soonest_29 0 rfl rfl ?_
      refine gg_X10_36 (pc' := 33) (o := 0) (r := 74) C rfl rfl dX10_soonest_30 rfl ?_
      refine g_aload_n (pc' := 34) C dX10_soonest_33 0 rfl rfl ?_
      refine gg_X10_12 (pc' := 37) (o := 0) (r := 1) C rfl rfl dX10_soonest_34 rfl ?_
      refine g_aload_n (pc' := 38) C dX10_soonest_37 0 rfl rfl ?_
      refine gg_X10_12 (pc' := 41) (o := 0) (r := 1) C rfl rfl dX10_soonest_38 rfl ?_
      refine gg_X10_85 (pc' := 44) (o := 1) (r := 3) C rfl rfl dX10_soonest_41 rfl ?_
      refine g_iload_n (pc' := 45) C dX10_soonest_44 1 rfl rfl ?_
      obtain ⟨h5, h⟩ := chk_some h
      refine g_aald (pc' := 46) C (o := 3) (by decide) rfl (cn := "ClashRocks$Ship") rfl h5 dX10_soonest_45 rfl ?_
      refine g_iload_n (pc' := 47) C dX10_soonest_46 2 rfl rfl ?_
      obtain ⟨q6, h7, h⟩ := bind_some h
      refine g_callVv (pc' := 50) (res := q6) C [.ref (base + 1), .ref (base + (15 + a1.toNatClampNeg)), .int a2] cY_X5_findSoonest rfl (o := 74) (by decide) rfl mv_X5_findSoonest mm_X10_210 ⟨Nat.le_trans (by decide) hR.1, Nat.le_trans (by decide) hR.2⟩ rfl (Nat.le_of_ble_eq_true rfl) rfl dX10_soonest_47 (c_X5_findSoonest_74_1 l base D cA q3.1 (15 + a1.toNatClampNeg) a2 q6 h7) rfl ?_
      refine g_aload_n (pc' := 51) C dX10_soonest_50 0 rfl rfl ?_
      refine gg_X10_36 (pc' := 54) (o := 0) (r := 74) C rfl rfl dX10_soonest_51 rfl ?_
      refine gg_X10_214 (pc' := 57) (o := 74) C rfl dX10_soonest_54 rfl ?_
      refine g_ldc (pc' := 59) (v := 1000000) C dX10_soonest_57 mk_X10_217 rfl ?_
      refine g_icmp_ne (pc' := 62) (tgt := 65) C dX10_soonest_59 (by decide) rfl (fun hc => ?_) (fun hc => ?_)
      · rw [if_neg hc] at h
        refine g_iload_n (pc' := 66) C dX10_soonest_65 3 rfl rfl ?_
        refine g_bipush (pc' := 68) (v := (-2)) C dX10_soonest_66 (by decide) rfl ?_
        refine g_icmp_ne (pc' := 71) (tgt := 81) C dX10_soonest_68 (by decide) rfl (fun hc => ?_) (fun hc => ?_)
        · rw [if_neg hc] at h
          refine g_iload_n (pc' := 82) C dX10_soonest_81 3 rfl rfl ?_
          refine g_iconst (pc' := 83) (v := (-1)) C dX10_soonest_82 (by decide) rfl ?_
          refine g_icmp_ne (pc' := 86) (tgt := 98) C dX10_soonest_83 (by decide) rfl (fun hc => ?_) (fun hc => ?_)
          · rw [if_neg hc] at h
            refine g_aload_n (pc' := 99) C dX10_soonest_98 0 rfl rfl ?_
            refine gg_X10_36 (pc' := 102) (o := 0) (r := 74) C rfl rfl dX10_soonest_99 rfl ?_
            refine gg_X10_221 (pc' := 105) (o := 74) (r := 84) C rfl rfl dX10_soonest_102 rfl ?_
            refine g_iload_n (pc' := 106) C dX10_soonest_105 3 rfl rfl ?_
            obtain ⟨h8, h⟩ := chk_some h
            refine g_iald (pc' := 107) C (o := 84) (by decide) rfl h8 dX10_soonest_106 rfl ?_
            exact g_iret C hr dX10_soonest_107 h
          · rw [if_pos hc] at h
            refine g_iload_n (pc' := 87) C dX10_soonest_86 2 rfl rfl ?_
            refine g_aload_n (pc' := 88) C dX10_soonest_87 0 rfl rfl ?_
            refine gg_X10_36 (pc' := 91) (o := 0) (r := 74) C rfl rfl dX10_soonest_88 rfl ?_
            refine gg_X10_218 (pc' := 94) (o := 74) C rfl dX10_soonest_91 rfl ?_
            refine g_iadd (pc' := 95) C dX10_soonest_94 rfl ?_
            refine g_goto (tgt := 107) C dX10_soonest_95 (by decide) ?_
            exact g_iret C hr dX10_soonest_107 h
        · rw [if_pos hc] at h
          refine g_iload_n (pc' := 72) C dX10_soonest_71 2 rfl rfl ?_
          refine g_aload_n (pc' := 73) C dX10_soonest_72 0 rfl rfl ?_
          refine gg_X10_36 (pc' := 76) (o := 0) (r := 74) C rfl rfl dX10_soonest_73 rfl ?_
          refine gg_X10_214 (pc' := 79) (o := 74) C rfl dX10_soonest_76 rfl ?_
          refine g_iadd (pc' := 80) C dX10_soonest_79 rfl ?_
          exact g_iret C hr dX10_soonest_80 h
      · rw [if_pos hc] at h
        refine g_bipush (pc' := 64) (v := (-4)) C dX10_soonest_62 (by decide) rfl ?_
        exact g_iret C hr dX10_soonest_64 h
    · rw [if_pos hc] at h
      refine g_iconst (pc' := 28) (v := (-1)) C dX10_soonest_27 (by decide) rfl ?_
      exact g_iret C hr dX10_soonest_28 h
theorem c_X10_soonest (l : Launch) (base : Nat) (D : va_G) (cA : Nat → ClassId) (σ : cr_S) (a1 : Int32) (a2 : Int32) (a3 : Int32) (res : cr_S × Int32) (h : f_X10_soonest σ a1 a2 a3 = some res) : cr_M l yX10_soonest cX10_soonest 4 (some .int) 6 141 sfC 97 base D cA [.ref (base + 0), .int a1, .int a2, .int a3] σ (cr_Qi sfC 97 base D cA res) := by
  refine cr_enter [.ref (base + 0), .int a1, .int a2, .int a3] [(0, .ref (base + 0)), (1, .int a1), (2, .int a2), (3, .int a3)] (by decide) (Nat.le_of_ble_eq_true rfl) rfl ?_
  intro p e R s m below meth c C hr hR
  exact w_X10_soonest C hr hR σ a1 a2 a3 h
def f_X0_judgement_70 (σ : cr_S) (a1 : Int32) : Option (cr_S × Int32) :=
  (if a1 = 0 then some (σ, rF σ 70 3) else (if a1 = 1 then some (σ, rF σ 70 4) else some (σ, rF σ 70 5)))
set_option maxRecDepth 100000 in
set_option maxHeartbeats 4000000 in
theorem w_X0_judgement_70 (C : cr_C p l e R s m args below meth c sfC 97 base D cA cX0_judgement 2 RX0) (hr : meth.sig.returnType = some .int) (hR : 0 ≤ R.frames ∧ 0 ≤ R.locals) {res : cr_S × Int32} (σ : cr_S) (a1 : Int32) (h : f_X0_judgement_70 σ a1 = some res) : cr_W p l e R s m args below meth c sfC 97 base D cA 2 (MQ below (cr_Qi sfC 97 base D cA res) args s 0 0 (cr_A 97 base)) σ 0 [(0, .ref (base + 70)), (1, .int a1)] [] := by
  unfold f_X0_judgement_70 at h
  refine g_iload_n (pc' := 1) C dX0_judgement_0 1 rfl rfl ?_
  by_cases hc0 : a1 = 0
  · rw [if_pos hc0] at h
    refine g_lookup (off := 27) (tgt := 28) C dX0_judgement_1 (by decide) (by rw [hc0]; decide) (by decide) ?_
    refine g_aload_n (pc' := 29) C dX0_judgement_28 0 rfl rfl ?_
    refine gg_X0_21 (pc' := 32) (o := 70) C rfl dX0_judgement_29 rfl ?_
    exact g_iret C hr dX0_judgement_32 h
  rw [if_neg hc0] at h
  by_cases hc1 : a1 = 1
  · rw [if_pos hc1] at h
    refine g_lookup (off := 32) (tgt := 33) C dX0_judgement_1 (by decide) (by rw [hc1]; decide) (by decide) ?_
    refine g_aload_n (pc' := 34) C dX0_judgement_33 0 rfl rfl ?_
    refine gg_X0_50 (pc' := 37) (o := 70) C rfl dX0_judgement_34 rfl ?_
    exact g_iret C hr dX0_judgement_37 h
  rw [if_neg hc1] at h
  refine g_lookup (off := 37) (tgt := 38) C dX0_judgement_1 (by decide) (by have q0 : (0 : Int) ≠ a1.toInt := Ne.symm (ne_toInt hc0); have q1 : (1 : Int) ≠ a1.toInt := Ne.symm (ne_toInt hc1); show Op.lookupswitch.offset [(0, 27), (1, 32)] _ _ = _; rw [Op.lookupswitch.offset_cons, if_neg q0, Op.lookupswitch.offset_cons, if_neg q1]; rfl) (by decide) ?_
  refine g_aload_n (pc' := 39) C dX0_judgement_38 0 rfl rfl ?_
  refine gg_X0_47 (pc' := 42) (o := 70) C rfl dX0_judgement_39 rfl ?_
  exact g_iret C hr dX0_judgement_42 h
theorem c_X0_judgement_70 (l : Launch) (base : Nat) (D : va_G) (cA : Nat → ClassId) (σ : cr_S) (a1 : Int32) (res : cr_S × Int32) (h : f_X0_judgement_70 σ a1 = some res) : cr_M l yX0_judgement cX0_judgement 2 (some .int) 0 0 sfC 97 base D cA [.ref (base + 70), .int a1] σ (cr_Qi sfC 97 base D cA res) := by
  refine cr_enter [.ref (base + 70), .int a1] [(0, .ref (base + 70)), (1, .int a1)] (by decide) (Nat.le_of_ble_eq_true rfl) rfl ?_
  intro p e R s m below meth c C hr hR
  exact w_X0_judgement_70 C hr hR σ a1 h
def f_X10_full (σ : cr_S) (a1 : Int32) (a2 : Int32) (a3 : Int32) : Option (cr_S × Int32) :=
  Option.bind (f_X10_isBegin σ a1 a2) (fun q1 => (if q1.2 = 0 then some (q1.1, (-1)) else Option.bind (f_X10_isWithin q1.1 a3 0 2) (fun q3 => (if q3.2 = 0 then some (q3.1, (-1)) else Option.bind (f_X10_goFull q3.1 a1 a2) (fun q5 => Option.bind (f_X0_judgement_70 q5 a3) (fun q7 => some (q7.1, q7.2)))))))
set_option maxRecDepth 100000 in
set_option maxHeartbeats 4000000 in
theorem w_X10_full (C : cr_C p l e R s m args below meth c sfC 97 base D cA cX10_full 4 RX10) (hr : meth.sig.returnType = some .int) (hR : 6 ≤ R.frames ∧ 143 ≤ R.locals) {res : cr_S × Int32} (σ : cr_S) (a1 : Int32) (a2 : Int32) (a3 : Int32) (h : f_X10_full σ a1 a2 a3 = some res) : cr_W p l e R s m args below meth c sfC 97 base D cA 4 (MQ below (cr_Qi sfC 97 base D cA res) args s 0 0 (cr_A 97 base)) σ 0 [(0, .ref (base + 0)), (1, .int a1), (2, .int a2), (3, .int a3)] [] := by
  unfold f_X10_full at h
  refine g_aload_n (pc' := 1) C dX10_full_0 0 rfl rfl ?_
  refine g_iload_n (pc' := 2) C dX10_full_1 1 rfl rfl ?_
  refine g_iload_n (pc' := 3) C dX10_full_2 2 rfl rfl ?_
  obtain ⟨q1, h2, h⟩ := bind_some h
  refine g_callVi (pc' := 6) (res := q1) C [.int a1, .int a2] cY_X10_isBegin rfl (o := 0) (by decide) rfl mv_X10_isBegin mm_X10_206 ⟨Nat.le_trans (by decide) hR.1, Nat.le_trans (by decide) hR.2⟩ rfl (Nat.le_of_ble_eq_true rfl) rfl dX10_full_3 (c_X10_isBegin l base D cA σ a1 a2 q1 h2) rfl ?_
  refine g_if_eq (pc' := 9) (tgt := 18) C dX10_full_6 (by decide) rfl (fun hc => ?_) (fun hc => ?_)
  · rw [if_pos hc] at h
    refine g_iconst (pc' := 19) (v := (-1)) C dX10_full_18 (by decide) rfl ?_
    exact g_iret C hr dX10_full_19 h
  · rw [if_neg hc] at h
    refine g_iload_n (pc' := 10) C dX10_full_9 3 rfl rfl ?_
    refine g_iconst (pc' := 11) (v := 0) C dX10_full_10 (by decide) rfl ?_
    refine g_iconst (pc' := 12) (v := 2) C dX10_full_11 (by decide) rfl ?_
    obtain ⟨q3, h4, h⟩ := bind_some h
    refine g_callSi (pc' := 15) (res := q3) C [.int a3, .int 0, .int 2] cY_X10_isWithin mv_X10_isWithin mm_X10_54 ⟨Nat.le_trans (by decide) hR.1, Nat.le_trans (by decide) hR.2⟩ rfl (Nat.le_of_ble_eq_true rfl) rfl dX10_full_12 (c_X10_isWithin l base D cA q1.1 a3 0 2 q3 h4) rfl ?_
    refine g_if_ne (pc' := 18) (tgt := 20) C dX10_full_15 (by decide) rfl (fun hc => ?_) (fun hc => ?_)
    · rw [if_neg hc] at h
      refine g_aload_n (pc' := 21) C dX10_full_20 0 rfl rfl ?_
      refine g_iload_n (pc' := 22) C dX10_full_21 1 rfl rfl ?_
      refine g_iload_n (pc' := 23) C dX10_full_22 2 rfl rfl ?_
      obtain ⟨q5, h6, h⟩ := bind_some h
      refine g_callVv (pc' := 26) (res := q5) C [.int a1, .int a2] cY_X10_goFull rfl (o := 0) (by decide) rfl mv_X10_goFull mm_X10_196 ⟨Nat.le_trans (by decide) hR.1, Nat.le_trans (by decide) hR.2⟩ rfl (Nat.le_of_ble_eq_true rfl) rfl dX10_full_23 (c_X10_goFull l base D cA q3.1 a1 a2 q5 h6) rfl ?_
      refine g_aload_n (pc' := 27) C dX10_full_26 0 rfl rfl ?_
      refine gg_X10_29 (pc' := 30) (o := 0) (r := 70) C rfl rfl dX10_full_27 rfl ?_
      refine g_iload_n (pc' := 31) C dX10_full_30 3 rfl rfl ?_
      obtain ⟨q7, h8, h⟩ := bind_some h
      refine g_callVi (pc' := 34) (res := q7) C [.int a3] cY_X0_judgement rfl (o := 70) (by decide) rfl mv_X0_judgement mm_X10_225 ⟨Nat.le_trans (by decide) hR.1, Nat.le_trans (by decide) hR.2⟩ rfl (Nat.le_of_ble_eq_true rfl) rfl dX10_full_31 (c_X0_judgement_70 l base D cA q5 a3 q7 h8) rfl ?_
      exact g_iret C hr dX10_full_34 h
    · rw [if_pos hc] at h
      refine g_iconst (pc' := 19) (v := (-1)) C dX10_full_18 (by decide) rfl ?_
      exact g_iret C hr dX10_full_19 h
theorem c_X10_full (l : Launch) (base : Nat) (D : va_G) (cA : Nat → ClassId) (σ : cr_S) (a1 : Int32) (a2 : Int32) (a3 : Int32) (res : cr_S × Int32) (h : f_X10_full σ a1 a2 a3 = some res) : cr_M l yX10_full cX10_full 4 (some .int) 6 143 sfC 97 base D cA [.ref (base + 0), .int a1, .int a2, .int a3] σ (cr_Qi sfC 97 base D cA res) := by
  refine cr_enter [.ref (base + 0), .int a1, .int a2, .int a3] [(0, .ref (base + 0)), (1, .int a1), (2, .int a2), (3, .int a3)] (by decide) (Nat.le_of_ble_eq_true rfl) rfl ?_
  intro p e R s m below meth c C hr hR
  exact w_X10_full C hr hR σ a1 a2 a3 h
def f_X0_planFull_70_1_L6  : Nat → cr_S → Nat → Int32 → Int32 → Option (cr_S)
  | 0, _, _, _, _ => none
  | n + 1, σ, x2, x4, x5 =>
    (if (rF σ 1 5) ≤ x5 then some σ else chk (inb x5 6) (chk (kC (9 + x5.toNatClampNeg) = 3) (Option.bind (f_X6_high σ x2) (fun q3 => chk (kC x2 = 6) (Option.bind (f_X10_secondsFor q3.1 (rF σ (9 + x5.toNatClampNeg) 1) q3.2) (fun q6 => chk (inb x5 6) (cr_let (sA q6.1 72 x5 (x4 + q6.2)) (fun s9 => chk (inb x5 6) (Option.bind (f_X6_span s9 x2) (fun q12 => chk (kC x2 = 6) (Option.bind (f_X6_high q12.1 x2) (fun q15 => chk (kC x2 = 6) (Option.bind (f_X10_secondsFor q15.1 q12.2 q15.2) (fun q18 => chk (inb x5 6) (cr_let (sA q18.1 73 x5 ((rA s9 72 x5) + q18.2)) (fun s21 => chk (inb x5 6) (cr_let (rA s21 73 x5) (fun v24 => cr_let (x5 + 1) (fun v26 => f_X0_planFull_70_1_L6 n s21 x2 v24 v26)))))))))))))))))))
set_option maxRecDepth 100000 in
set_option maxHeartbeats 4000000 in
theorem w_X0_planFull_70_1_L6 (C : cr_C p l e R s m args below meth c sfC 97 base D cA cX0_planFull 6 RX0) (hr : meth.sig.returnType = none) (hR : 1 ≤ R.frames ∧ 21 ≤ R.locals) {res : cr_S}  : ∀ (n : Nat) (σ : cr_S) (x2 : Nat) (x4 : Int32) (x5 : Int32), f_X0_planFull_70_1_L6 n σ x2 x4 x5 = some res → cr_W p l e R s m args below meth c sfC 97 base D cA 6 (MQ below (cr_Qv sfC 97 base D cA res) args s 0 0 (cr_A 97 base)) σ 6 [(0, .ref (base + 70)), (1, .ref (base + 1)), (2, .ref (base + x2)), (4, .int x4), (5, .int x5)] [] := by
  intro n
  induction n with
  | zero =>
    intro σ x2 x4 x5 h
    cases h
  | succ n ih =>
    intro σ x2 x4 x5 h
    rw [f_X0_planFull_70_1_L6] at h
    refine g_iload (pc' := 8) C dX0_planFull_6 4 rfl rfl ?_
    refine g_aload_n (pc' := 9) C dX0_planFull_8 1 rfl rfl ?_
    refine gg_X0_53 (pc' := 12) (o := 1) C rfl dX0_planFull_9 rfl ?_
    refine g_icmp_ge (pc' := 15) (tgt := 83) C dX0_planFull_12 (by decide) rfl (fun hc => ?_) (fun hc => ?_)
    · rw [if_pos hc] at h
      exact g_vret C hr dX0_planFull_83 h
    · rw [if_neg hc] at h
      refine g_aload_n (pc' := 16) C dX0_planFull_15 0 rfl rfl ?_
      refine gg_X0_15 (pc' := 19) (o := 70) (r := 72) C rfl rfl dX0_planFull_16 rfl ?_
      refine g_iload (pc' := 21) C dX0_planFull_19 4 rfl rfl ?_
      refine g_iload (pc' := 23) C dX0_planFull_21 3 rfl rfl ?_
      refine g_aload_n (pc' := 24) C dX0_planFull_23 1 rfl rfl ?_
      refine gg_X0_58 (pc' := 27) (o := 1) (r := 2) C rfl rfl dX0_planFull_24 rfl ?_
      refine g_iload (pc' := 29) C dX0_planFull_27 4 rfl rfl ?_
      obtain ⟨h1, h⟩ := chk_some h
      refine g_aald (pc' := 30) C (o := 2) (by decide) rfl (cn := "ClashRocks$Pair") rfl h1 dX0_planFull_29 rfl ?_
      obtain ⟨h2, h⟩ := chk_some h
      refine gg_X0_25 (pc' := 33) (o := 9 + x5.toNatClampNeg) C h2 dX0_planFull_30 rfl ?_
      refine g_aload_n (pc' := 34) C dX0_planFull_33 2 rfl rfl ?_
      obtain ⟨q3, h4, h⟩ := bind_some h
      obtain ⟨h5, h⟩ := chk_some h
      refine g_callVi (pc' := 37) (res := q3) C [] cY_X6_high rfl (o := x2) (kC_lt h5 (by decide)) (sfC_6 h5) mv_X6_high mm_X0_66 ⟨Nat.le_trans (by decide) hR.1, Nat.le_trans (by decide) hR.2⟩ rfl (Nat.le_of_ble_eq_true rfl) rfl dX0_planFull_34 (c_X6_high l base D cA σ x2 q3 h4) rfl ?_
      obtain ⟨q6, h7, h⟩ := bind_some h
      refine g_callNi (pc' := 40) (res := q6) C [.int (rF σ (9 + x5.toNatClampNeg) 1), .int q3.2] cY_X10_secondsFor mv_X10_secondsFor mn_X0_30 ⟨Nat.le_trans (by decide) hR.1, Nat.le_trans (by decide) hR.2⟩ rfl (Nat.le_of_ble_eq_true rfl) rfl dX0_planFull_37 (c_X10_secondsFor l base D cA q3.1 (rF σ (9 + x5.toNatClampNeg) 1) q3.2 q6 h7) rfl ?_
      refine g_iadd (pc' := 41) C dX0_planFull_40 rfl ?_
      obtain ⟨h8, h⟩ := chk_some h
      obtain ⟨s9, e10, h⟩ := let_some h
      refine g_iast (pc' := 42) C (o := 72) (by decide) rfl h8 dX0_planFull_41 rfl e10 ?_
      refine g_aload_n (pc' := 43) C dX0_planFull_42 0 rfl rfl ?_
      refine gg_X0_18 (pc' := 46) (o := 70) (r := 73) C rfl rfl dX0_planFull_43 rfl ?_
      refine g_iload (pc' := 48) C dX0_planFull_46 4 rfl rfl ?_
      refine g_aload_n (pc' := 49) C dX0_planFull_48 0 rfl rfl ?_
      refine gg_X0_15 (pc' := 52) (o := 70) (r := 72) C rfl rfl dX0_planFull_49 rfl ?_
      refine g_iload (pc' := 54) C dX0_planFull_52 4 rfl rfl ?_
      obtain ⟨h11, h⟩ := chk_some h
      refine g_iald (pc' := 55) C (o := 72) (by decide) rfl h11 dX0_planFull_54 rfl ?_
      refine g_aload_n (pc' := 56) C dX0_planFull_55 2 rfl rfl ?_
      obtain ⟨q12, h13, h⟩ := bind_some h
      obtain ⟨h14, h⟩ := chk_some h
      refine g_callVi (pc' := 59) (res := q12) C [] cY_X6_span rfl (o := x2) (kC_lt h14 (by decide)) (sfC_6 h14) mv_X6_span mm_X0_34 ⟨Nat.le_trans (by decide) hR.1, Nat.le_trans (by decide) hR.2⟩ rfl (Nat.le_of_ble_eq_true rfl) rfl dX0_planFull_56 (c_X6_span l base D cA s9 x2 q12 h13) rfl ?_
      refine g_aload_n (pc' := 60) C dX0_planFull_59 2 rfl rfl ?_
      obtain ⟨q15, h16, h⟩ := bind_some h
      obtain ⟨h17, h⟩ := chk_some h
      refine g_callVi (pc' := 63) (res := q15) C [] cY_X6_high rfl (o := x2) (kC_lt h17 (by decide)) (sfC_6 h17) mv_X6_high mm_X0_66 ⟨Nat.le_trans (by decide) hR.1, Nat.le_trans (by decide) hR.2⟩ rfl (Nat.le_of_ble_eq_true rfl) rfl dX0_planFull_60 (c_X6_high l base D cA q12.1 x2 q15 h16) rfl ?_
      obtain ⟨q18, h19, h⟩ := bind_some h
      refine g_callNi (pc' := 66) (res := q18) C [.int q12.2, .int q15.2] cY_X10_secondsFor mv_X10_secondsFor mn_X0_30 ⟨Nat.le_trans (by decide) hR.1, Nat.le_trans (by decide) hR.2⟩ rfl (Nat.le_of_ble_eq_true rfl) rfl dX0_planFull_63 (c_X10_secondsFor l base D cA q15.1 q12.2 q15.2 q18 h19) rfl ?_
      refine g_iadd (pc' := 67) C dX0_planFull_66 rfl ?_
      obtain ⟨h20, h⟩ := chk_some h
      obtain ⟨s21, e22, h⟩ := let_some h
      refine g_iast (pc' := 68) C (o := 73) (by decide) rfl h20 dX0_planFull_67 rfl e22 ?_
      refine g_aload_n (pc' := 69) C dX0_planFull_68 0 rfl rfl ?_
      refine gg_X0_18 (pc' := 72) (o := 70) (r := 73) C rfl rfl dX0_planFull_69 rfl ?_
      refine g_iload (pc' := 74) C dX0_planFull_72 4 rfl rfl ?_
      obtain ⟨h23, h⟩ := chk_some h
      refine g_iald (pc' := 75) C (o := 73) (by decide) rfl h23 dX0_planFull_74 rfl ?_
      obtain ⟨v24, e25, h⟩ := let_some h
      refine g_nameI e25 ?_
      refine g_istore (pc' := 77) (lv' := [(4, .int v24), (0, .ref (base + 70)), (1, .ref (base + 1)), (2, .ref (base + x2)), (5, .int x5)]) C dX0_planFull_75 (by decide) rfl rfl ?_
      obtain ⟨v26, e27, h⟩ := let_some h
      refine g_iinc (pc' := 80) (v := v26) (lv' := [(5, .int v26), (4, .int v24), (0, .ref (base + 70)), (1, .ref (base + 1)), (2, .ref (base + x2))]) C dX0_planFull_77 4 rfl (by rw [e27]; rfl) (by decide) rfl rfl ?_
      refine g_goto (tgt := 6) C dX0_planFull_80 (by decide) ?_
      exact g_sub C [2, 3, 4, 1, 0] rfl (ih _ _ _ _ h)
def f_X0_planFull_70_1 (σ : cr_S) (o2 : Nat) (a3 : Int32) : Option (cr_S) :=
  f_X0_planFull_70_1_L6 cr_fuel σ o2 a3 0
set_option maxRecDepth 100000 in
set_option maxHeartbeats 4000000 in
theorem w_X0_planFull_70_1 (C : cr_C p l e R s m args below meth c sfC 97 base D cA cX0_planFull 6 RX0) (hr : meth.sig.returnType = none) (hR : 1 ≤ R.frames ∧ 21 ≤ R.locals) {res : cr_S} (σ : cr_S) (o2 : Nat) (a3 : Int32) (h : f_X0_planFull_70_1 σ o2 a3 = some res) : cr_W p l e R s m args below meth c sfC 97 base D cA 6 (MQ below (cr_Qv sfC 97 base D cA res) args s 0 0 (cr_A 97 base)) σ 0 [(0, .ref (base + 70)), (1, .ref (base + 1)), (2, .ref (base + o2)), (3, .int a3)] [] := by
  unfold f_X0_planFull_70_1 at h
  refine g_iload_n (pc' := 1) C dX0_planFull_0 3 rfl rfl ?_
  refine g_istore (pc' := 3) (lv' := [(4, .int a3), (0, .ref (base + 70)), (1, .ref (base + 1)), (2, .ref (base + o2)), (3, .int a3)]) C dX0_planFull_1 (by decide) rfl rfl ?_
  refine g_iconst (pc' := 4) (v := 0) C dX0_planFull_3 (by decide) rfl ?_
  refine g_istore (pc' := 6) (lv' := [(5, .int 0), (4, .int a3), (0, .ref (base + 70)), (1, .ref (base + 1)), (2, .ref (base + o2)), (3, .int a3)]) C dX0_planFull_4 (by decide) rfl rfl ?_
  exact g_sub C [2, 3, 4, 1, 0] rfl (w_X0_planFull_70_1_L6 C hr hR _ _ _ _ _ h)
theorem c_X0_planFull_70_1 (l : Launch) (base : Nat) (D : va_G) (cA : Nat → ClassId) (σ : cr_S) (o2 : Nat) (a3 : Int32) (res : cr_S) (h : f_X0_planFull_70_1 σ o2 a3 = some res) : cr_M l yX0_planFull cX0_planFull 6 none 1 21 sfC 97 base D cA [.ref (base + 70), .ref (base + 1), .ref (base + o2), .int a3] σ (cr_Qv sfC 97 base D cA res) := by
  refine cr_enter [.ref (base + 70), .ref (base + 1), .ref (base + o2), .int a3] [(0, .ref (base + 70)), (1, .ref (base + 1)), (2, .ref (base + o2)), (3, .int a3)] (by decide) (Nat.le_of_ble_eq_true rfl) rfl ?_
  intro p e R s m below meth c C hr hR
  exact w_X0_planFull_70_1 C hr hR σ o2 a3 h
def f_X0_isThroughBy_70_1 (σ : cr_S) (a2 : Int32) (a3 : Int32) : Option (cr_S × Int32) :=
  chk (inb a2 6) (chk (inb a2 6) (chk (inb a2 6) (Option.bind (f_X3_firstShut σ (9 + a2.toNatClampNeg) (rA σ 72 a2) (rA σ 73 a2) a3) (fun q4 => chk (kC (9 + a2.toNatClampNeg) = 3) (chk (inb a2 6) (chk (isB (if q4.2 = (rA q4.1 73 a2) then 1 else 0)) (some (q4.1, if q4.2 = (rA q4.1 73 a2) then 1 else 0))))))))
set_option maxRecDepth 100000 in
set_option maxHeartbeats 4000000 in
theorem w_X0_isThroughBy_70_1 (C : cr_C p l e R s m args below meth c sfC 97 base D cA cX0_isThroughBy 4 RX0) (hr : meth.sig.returnType = some .boolean) (hR : 3 ≤ R.frames ∧ 68 ≤ R.locals) {res : cr_S × Int32} (σ : cr_S) (a2 : Int32) (a3 : Int32) (h : f_X0_isThroughBy_70_1 σ a2 a3 = some res) : cr_W p l e R s m args below meth c sfC 97 base D cA 4 (MQ below (cr_Qi sfC 97 base D cA res) args s 0 0 (cr_A 97 base)) σ 0 [(0, .ref (base + 70)), (1, .ref (base + 1)), (2, .int a2), (3, .int a3)] [] := by
  unfold f_X0_isThroughBy_70_1 at h
  refine g_aload_n (pc' := 1) C dX0_isThroughBy_0 1 rfl rfl ?_
  refine gg_X0_58 (pc' := 4) (o := 1) (r := 2) C rfl rfl dX0_isThroughBy_1 rfl ?_
  refine g_iload_n (pc' := 5) C dX0_isThroughBy_4 2 rfl rfl ?_
  obtain ⟨h1, h⟩ := chk_some h
  refine g_aald (pc' := 6) C (o := 2) (by decide) rfl (cn := "ClashRocks$Pair") rfl h1 dX0_isThroughBy_5 rfl ?_
  refine g_aload_n (pc' := 7) C dX0_isThroughBy_6 0 rfl rfl ?_
  refine gg_X0_15 (pc' := 10) (o := 70) (r := 72) C rfl rfl dX0_isThroughBy_7 rfl ?_
  refine g_iload_n (pc' := 11) C dX0_isThroughBy_10 2 rfl rfl ?_
  obtain ⟨h2, h⟩ := chk_some h
  refine g_iald (pc' := 12) C (o := 72) (by decide) rfl h2 dX0_isThroughBy_11 rfl ?_
  refine g_aload_n (pc' := 13) C dX0_isThroughBy_12 0 rfl rfl ?_
  refine gg_X0_18 (pc' := 16) (o := 70) (r := 73) C rfl rfl dX0_isThroughBy_13 rfl ?_
  refine g_iload_n (pc' := 17) C dX0_isThroughBy_16 2 rfl rfl ?_
  obtain ⟨h3, h⟩ := chk_some h
  refine g_iald (pc' := 18) C (o := 73) (by decide) rfl h3 dX0_isThroughBy_17 rfl ?_
  refine g_iload_n (pc' := 19) C dX0_isThroughBy_18 3 rfl rfl ?_
  obtain ⟨q4, h5, h⟩ := bind_some h
  obtain ⟨h6, h⟩ := chk_some h
  refine g_callVi (pc' := 22) (res := q4) C [.int (rA σ 72 a2), .int (rA σ 73 a2), .int a3] cY_X3_firstShut rfl (o := 9 + a2.toNatClampNeg) (kC_lt h6 (by decide)) (sfC_3 h6) mv_X3_firstShut mm_X0_43 ⟨Nat.le_trans (by decide) hR.1, Nat.le_trans (by decide) hR.2⟩ rfl (Nat.le_of_ble_eq_true rfl) rfl dX0_isThroughBy_19 (c_X3_firstShut l base D cA σ (9 + a2.toNatClampNeg) (rA σ 72 a2) (rA σ 73 a2) a3 q4 h5) rfl ?_
  refine g_aload_n (pc' := 23) C dX0_isThroughBy_22 0 rfl rfl ?_
  refine gg_X0_18 (pc' := 26) (o := 70) (r := 73) C rfl rfl dX0_isThroughBy_23 rfl ?_
  refine g_iload_n (pc' := 27) C dX0_isThroughBy_26 2 rfl rfl ?_
  obtain ⟨h7, h⟩ := chk_some h
  refine g_iald (pc' := 28) C (o := 73) (by decide) rfl h7 dX0_isThroughBy_27 rfl ?_
  refine g_iteI (σ := q4.1) (pj := 36) (lv := [(0, .ref (base + 70)), (1, .ref (base + 1)), (2, .int a2), (3, .int a3)]) (st := []) (cd := q4.2 = (rA q4.1 73 a2)) (a := 1) (b := 0) C ?_ (fun kt kf => ?_)
  · obtain ⟨h8, h⟩ := chk_some h
    exact g_zret C hr (isB_n h8) dX0_isThroughBy_36 h
  · refine g_icmp_ne (pc' := 31) (tgt := 35) C dX0_isThroughBy_28 (by decide) rfl (fun hc => ?_) (fun hc => ?_)
    · refine g_iconst (pc' := 36) (v := 0) C dX0_isThroughBy_35 (by decide) rfl ?_
      exact kf hc
    · refine g_iconst (pc' := 32) (v := 1) C dX0_isThroughBy_31 (by decide) rfl ?_
      refine g_goto (tgt := 36) C dX0_isThroughBy_32 (by decide) ?_
      exact kt hc
theorem c_X0_isThroughBy_70_1 (l : Launch) (base : Nat) (D : va_G) (cA : Nat → ClassId) (σ : cr_S) (a2 : Int32) (a3 : Int32) (res : cr_S × Int32) (h : f_X0_isThroughBy_70_1 σ a2 a3 = some res) : cr_M l yX0_isThroughBy cX0_isThroughBy 4 (some .boolean) 3 68 sfC 97 base D cA [.ref (base + 70), .ref (base + 1), .int a2, .int a3] σ (cr_Qi sfC 97 base D cA res) := by
  refine cr_enter [.ref (base + 70), .ref (base + 1), .int a2, .int a3] [(0, .ref (base + 70)), (1, .ref (base + 1)), (2, .int a2), (3, .int a3)] (by decide) (Nat.le_of_ble_eq_true rfl) rfl ?_
  intro p e R s m below meth c C hr hR
  exact w_X0_isThroughBy_70_1 C hr hR σ a2 a3 h
def f_X0_isThrough_70_1 (σ : cr_S) (a2 : Int32) : Option (cr_S × Int32) :=
  chk (inb a2 6) (chk (kC (9 + a2.toNatClampNeg) = 3) (Option.bind (f_X0_isThroughBy_70_1 σ a2 (rF σ (9 + a2.toNatClampNeg) 4)) (fun q3 => chk (isB q3.2) (some (q3.1, q3.2)))))
set_option maxRecDepth 100000 in
set_option maxHeartbeats 4000000 in
theorem w_X0_isThrough_70_1 (C : cr_C p l e R s m args below meth c sfC 97 base D cA cX0_isThrough 3 RX0) (hr : meth.sig.returnType = some .boolean) (hR : 4 ≤ R.frames ∧ 91 ≤ R.locals) {res : cr_S × Int32} (σ : cr_S) (a2 : Int32) (h : f_X0_isThrough_70_1 σ a2 = some res) : cr_W p l e R s m args below meth c sfC 97 base D cA 3 (MQ below (cr_Qi sfC 97 base D cA res) args s 0 0 (cr_A 97 base)) σ 0 [(0, .ref (base + 70)), (1, .ref (base + 1)), (2, .int a2)] [] := by
  unfold f_X0_isThrough_70_1 at h
  refine g_aload_n (pc' := 1) C dX0_isThrough_0 0 rfl rfl ?_
  refine g_aload_n (pc' := 2) C dX0_isThrough_1 1 rfl rfl ?_
  refine g_iload_n (pc' := 3) C dX0_isThrough_2 2 rfl rfl ?_
  refine g_aload_n (pc' := 4) C dX0_isThrough_3 1 rfl rfl ?_
  refine gg_X0_58 (pc' := 7) (o := 1) (r := 2) C rfl rfl dX0_isThrough_4 rfl ?_
  refine g_iload_n (pc' := 8) C dX0_isThrough_7 2 rfl rfl ?_
  obtain ⟨h1, h⟩ := chk_some h
  refine g_aald (pc' := 9) C (o := 2) (by decide) rfl (cn := "ClashRocks$Pair") rfl h1 dX0_isThrough_8 rfl ?_
  obtain ⟨h2, h⟩ := chk_some h
  refine gg_X0_40 (pc' := 12) (o := 9 + a2.toNatClampNeg) C h2 dX0_isThrough_9 rfl ?_
  obtain ⟨q3, h4, h⟩ := bind_some h
  refine g_callVi (pc' := 15) (res := q3) C [.ref (base + 1), .int a2, .int (rF σ (9 + a2.toNatClampNeg) 4)] cY_X0_isThroughBy rfl (o := 70) (by decide) rfl mv_X0_isThroughBy mm_X0_69 ⟨Nat.le_trans (by decide) hR.1, Nat.le_trans (by decide) hR.2⟩ rfl (Nat.le_of_ble_eq_true rfl) rfl dX0_isThrough_12 (c_X0_isThroughBy_70_1 l base D cA σ a2 (rF σ (9 + a2.toNatClampNeg) 4) q3 h4) rfl ?_
  obtain ⟨h5, h⟩ := chk_some h
  exact g_zret C hr (isB_n h5) dX0_isThrough_15 h
theorem c_X0_isThrough_70_1 (l : Launch) (base : Nat) (D : va_G) (cA : Nat → ClassId) (σ : cr_S) (a2 : Int32) (res : cr_S × Int32) (h : f_X0_isThrough_70_1 σ a2 = some res) : cr_M l yX0_isThrough cX0_isThrough 3 (some .boolean) 4 91 sfC 97 base D cA [.ref (base + 70), .ref (base + 1), .int a2] σ (cr_Qi sfC 97 base D cA res) := by
  refine cr_enter [.ref (base + 70), .ref (base + 1), .int a2] [(0, .ref (base + 70)), (1, .ref (base + 1)), (2, .int a2)] (by decide) (Nat.le_of_ble_eq_true rfl) rfl ?_
  intro p e R s m below meth c C hr hR
  exact w_X0_isThrough_70_1 C hr hR σ a2 h
def f_X3_phaseBehind (σ : cr_S) (o0 : Nat) (a1 : Int32) : Option (cr_S × Int32) :=
  chk (kC o0 = 3) ((if (rF σ o0 2) ≤ 0 then chk (kC o0 = 3) (some (σ, rF σ o0 4)) else chk (kC o0 = 3) (chk (kC o0 = 3) (chk (kC o0 = 3) (chk (¬ (rF σ o0 2) = 0) (some (σ, (((rF σ o0 4) + (rF σ o0 2)) + a1) - (((rF σ o0 4) + (rF σ o0 2)) + a1) / (rF σ o0 2) * (rF σ o0 2))))))))
set_option maxRecDepth 100000 in
set_option maxHeartbeats 4000000 in
theorem w_X3_phaseBehind (C : cr_C p l e R s m args below meth c sfC 97 base D cA cX3_phaseBehind 2 RX3) (hr : meth.sig.returnType = some .int) (hR : 0 ≤ R.frames ∧ 0 ≤ R.locals) {res : cr_S × Int32} (σ : cr_S) (o0 : Nat) (a1 : Int32) (h : f_X3_phaseBehind σ o0 a1 = some res) : cr_W p l e R s m args below meth c sfC 97 base D cA 2 (MQ below (cr_Qi sfC 97 base D cA res) args s 0 0 (cr_A 97 base)) σ 0 [(0, .ref (base + o0)), (1, .int a1)] [] := by
  unfold f_X3_phaseBehind at h
  refine g_aload_n (pc' := 1) C dX3_phaseBehind_0 0 rfl rfl ?_
  obtain ⟨h1, h⟩ := chk_some h
  refine gg_X3_15 (pc' := 4) (o := o0) C h1 dX3_phaseBehind_1 rfl ?_
  refine g_if_le (pc' := 7) (tgt := 26) C dX3_phaseBehind_4 (by decide) rfl (fun hc => ?_) (fun hc => ?_)
  · rw [if_pos hc] at h
    refine g_aload_n (pc' := 27) C dX3_phaseBehind_26 0 rfl rfl ?_
    obtain ⟨h2, h⟩ := chk_some h
    refine gg_X3_24 (pc' := 30) (o := o0) C h2 dX3_phaseBehind_27 rfl ?_
    exact g_iret C hr dX3_phaseBehind_30 h
  · rw [if_neg hc] at h
    refine g_aload_n (pc' := 8) C dX3_phaseBehind_7 0 rfl rfl ?_
    obtain ⟨h3, h⟩ := chk_some h
    refine gg_X3_24 (pc' := 11) (o := o0) C h3 dX3_phaseBehind_8 rfl ?_
    refine g_aload_n (pc' := 12) C dX3_phaseBehind_11 0 rfl rfl ?_
    obtain ⟨h4, h⟩ := chk_some h
    refine gg_X3_15 (pc' := 15) (o := o0) C h4 dX3_phaseBehind_12 rfl ?_
    refine g_iadd (pc' := 16) C dX3_phaseBehind_15 rfl ?_
    refine g_iload_n (pc' := 17) C dX3_phaseBehind_16 1 rfl rfl ?_
    refine g_iadd (pc' := 18) C dX3_phaseBehind_17 rfl ?_
    refine g_aload_n (pc' := 19) C dX3_phaseBehind_18 0 rfl rfl ?_
    obtain ⟨h5, h⟩ := chk_some h
    refine gg_X3_15 (pc' := 22) (o := o0) C h5 dX3_phaseBehind_19 rfl ?_
    obtain ⟨h6, h⟩ := chk_some h
    refine g_irem (pc' := 23) C dX3_phaseBehind_22 h6 rfl ?_
    refine g_goto (tgt := 30) C dX3_phaseBehind_23 (by decide) ?_
    exact g_iret C hr dX3_phaseBehind_30 h
theorem c_X3_phaseBehind (l : Launch) (base : Nat) (D : va_G) (cA : Nat → ClassId) (σ : cr_S) (o0 : Nat) (a1 : Int32) (res : cr_S × Int32) (h : f_X3_phaseBehind σ o0 a1 = some res) : cr_M l yX3_phaseBehind cX3_phaseBehind 2 (some .int) 0 0 sfC 97 base D cA [.ref (base + o0), .int a1] σ (cr_Qi sfC 97 base D cA res) := by
  refine cr_enter [.ref (base + o0), .int a1] [(0, .ref (base + o0)), (1, .int a1)] (by decide) (Nat.le_of_ble_eq_true rfl) rfl ?_
  intro p e R s m below meth c C hr hR
  exact w_X3_phaseBehind C hr hR σ o0 a1 h
def f_X0_fogWeight_70_1_L4  : Nat → cr_S → Int32 → Int32 → Option (cr_S × Int32)
  | 0, _, _, _ => none
  | n + 1, σ, x2, x3 =>
    (if (rF σ 1 5) ≤ x3 then some (σ, x2) else (if x2 ≤ 0 then some (σ, x2) else chk (inb x3 6) (Option.bind (f_X0_isThrough_70_1 σ x3) (fun q2 => Option.bind (f_X10_oneIf q2.1 q2.2) (fun q4 => Option.bind (f_X3_phaseBehind q4.1 (9 + x3.toNatClampNeg) (-1)) (fun q6 => chk (kC (9 + x3.toNatClampNeg) = 3) (Option.bind (f_X0_isThroughBy_70_1 q6.1 x3 q6.2) (fun q9 => Option.bind (f_X10_oneIf q9.1 q9.2) (fun q11 => Option.bind (f_X3_phaseBehind q11.1 (9 + x3.toNatClampNeg) 1) (fun q13 => chk (kC (9 + x3.toNatClampNeg) = 3) (Option.bind (f_X0_isThroughBy_70_1 q13.1 x3 q13.2) (fun q16 => Option.bind (f_X10_oneIf q16.1 q16.2) (fun q18 => cr_let (x2 * (((2 * q4.2) + q11.2) + q18.2)) (fun v20 => cr_let (x3 + 1) (fun v22 => f_X0_fogWeight_70_1_L4 n q18.1 v20 v22)))))))))))))))
set_option maxRecDepth 100000 in
set_option maxHeartbeats 4000000 in
theorem w_X0_fogWeight_70_1_L4 (C : cr_C p l e R s m args below meth c sfC 97 base D cA cX0_fogWeight 5 RX0) (hr : meth.sig.returnType = some .int) (hR : 5 ≤ R.frames ∧ 113 ≤ R.locals) {res : cr_S × Int32}  : ∀ (n : Nat) (σ : cr_S) (x2 : Int32) (x3 : Int32), f_X0_fogWeight_70_1_L4 n σ x2 x3 = some res → cr_W p l e R s m args below meth c sfC 97 base D cA 5 (MQ below (cr_Qi sfC 97 base D cA res) args s 0 0 (cr_A 97 base)) σ 4 [(0, .ref (base + 70)), (1, .ref (base + 1)), (2, .int x2), (3, .int x3)] [] := by
  intro n
  induction n with
  | zero =>
    intro σ x2 x3 h
    cases h
  | succ n ih =>
    intro σ x2 x3 h
    rw [f_X0_fogWeight_70_1_L4] at h
    refine g_iload_n (pc' := 5) C dX0_fogWeight_4 3 rfl rfl ?_
    refine g_aload_n (pc' := 6) C dX0_fogWeight_5 1 rfl rfl ?_
    refine gg_X0_53 (pc' := 9) (o := 1) C rfl dX0_fogWeight_6 rfl ?_
    refine g_icmp_ge (pc' := 12) (tgt := 76) C dX0_fogWeight_9 (by decide) rfl (fun hc => ?_) (fun hc => ?_)
    · rw [if_pos hc] at h
      refine g_iload_n (pc' := 77) C dX0_fogWeight_76 2 rfl rfl ?_
      exact g_iret C hr dX0_fogWeight_77 h
    · rw [if_neg hc] at h
      refine g_iload_n (pc' := 13) C dX0_fogWeight_12 2 rfl rfl ?_
      refine g_if_le (pc' := 16) (tgt := 76) C dX0_fogWeight_13 (by decide) rfl (fun hc => ?_) (fun hc => ?_)
      · rw [if_pos hc] at h
        refine g_iload_n (pc' := 77) C dX0_fogWeight_76 2 rfl rfl ?_
        exact g_iret C hr dX0_fogWeight_77 h
      · rw [if_neg hc] at h
        refine g_aload_n (pc' := 17) C dX0_fogWeight_16 1 rfl rfl ?_
        refine gg_X0_58 (pc' := 20) (o := 1) (r := 2) C rfl rfl dX0_fogWeight_17 rfl ?_
        refine g_iload_n (pc' := 21) C dX0_fogWeight_20 3 rfl rfl ?_
        obtain ⟨h1, h⟩ := chk_some h
        refine g_aald (pc' := 22) C (o := 2) (by decide) rfl (cn := "ClashRocks$Pair") rfl h1 dX0_fogWeight_21 rfl ?_
        refine g_astore (pc' := 24) (lv' := [(4, .ref (base + (9 + x3.toNatClampNeg))), (0, .ref (base + 70)), (1, .ref (base + 1)), (2, .int x2), (3, .int x3)]) C dX0_fogWeight_22 (by decide) rfl rfl ?_
        refine g_iload_n (pc' := 25) C dX0_fogWeight_24 3 rfl rfl ?_
        refine g_iconst (pc' := 26) (v := 2) C dX0_fogWeight_25 (by decide) rfl ?_
        refine g_aload_n (pc' := 27) C dX0_fogWeight_26 1 rfl rfl ?_
        refine g_aload_n (pc' := 28) C dX0_fogWeight_27 2 rfl rfl ?_
        refine g_iload_n (pc' := 29) C dX0_fogWeight_28 4 rfl rfl ?_
        obtain ⟨q2, h3, h⟩ := bind_some h
        refine g_callVi (pc' := 32) (res := q2) C [.ref (base + 1), .int x3] cY_X0_isThrough rfl (o := 70) (by decide) rfl mv_X0_isThrough mm_X0_73 ⟨Nat.le_trans (by decide) hR.1, Nat.le_trans (by decide) hR.2⟩ rfl (Nat.le_of_ble_eq_true rfl) rfl dX0_fogWeight_29 (c_X0_isThrough_70_1 l base D cA σ x3 q2 h3) rfl ?_
        obtain ⟨q4, h5, h⟩ := bind_some h
        refine g_callNi (pc' := 35) (res := q4) C [.int q2.2] cY_X10_oneIf mv_X10_oneIf mn_X0_77 ⟨Nat.le_trans (by decide) hR.1, Nat.le_trans (by decide) hR.2⟩ rfl (Nat.le_of_ble_eq_true rfl) rfl dX0_fogWeight_32 (c_X10_oneIf l base D cA q2.1 q2.2 q4 h5) rfl ?_
        refine g_imul (pc' := 36) C dX0_fogWeight_35 rfl ?_
        refine g_aload_n (pc' := 37) C dX0_fogWeight_36 1 rfl rfl ?_
        refine g_aload_n (pc' := 38) C dX0_fogWeight_37 2 rfl rfl ?_
        refine g_iload_n (pc' := 39) C dX0_fogWeight_38 4 rfl rfl ?_
        refine g_aload (pc' := 41) C dX0_fogWeight_39 0 rfl rfl ?_
        refine g_iconst (pc' := 42) (v := (-1)) C dX0_fogWeight_41 (by decide) rfl ?_
        obtain ⟨q6, h7, h⟩ := bind_some h
        obtain ⟨h8, h⟩ := chk_some h
        refine g_callVi (pc' := 45) (res := q6) C [.int (-1)] cY_X3_phaseBehind rfl (o := 9 + x3.toNatClampNeg) (kC_lt h8 (by decide)) (sfC_3 h8) mv_X3_phaseBehind mm_X0_81 ⟨Nat.le_trans (by decide) hR.1, Nat.le_trans (by decide) hR.2⟩ rfl (Nat.le_of_ble_eq_true rfl) rfl dX0_fogWeight_42 (c_X3_phaseBehind l base D cA q4.1 (9 + x3.toNatClampNeg) (-1) q6 h7) rfl ?_
        obtain ⟨q9, h10, h⟩ := bind_some h
        refine g_callVi (pc' := 48) (res := q9) C [.ref (base + 1), .int x3, .int q6.2] cY_X0_isThroughBy rfl (o := 70) (by decide) rfl mv_X0_isThroughBy mm_X0_69 ⟨Nat.le_trans (by decide) hR.1, Nat.le_trans (by decide) hR.2⟩ rfl (Nat.le_of_ble_eq_true rfl) rfl dX0_fogWeight_45 (c_X0_isThroughBy_70_1 l base D cA q6.1 x3 q6.2 q9 h10) rfl ?_
        obtain ⟨q11, h12, h⟩ := bind_some h
        refine g_callNi (pc' := 51) (res := q11) C [.int q9.2] cY_X10_oneIf mv_X10_oneIf mn_X0_77 ⟨Nat.le_trans (by decide) hR.1, Nat.le_trans (by decide) hR.2⟩ rfl (Nat.le_of_ble_eq_true rfl) rfl dX0_fogWeight_48 (c_X10_oneIf l base D cA q9.1 q9.2 q11 h12) rfl ?_
        refine g_iadd (pc' := 52) C dX0_fogWeight_51 rfl ?_
        refine g_aload_n (pc' := 53) C dX0_fogWeight_52 1 rfl rfl ?_
        refine g_aload_n (pc' := 54) C dX0_fogWeight_53 2 rfl rfl ?_
        refine g_iload_n (pc' := 55) C dX0_fogWeight_54 4 rfl rfl ?_
        refine g_aload (pc' := 57) C dX0_fogWeight_55 0 rfl rfl ?_
        refine g_iconst (pc' := 58) (v := 1) C dX0_fogWeight_57 (by decide) rfl ?_
        obtain ⟨q13, h14, h⟩ := bind_some h
        obtain ⟨h15, h⟩ := chk_some h
        refine g_callVi (pc' := 61) (res := q13) C [.int 1] cY_X3_phaseBehind rfl (o := 9 + x3.toNatClampNeg) (kC_lt h15 (by decide)) (sfC_3 h15) mv_X3_phaseBehind mm_X0_81 ⟨Nat.le_trans (by decide) hR.1, Nat.le_trans (by decide) hR.2⟩ rfl (Nat.le_of_ble_eq_true rfl) rfl dX0_fogWeight_58 (c_X3_phaseBehind l base D cA q11.1 (9 + x3.toNatClampNeg) 1 q13 h14) rfl ?_
        obtain ⟨q16, h17, h⟩ := bind_some h
        refine g_callVi (pc' := 64) (res := q16) C [.ref (base + 1), .int x3, .int q13.2] cY_X0_isThroughBy rfl (o := 70) (by decide) rfl mv_X0_isThroughBy mm_X0_69 ⟨Nat.le_trans (by decide) hR.1, Nat.le_trans (by decide) hR.2⟩ rfl (Nat.le_of_ble_eq_true rfl) rfl dX0_fogWeight_61 (c_X0_isThroughBy_70_1 l base D cA q13.1 x3 q13.2 q16 h17) rfl ?_
        obtain ⟨q18, h19, h⟩ := bind_some h
        refine g_callNi (pc' := 67) (res := q18) C [.int q16.2] cY_X10_oneIf mv_X10_oneIf mn_X0_77 ⟨Nat.le_trans (by decide) hR.1, Nat.le_trans (by decide) hR.2⟩ rfl (Nat.le_of_ble_eq_true rfl) rfl dX0_fogWeight_64 (c_X10_oneIf l base D cA q16.1 q16.2 q18 h19) rfl ?_
        refine g_iadd (pc' := 68) C dX0_fogWeight_67 rfl ?_
        refine g_imul (pc' := 69) C dX0_fogWeight_68 rfl ?_
        obtain ⟨v20, e21, h⟩ := let_some h
        refine g_nameI e21 ?_
        refine g_istore_n (pc' := 70) (lv' := [(2, .int v20), (4, .ref (base + (9 + x3.toNatClampNeg))), (0, .ref (base + 70)), (1, .ref (base + 1)), (3, .int x3)]) C dX0_fogWeight_69 rfl (by decide) rfl rfl ?_
        obtain ⟨v22, e23, h⟩ := let_some h
        refine g_iinc (pc' := 73) (v := v22) (lv' := [(3, .int v22), (2, .int v20), (4, .ref (base + (9 + x3.toNatClampNeg))), (0, .ref (base + 70)), (1, .ref (base + 1))]) C dX0_fogWeight_70 4 rfl (by rw [e23]; rfl) (by decide) rfl rfl ?_
        refine g_goto (tgt := 4) C dX0_fogWeight_73 (by decide) ?_
        exact g_sub C [3, 4, 1, 0] rfl (ih _ _ _ h)
def f_X0_fogWeight_70_1 (σ : cr_S) : Option (cr_S × Int32) :=
  f_X0_fogWeight_70_1_L4 cr_fuel σ 1 0
set_option maxRecDepth 100000 in
set_option maxHeartbeats 4000000 in
theorem w_X0_fogWeight_70_1 (C : cr_C p l e R s m args below meth c sfC 97 base D cA cX0_fogWeight 5 RX0) (hr : meth.sig.returnType = some .int) (hR : 5 ≤ R.frames ∧ 113 ≤ R.locals) {res : cr_S × Int32} (σ : cr_S) (h : f_X0_fogWeight_70_1 σ = some res) : cr_W p l e R s m args below meth c sfC 97 base D cA 5 (MQ below (cr_Qi sfC 97 base D cA res) args s 0 0 (cr_A 97 base)) σ 0 [(0, .ref (base + 70)), (1, .ref (base + 1))] [] := by
  unfold f_X0_fogWeight_70_1 at h
  refine g_iconst (pc' := 1) (v := 1) C dX0_fogWeight_0 (by decide) rfl ?_
  refine g_istore_n (pc' := 2) (lv' := [(2, .int 1), (0, .ref (base + 70)), (1, .ref (base + 1))]) C dX0_fogWeight_1 rfl (by decide) rfl rfl ?_
  refine g_iconst (pc' := 3) (v := 0) C dX0_fogWeight_2 (by decide) rfl ?_
  refine g_istore_n (pc' := 4) (lv' := [(3, .int 0), (2, .int 1), (0, .ref (base + 70)), (1, .ref (base + 1))]) C dX0_fogWeight_3 rfl (by decide) rfl rfl ?_
  exact g_sub C [2, 3, 1, 0] rfl (w_X0_fogWeight_70_1_L4 C hr hR _ _ _ _ h)
theorem c_X0_fogWeight_70_1 (l : Launch) (base : Nat) (D : va_G) (cA : Nat → ClassId) (σ : cr_S) (res : cr_S × Int32) (h : f_X0_fogWeight_70_1 σ = some res) : cr_M l yX0_fogWeight cX0_fogWeight 5 (some .int) 5 113 sfC 97 base D cA [.ref (base + 70), .ref (base + 1)] σ (cr_Qi sfC 97 base D cA res) := by
  refine cr_enter [.ref (base + 70), .ref (base + 1)] [(0, .ref (base + 70)), (1, .ref (base + 1))] (by decide) (Nat.le_of_ble_eq_true rfl) rfl ?_
  intro p e R s m below meth c C hr hR
  exact w_X0_fogWeight_70_1 C hr hR σ h
def f_X10_fog_B102  (σ : cr_S) (x3 : Int32) (x4 : Int32) (x5 : Int32) : Option (cr_S × Int32) :=
  some (σ, if x3 = 0 then x4 else x5)
set_option maxRecDepth 100000 in
set_option maxHeartbeats 4000000 in
theorem w_X10_fog_B102 (C : cr_C p l e R s m args below meth c sfC 97 base D cA cX10_fog 6 RX10) (hr : meth.sig.returnType = some .int) (hR : 6 ≤ R.frames ∧ 137 ≤ R.locals) {res : cr_S × Int32}  (σ : cr_S) (x3 : Int32) (x4 : Int32) (x5 : Int32) (h : f_X10_fog_B102 σ x3 x4 x5 = some res) : cr_W p l e R s m args below meth c sfC 97 base D cA 6 (MQ below (cr_Qi sfC 97 base D cA res) args s 0 0 (cr_A 97 base)) σ 102 [(3, .int x3), (4, .int x4), (5, .int x5)] [] := by
  unfold f_X10_fog_B102 at h
  refine g_iload_n (pc' := 103) C dX10_fog_102 0 rfl rfl ?_
  refine g_iteI (σ := σ) (pj := 113) (lv := [(3, .int x3), (4, .int x4), (5, .int x5)]) (st := []) (cd := x3 = 0) (a := x4) (b := x5) C ?_ (fun kt kf => ?_)
  · exact g_iret C hr dX10_fog_113 h
  · refine g_if_ne (pc' := 106) (tgt := 111) C dX10_fog_103 (by decide) rfl (fun hc => ?_) (fun hc => ?_)
    · refine g_iload (pc' := 113) C dX10_fog_111 2 rfl rfl ?_
      exact kf hc
    · refine g_iload (pc' := 108) C dX10_fog_106 1 rfl rfl ?_
      refine g_goto (tgt := 113) C dX10_fog_108 (by decide) ?_
      exact kt hc
def f_X10_fog_L74  : Nat → cr_S → Int32 → Int32 → Int32 → Option (cr_S × Int32)
  | 0, _, _, _, _ => none
  | n + 1, σ, x3, x4, x5 =>
    (if (x4 - x4 / 2 * 2) = 0 then (if x5 ≤ 1 then f_X10_fog_B102 σ x3 x4 x5 else cr_let (x4 / 2) (fun v14 => cr_let (x5 / 2) (fun v16 => f_X10_fog_L74 n σ x3 v14 v16))) else f_X10_fog_B102 σ x3 x4 x5)
set_option maxRecDepth 100000 in
set_option maxHeartbeats 4000000 in
theorem w_X10_fog_L74 (C : cr_C p l e R s m args below meth c sfC 97 base D cA cX10_fog 6 RX10) (hr : meth.sig.returnType = some .int) (hR : 6 ≤ R.frames ∧ 137 ≤ R.locals) {res : cr_S × Int32}  : ∀ (n : Nat) (σ : cr_S) (x3 : Int32) (x4 : Int32) (x5 : Int32), f_X10_fog_L74 n σ x3 x4 x5 = some res → cr_W p l e R s m args below meth c sfC 97 base D cA 6 (MQ below (cr_Qi sfC 97 base D cA res) args s 0 0 (cr_A 97 base)) σ 74 [(3, .int x3), (4, .int x4), (5, .int x5)] [] := by
  intro n
  induction n with
  | zero =>
    intro σ x3 x4 x5 h
    cases h
  | succ n ih =>
    intro σ x3 x4 x5 h
    rw [f_X10_fog_L74] at h
    refine g_iload (pc' := 76) C dX10_fog_74 1 rfl rfl ?_
    refine g_iconst (pc' := 77) (v := 2) C dX10_fog_76 (by decide) rfl ?_
    refine g_irem (pc' := 78) C dX10_fog_77 (by decide) rfl ?_
    refine g_if_ne (pc' := 81) (tgt := 102) C dX10_fog_78 (by decide) rfl (fun hc => ?_) (fun hc => ?_)
    · rw [if_neg hc] at h
      exact g_sub C [0, 1, 2] rfl (w_X10_fog_B102 C hr hR _ _ _ _ h)
    · rw [if_pos hc] at h
      refine g_iload (pc' := 83) C dX10_fog_81 2 rfl rfl ?_
      refine g_iconst (pc' := 84) (v := 1) C dX10_fog_83 (by decide) rfl ?_
      refine g_icmp_le (pc' := 87) (tgt := 102) C dX10_fog_84 (by decide) rfl (fun hc => ?_) (fun hc => ?_)
      · rw [if_pos hc] at h
        exact g_sub C [0, 1, 2] rfl (w_X10_fog_B102 C hr hR _ _ _ _ h)
      · rw [if_neg hc] at h
        refine g_iload (pc' := 89) C dX10_fog_87 1 rfl rfl ?_
        refine g_iconst (pc' := 90) (v := 2) C dX10_fog_89 (by decide) rfl ?_
        refine g_idiv (pc' := 91) C dX10_fog_90 (by decide) rfl ?_
        obtain ⟨v14, e15, h⟩ := let_some h
        refine g_nameI e15 ?_
        refine g_istore (pc' := 93) (lv' := [(4, .int v14), (3, .int x3), (5, .int x5)]) C dX10_fog_91 (by decide) rfl rfl ?_
        refine g_iload (pc' := 95) C dX10_fog_93 2 rfl rfl ?_
        refine g_iconst (pc' := 96) (v := 2) C dX10_fog_95 (by decide) rfl ?_
        refine g_idiv (pc' := 97) C dX10_fog_96 (by decide) rfl ?_
        obtain ⟨v16, e17, h⟩ := let_some h
        refine g_nameI e17 ?_
        refine g_istore (pc' := 99) (lv' := [(5, .int v16), (4, .int v14), (3, .int x3)]) C dX10_fog_97 (by decide) rfl rfl ?_
        refine g_goto (tgt := 74) C dX10_fog_99 (by decide) ?_
        exact g_sub C [2, 1, 0] rfl (ih _ _ _ _ h)
def f_X10_fog (σ : cr_S) (a1 : Int32) (a2 : Int32) (a3 : Int32) : Option (cr_S × Int32) :=
  Option.bind (f_X10_isBegin σ a1 a2) (fun q1 => (if q1.2 = 0 then some (q1.1, (-1)) else Option.bind (f_X10_isWithin q1.1 a3 0 1) (fun q3 => (if q3.2 = 0 then some (q3.1, (-1)) else chk (inb a1 5) (Option.bind (f_X0_planFull_70_1 q3.1 (15 + a1.toNatClampNeg) a2) (fun q6 => Option.bind (f_X0_fogWeight_70_1 q6) (fun q8 => cr_let q8.2 (fun v10 => (if v10 = 0 then some (q8.1, a3) else cr_let (1 <<< ((2 * (rF q8.1 1 5)) &&& 31)) (fun v12 => f_X10_fog_L74 cr_fuel q8.1 a3 v10 v12))))))))))
set_option maxRecDepth 100000 in
set_option maxHeartbeats 4000000 in
theorem w_X10_fog (C : cr_C p l e R s m args below meth c sfC 97 base D cA cX10_fog 6 RX10) (hr : meth.sig.returnType = some .int) (hR : 6 ≤ R.frames ∧ 137 ≤ R.locals) {res : cr_S × Int32} (σ : cr_S) (a1 : Int32) (a2 : Int32) (a3 : Int32) (h : f_X10_fog σ a1 a2 a3 = some res) : cr_W p l e R s m args below meth c sfC 97 base D cA 6 (MQ below (cr_Qi sfC 97 base D cA res) args s 0 0 (cr_A 97 base)) σ 0 [(0, .ref (base + 0)), (1, .int a1), (2, .int a2), (3, .int a3)] [] := by
  unfold f_X10_fog at h
  refine g_aload_n (pc' := 1) C dX10_fog_0 0 rfl rfl ?_
  refine g_iload_n (pc' := 2) C dX10_fog_1 1 rfl rfl ?_
  refine g_iload_n (pc' := 3) C dX10_fog_2 2 rfl rfl ?_
  obtain ⟨q1, h2, h⟩ := bind_some h
  refine g_callVi (pc' := 6) (res := q1) C [.int a1, .int a2] cY_X10_isBegin rfl (o := 0) (by decide) rfl mv_X10_isBegin mm_X10_206 ⟨Nat.le_trans (by decide) hR.1, Nat.le_trans (by decide) hR.2⟩ rfl (Nat.le_of_ble_eq_true rfl) rfl dX10_fog_3 (c_X10_isBegin l base D cA σ a1 a2 q1 h2) rfl ?_
  refine g_if_eq (pc' := 9) (tgt := 18) C dX10_fog_6 (by decide) rfl (fun hc => ?_) (fun hc => ?_)
  · rw [if_pos hc] at h
    refine g_iconst (pc' := 19) (v := (-1)) C dX10_fog_18 (by decide) rfl ?_
    exact g_iret C hr dX10_fog_19 h
  · rw [if_neg hc] at h
    refine g_iload_n (pc' := 10) C dX10_fog_9 3 rfl rfl ?_
    refine g_iconst (pc' := 11) (v := 0) C dX10_fog_10 (by decide) rfl ?_
    refine g_iconst (pc' := 12) (v := 1) C dX10_fog_11 (by decide) rfl ?_
    obtain ⟨q3, h4, h⟩ := bind_some h
    refine g_callSi (pc' := 15) (res := q3) C [.int a3, .int 0, .int 1] cY_X10_isWithin mv_X10_isWithin mm_X10_54 ⟨Nat.le_trans (by decide) hR.1, Nat.le_trans (by decide) hR.2⟩ rfl (Nat.le_of_ble_eq_true rfl) rfl dX10_fog_12 (c_X10_isWithin l base D cA q1.1 a3 0 1 q3 h4) rfl ?_
    refine g_if_ne (pc' := 18) (tgt := 20) C dX10_fog_15 (by decide) rfl (fun hc => ?_) (fun hc => ?_)
    · rw [if_neg hc] at h
      refine g_aload_n (pc' := 21) C dX10_fog_20 0 rfl rfl ?_
      refine gg_X10_29 (pc' := 24) (o := 0) (r := 70) C rfl rfl dX10_fog_21 rfl ?_
      refine g_aload_n (pc' := 25) C dX10_fog_24 0 rfl rfl ?_
      refine gg_X10_12 (pc' := 28) (o := 0) (r := 1) C rfl rfl dX10_fog_25 rfl ?_
      refine g_aload_n (pc' := 29) C dX10_fog_28 0 rfl rfl ?_
      refine gg_X10_12 (pc' := 32) (o := 0) (r := 1) C rfl rfl dX10_fog_29 rfl ?_
      refine gg_X10_85 (pc' := 35) (o := 1) (r := 3) C rfl rfl dX10_fog_32 rfl ?_
      refine g_iload_n (pc' := 36) C dX10_fog_35 1 rfl rfl ?_
      obtain ⟨h5, h⟩ := chk_some h
      refine g_aald (pc' := 37) C (o := 3) (by decide) rfl (cn := "ClashRocks$Ship") rfl h5 dX10_fog_36 rfl ?_
      refine g_iload_n (pc' := 38) C dX10_fog_37 2 rfl rfl ?_
      obtain ⟨q6, h7, h⟩ := bind_some h
      refine g_callVv (pc' := 41) (res := q6) C [.ref (base + 1), .ref (base + (15 + a1.toNatClampNeg)), .int a2] cY_X0_planFull rfl (o := 70) (by decide) rfl mv_X0_planFull mm_X10_229 ⟨Nat.le_trans (by decide) hR.1, Nat.le_trans (by decide) hR.2⟩ rfl (Nat.le_of_ble_eq_true rfl) rfl dX10_fog_38 (c_X0_planFull_70_1 l base D cA q3.1 (15 + a1.toNatClampNeg) a2 q6 h7) rfl ?_
      refine g_aload_n (pc' := 42) C dX10_fog_41 0 rfl rfl ?_
      refine gg_X10_29 (pc' := 45) (o := 0) (r := 70) C rfl rfl dX10_fog_42 rfl ?_
      refine g_aload_n (pc' := 46) C dX10_fog_45 0 rfl rfl ?_
      refine gg_X10_12 (pc' := 49) (o := 0) (r := 1) C rfl rfl dX10_fog_46 rfl ?_
      obtain ⟨q8, h9, h⟩ := bind_some h
      refine g_callVi (pc' := 52) (res := q8) C [.ref (base + 1)] cY_X0_fogWeight rfl (o := 70) (by decide) rfl mv_X0_fogWeight mm_X10_232 ⟨Nat.le_trans (by decide) hR.1, Nat.le_trans (by decide) hR.2⟩ rfl (Nat.le_of_ble_eq_true rfl) rfl dX10_fog_49 (c_X0_fogWeight_70_1 l base D cA q6 q8 h9) rfl ?_
      obtain ⟨v10, e11, h⟩ := let_some h
      refine g_nameI e11 ?_
      refine g_istore (pc' := 54) (lv' := [(4, .int v10), (0, .ref (base + 0)), (1, .int a1), (2, .int a2), (3, .int a3)]) C dX10_fog_52 (by decide) rfl rfl ?_
      refine g_iload (pc' := 56) C dX10_fog_54 0 rfl rfl ?_
      refine g_if_ne (pc' := 59) (tgt := 61) C dX10_fog_56 (by decide) rfl (fun hc => ?_) (fun hc => ?_)
      · rw [if_neg hc] at h
        refine g_iconst (pc' := 62) (v := 1) C dX10_fog_61 (by decide) rfl ?_
        refine g_iconst (pc' := 63) (v := 2) C dX10_fog_62 (by decide) rfl ?_
        refine g_aload_n (pc' := 64) C dX10_fog_63 1 rfl rfl ?_
        refine gg_X10_12 (pc' := 67) (o := 0) (r := 1) C rfl rfl dX10_fog_64 rfl ?_
        refine gg_X10_58 (pc' := 70) (o := 1) C rfl dX10_fog_67 rfl ?_
        refine g_imul (pc' := 71) C dX10_fog_70 rfl ?_
        refine g_ishl (pc' := 72) C dX10_fog_71 rfl ?_
        obtain ⟨v12, e13, h⟩ := let_some h
        refine g_nameI e13 ?_
        refine g_istore (pc' := 74) (lv' := [(5, .int v12), (4, .int v10), (0, .ref (base + 0)), (1, .int a1), (2, .int a2), (3, .int a3)]) C dX10_fog_72 (by decide) rfl rfl ?_
        exact g_sub C [5, 1, 0] rfl (w_X10_fog_L74 C hr hR _ _ _ _ _ h)
      · rw [if_pos hc] at h
        refine g_iload_n (pc' := 60) C dX10_fog_59 4 rfl rfl ?_
        exact g_iret C hr dX10_fog_60 h
    · rw [if_pos hc] at h
      refine g_iconst (pc' := 19) (v := (-1)) C dX10_fog_18 (by decide) rfl ?_
      exact g_iret C hr dX10_fog_19 h
theorem c_X10_fog (l : Launch) (base : Nat) (D : va_G) (cA : Nat → ClassId) (σ : cr_S) (a1 : Int32) (a2 : Int32) (a3 : Int32) (res : cr_S × Int32) (h : f_X10_fog σ a1 a2 a3 = some res) : cr_M l yX10_fog cX10_fog 6 (some .int) 6 137 sfC 97 base D cA [.ref (base + 0), .int a1, .int a2, .int a3] σ (cr_Qi sfC 97 base D cA res) := by
  refine cr_enter [.ref (base + 0), .int a1, .int a2, .int a3] [(0, .ref (base + 0)), (1, .int a1), (2, .int a2), (3, .int a3)] (by decide) (Nat.le_of_ble_eq_true rfl) rfl ?_
  intro p e R s m below meth c C hr hR
  exact w_X10_fog C hr hR σ a1 a2 a3 h
def f_X10_sure_B77 (r19 : cr_S → Int32 → Int32 → Int32 → Int32 → Int32 → Option (cr_S × Int32)) (σ : cr_S) (x1 : Int32) (x2 : Int32) (x3 : Int32) (x4 : Int32) (x5 : Int32) : Option (cr_S × Int32) :=
  cr_let (x5 + 1) (fun v10 => r19 σ x1 x2 x3 x4 v10)
set_option maxRecDepth 100000 in
set_option maxHeartbeats 4000000 in
theorem w_X10_sure_B77 (C : cr_C p l e R s m args below meth c sfC 97 base D cA cX10_sure 7 RX10) (hr : meth.sig.returnType = some .int) (hR : 6 ≤ R.frames ∧ 137 ≤ R.locals) {res : cr_S × Int32} (r19 : cr_S → Int32 → Int32 → Int32 → Int32 → Int32 → Option (cr_S × Int32)) (hr19 : ∀ (σ : cr_S) (x1 : Int32) (x2 : Int32) (x3 : Int32) (x4 : Int32) (x5 : Int32), r19 σ x1 x2 x3 x4 x5 = some res → cr_W p l e R s m args below meth c sfC 97 base D cA 7 (MQ below (cr_Qi sfC 97 base D cA res) args s 0 0 (cr_A 97 base)) σ 19 [(0, .ref (base + 0)), (1, .int x1), (2, .int x2), (3, .int x3), (4, .int x4), (5, .int x5)] []) (σ : cr_S) (x1 : Int32) (x2 : Int32) (x3 : Int32) (x4 : Int32) (x5 : Int32) (h : f_X10_sure_B77 r19 σ x1 x2 x3 x4 x5 = some res) : cr_W p l e R s m args below meth c sfC 97 base D cA 7 (MQ below (cr_Qi sfC 97 base D cA res) args s 0 0 (cr_A 97 base)) σ 77 [(0, .ref (base + 0)), (1, .int x1), (2, .int x2), (3, .int x3), (4, .int x4), (5, .int x5)] [] := by
  unfold f_X10_sure_B77 at h
  obtain ⟨v10, e11, h⟩ := let_some h
  refine g_iinc (pc' := 80) (v := v10) (lv' := [(5, .int v10), (0, .ref (base + 0)), (1, .int x1), (2, .int x2), (3, .int x3), (4, .int x4)]) C dX10_sure_77 5 rfl (by rw [e11]; rfl) (by decide) rfl rfl ?_
  refine g_goto (tgt := 19) C dX10_sure_80 (by decide) ?_
  exact g_sub C [1, 2, 3, 4, 5, 0] rfl (hr19 _ _ _ _ _ _ h)
def f_X10_sure_L19  : Nat → cr_S → Int32 → Int32 → Int32 → Int32 → Int32 → Option (cr_S × Int32)
  | 0, _, _, _, _, _, _ => none
  | n + 1, σ, x1, x2, x3, x4, x5 =>
    (if (x2 + 60) ≤ x5 then some (σ, x3) else chk (inb x1 5) (Option.bind (f_X0_planFull_70_1 σ (15 + x1.toNatClampNeg) x5) (fun q4 => Option.bind (f_X0_fogWeight_70_1 q4) (fun q6 => cr_let q6.2 (fun v8 => (if v8 ≤ x4 then f_X10_sure_B77 (f_X10_sure_L19 n) q6.1 x1 x2 x3 x4 x5 else f_X10_sure_B77 (f_X10_sure_L19 n) q6.1 x1 x2 x5 v8 x5))))))
set_option maxRecDepth 100000 in
set_option maxHeartbeats 4000000 in
theorem w_X10_sure_L19 (C : cr_C p l e R s m args below meth c sfC 97 base D cA cX10_sure 7 RX10) (hr : meth.sig.returnType = some .int) (hR : 6 ≤ R.frames ∧ 137 ≤ R.locals) {res : cr_S × Int32}  : ∀ (n : Nat) (σ : cr_S) (x1 : Int32) (x2 : Int32) (x3 : Int32) (x4 : Int32) (x5 : Int32), f_X10_sure_L19 n σ x1 x2 x3 x4 x5 = some res → cr_W p l e R s m args below meth c sfC 97 base D cA 7 (MQ below (cr_Qi sfC 97 base D cA res) args s 0 0 (cr_A 97 base)) σ 19 [(0, .ref (base + 0)), (1, .int x1), (2, .int x2), (3, .int x3), (4, .int x4), (5, .int x5)] [] := by
  intro n
  induction n with
  | zero =>
    intro σ x1 x2 x3 x4 x5 h
    cases h
  | succ n ih =>
    intro σ x1 x2 x3 x4 x5 h
    rw [f_X10_sure_L19] at h
    refine g_iload (pc' := 21) C dX10_sure_19 5 rfl rfl ?_
    refine g_iload_n (pc' := 22) C dX10_sure_21 2 rfl rfl ?_
    refine g_bipush (pc' := 24) (v := 60) C dX10_sure_22 (by decide) rfl ?_
    refine g_iadd (pc' := 25) C dX10_sure_24 rfl ?_
    refine g_icmp_ge (pc' := 28) (tgt := 83) C dX10_sure_25 (by decide) rfl (fun hc => ?_) (fun hc => ?_)
    · rw [if_pos hc] at h
      refine g_iload_n (pc' := 84) C dX10_sure_83 3 rfl rfl ?_
      exact g_iret C hr dX10_sure_84 h
    · rw [if_neg hc] at h
      refine g_aload_n (pc' := 29) C dX10_sure_28 0 rfl rfl ?_
      refine gg_X10_29 (pc' := 32) (o := 0) (r := 70) C rfl rfl dX10_sure_29 rfl ?_
      refine g_aload_n (pc' := 33) C dX10_sure_32 0 rfl rfl ?_
      refine gg_X10_12 (pc' := 36) (o := 0) (r := 1) C rfl rfl dX10_sure_33 rfl ?_
      refine g_aload_n (pc' := 37) C dX10_sure_36 0 rfl rfl ?_
      refine gg_X10_12 (pc' := 40) (o := 0) (r := 1) C rfl rfl dX10_sure_37 rfl ?_
      refine gg_X10_85 (pc' := 43) (o := 1) (r := 3) C rfl rfl dX10_sure_40 rfl ?_
      refine g_iload_n (pc' := 44) C dX10_sure_43 1 rfl rfl ?_
      obtain ⟨h3, h⟩ := chk_some h
      refine g_aald (pc' := 45) C (o := 3) (by decide) rfl (cn := "ClashRocks$Ship") rfl h3 dX10_sure_44 rfl ?_
      refine g_iload (pc' := 47) C dX10_sure_45 5 rfl rfl ?_
      obtain ⟨q4, h5, h⟩ := bind_some h
      refine g_callVv (pc' := 50) (res := q4) C [.ref (base + 1), .ref (base + (15 + x1.toNatClampNeg)), .int x5] cY_X0_planFull rfl (o := 70) (by decide) rfl mv_X0_planFull mm_X10_229 ⟨Nat.le_trans (by decide) hR.1, Nat.le_trans (by decide) hR.2⟩ rfl (Nat.le_of_ble_eq_true rfl) rfl dX10_sure_47 (c_X0_planFull_70_1 l base D cA σ (15 + x1.toNatClampNeg) x5 q4 h5) rfl ?_
      refine g_aload_n (pc' := 51) C dX10_sure_50 0 rfl rfl ?_
      refine gg_X10_29 (pc' := 54) (o := 0) (r := 70) C rfl rfl dX10_sure_51 rfl ?_
      refine g_aload_n (pc' := 55) C dX10_sure_54 0 rfl rfl ?_
      refine gg_X10_12 (pc' := 58) (o := 0) (r := 1) C rfl rfl dX10_sure_55 rfl ?_
      obtain ⟨q6, h7, h⟩ := bind_some h
      refine g_callVi (pc' := 61) (res := q6) C [.ref (base + 1)] cY_X0_fogWeight rfl (o := 70) (by decide) rfl mv_X0_fogWeight mm_X10_232 ⟨Nat.le_trans (by decide) hR.1, Nat.le_trans (by decide) hR.2⟩ rfl (Nat.le_of_ble_eq_true rfl) rfl dX10_sure_58 (c_X0_fogWeight_70_1 l base D cA q4 q6 h7) rfl ?_
      obtain ⟨v8, e9, h⟩ := let_some h
      refine g_nameI e9 ?_
      refine g_istore (pc' := 63) (lv' := [(6, .int v8), (0, .ref (base + 0)), (1, .int x1), (2, .int x2), (3, .int x3), (4, .int x4), (5, .int x5)]) C dX10_sure_61 (by decide) rfl rfl ?_
      refine g_iload (pc' := 65) C dX10_sure_63 0 rfl rfl ?_
      refine g_iload (pc' := 67) C dX10_sure_65 5 rfl rfl ?_
      refine g_icmp_le (pc' := 70) (tgt := 77) C dX10_sure_67 (by decide) rfl (fun hc => ?_) (fun hc => ?_)
      · rw [if_pos hc] at h
        exact g_sub C [1, 2, 3, 4, 5, 6] rfl (w_X10_sure_B77 C hr hR (f_X10_sure_L19 n) ih _ _ _ _ _ _ h)
      · rw [if_neg hc] at h
        refine g_iload (pc' := 72) C dX10_sure_70 0 rfl rfl ?_
        refine g_istore (pc' := 74) (lv' := [(4, .int v8), (6, .int v8), (0, .ref (base + 0)), (1, .int x1), (2, .int x2), (3, .int x3), (5, .int x5)]) C dX10_sure_72 (by decide) rfl rfl ?_
        refine g_iload (pc' := 76) C dX10_sure_74 6 rfl rfl ?_
        refine g_istore_n (pc' := 77) (lv' := [(3, .int x5), (4, .int v8), (6, .int v8), (0, .ref (base + 0)), (1, .int x1), (2, .int x2), (5, .int x5)]) C dX10_sure_76 rfl (by decide) rfl rfl ?_
        exact g_sub C [3, 4, 5, 0, 1, 6] rfl (w_X10_sure_B77 C hr hR (f_X10_sure_L19 n) ih _ _ _ _ _ _ h)
def f_X10_sure (σ : cr_S) (a1 : Int32) (a2 : Int32) : Option (cr_S × Int32) :=
  Option.bind (f_X10_isBegin σ a1 a2) (fun q1 => (if q1.2 = 0 then some (q1.1, (-1)) else f_X10_sure_L19 cr_fuel q1.1 a1 a2 a2 (-1) a2))
set_option maxRecDepth 100000 in
set_option maxHeartbeats 4000000 in
theorem w_X10_sure (C : cr_C p l e R s m args below meth c sfC 97 base D cA cX10_sure 7 RX10) (hr : meth.sig.returnType = some .int) (hR : 6 ≤ R.frames ∧ 137 ≤ R.locals) {res : cr_S × Int32} (σ : cr_S) (a1 : Int32) (a2 : Int32) (h : f_X10_sure σ a1 a2 = some res) : cr_W p l e R s m args below meth c sfC 97 base D cA 7 (MQ below (cr_Qi sfC 97 base D cA res) args s 0 0 (cr_A 97 base)) σ 0 [(0, .ref (base + 0)), (1, .int a1), (2, .int a2)] [] := by
  unfold f_X10_sure at h
  refine g_aload_n (pc' := 1) C dX10_sure_0 0 rfl rfl ?_
  refine g_iload_n (pc' := 2) C dX10_sure_1 1 rfl rfl ?_
  refine g_iload_n (pc' := 3) C dX10_sure_2 2 rfl rfl ?_
  obtain ⟨q1, h2, h⟩ := bind_some h
  refine g_callVi (pc' := 6) (res := q1) C [.int a1, .int a2] cY_X10_isBegin rfl (o := 0) (by decide) rfl mv_X10_isBegin mm_X10_206 ⟨Nat.le_trans (by decide) hR.1, Nat.le_trans (by decide) hR.2⟩ rfl (Nat.le_of_ble_eq_true rfl) rfl dX10_sure_3 (c_X10_isBegin l base D cA σ a1 a2 q1 h2) rfl ?_
  refine g_if_ne (pc' := 9) (tgt := 11) C dX10_sure_6 (by decide) rfl (fun hc => ?_) (fun hc => ?_)
  · rw [if_neg hc] at h
    refine g_iload_n (pc' := 12) C dX10_sure_11 2 rfl rfl ?_
    refine g_istore_n (pc' := 13) (lv' := [(3, .int a2), (0, .ref (base + 0)), (1, .int a1), (2, .int a2)]) C dX10_sure_12 rfl (by decide) rfl rfl ?_
    refine g_iconst (pc' := 14) (v := (-1)) C dX10_sure_13 (by decide) rfl ?_
    refine g_istore (pc' := 16) (lv' := [(4, .int (-1)), (3, .int a2), (0, .ref (base + 0)), (1, .int a1), (2, .int a2)]) C dX10_sure_14 (by decide) rfl rfl ?_
    refine g_iload_n (pc' := 17) C dX10_sure_16 4 rfl rfl ?_
    refine g_istore (pc' := 19) (lv' := [(5, .int a2), (4, .int (-1)), (3, .int a2), (0, .ref (base + 0)), (1, .int a1), (2, .int a2)]) C dX10_sure_17 (by decide) rfl rfl ?_
    exact g_sub C [3, 4, 5, 2, 1, 0] rfl (w_X10_sure_L19 C hr hR _ _ _ _ _ _ _ h)
  · rw [if_pos hc] at h
    refine g_iconst (pc' := 10) (v := (-1)) C dX10_sure_9 (by decide) rfl ?_
    exact g_iret C hr dX10_sure_10 h
theorem c_X10_sure (l : Launch) (base : Nat) (D : va_G) (cA : Nat → ClassId) (σ : cr_S) (a1 : Int32) (a2 : Int32) (res : cr_S × Int32) (h : f_X10_sure σ a1 a2 = some res) : cr_M l yX10_sure cX10_sure 7 (some .int) 6 137 sfC 97 base D cA [.ref (base + 0), .int a1, .int a2] σ (cr_Qi sfC 97 base D cA res) := by
  refine cr_enter [.ref (base + 0), .int a1, .int a2] [(0, .ref (base + 0)), (1, .int a1), (2, .int a2)] (by decide) (Nat.le_of_ble_eq_true rfl) rfl ?_
  intro p e R s m below meth c C hr hR
  exact w_X10_sure C hr hR σ a1 a2 h
def f_X0_fewestStones_70_1_L10  : Nat → cr_S → Int32 → Nat → Int32 → Option (cr_S × Int32)
  | 0, _, _, _, _ => none
  | n + 1, σ, x2, x3, x4 =>
    chk (kC x3 = 3) ((if (rF σ x3 2) ≤ x4 then some (σ, (-4)) else Option.bind (f_X3_phaseBehind σ x3 (-x4)) (fun q3 => chk (kC x3 = 3) (Option.bind (f_X0_isThroughBy_70_1 q3.1 x2 q3.2) (fun q6 => (if q6.2 = 0 then cr_let (x4 + 1) (fun v8 => f_X0_fewestStones_70_1_L10 n q6.1 x2 x3 v8) else some (q6.1, x4)))))))
set_option maxRecDepth 100000 in
set_option maxHeartbeats 4000000 in
theorem w_X0_fewestStones_70_1_L10 (C : cr_C p l e R s m args below meth c sfC 97 base D cA cX0_fewestStones 5 RX0) (hr : meth.sig.returnType = some .int) (hR : 4 ≤ R.frames ∧ 91 ≤ R.locals) {res : cr_S × Int32}  : ∀ (n : Nat) (σ : cr_S) (x2 : Int32) (x3 : Nat) (x4 : Int32), f_X0_fewestStones_70_1_L10 n σ x2 x3 x4 = some res → cr_W p l e R s m args below meth c sfC 97 base D cA 5 (MQ below (cr_Qi sfC 97 base D cA res) args s 0 0 (cr_A 97 base)) σ 10 [(0, .ref (base + 70)), (1, .ref (base + 1)), (2, .int x2), (3, .ref (base + x3)), (4, .int x4)] [] := by
  intro n
  induction n with
  | zero =>
    intro σ x2 x3 x4 h
    cases h
  | succ n ih =>
    intro σ x2 x3 x4 h
    rw [f_X0_fewestStones_70_1_L10] at h
    refine g_iload (pc' := 12) C dX0_fewestStones_10 4 rfl rfl ?_
    refine g_aload_n (pc' := 13) C dX0_fewestStones_12 3 rfl rfl ?_
    obtain ⟨h2, h⟩ := chk_some h
    refine gg_X0_85 (pc' := 16) (o := x3) C h2 dX0_fewestStones_13 rfl ?_
    refine g_icmp_ge (pc' := 19) (tgt := 44) C dX0_fewestStones_16 (by decide) rfl (fun hc => ?_) (fun hc => ?_)
    · rw [if_pos hc] at h
      refine g_bipush (pc' := 46) (v := (-4)) C dX0_fewestStones_44 (by decide) rfl ?_
      exact g_iret C hr dX0_fewestStones_46 h
    · rw [if_neg hc] at h
      refine g_aload_n (pc' := 20) C dX0_fewestStones_19 0 rfl rfl ?_
      refine g_aload_n (pc' := 21) C dX0_fewestStones_20 1 rfl rfl ?_
      refine g_iload_n (pc' := 22) C dX0_fewestStones_21 2 rfl rfl ?_
      refine g_aload_n (pc' := 23) C dX0_fewestStones_22 3 rfl rfl ?_
      refine g_iload (pc' := 25) C dX0_fewestStones_23 4 rfl rfl ?_
      refine g_ineg (pc' := 26) C dX0_fewestStones_25 rfl ?_
      obtain ⟨q3, h4, h⟩ := bind_some h
      obtain ⟨h5, h⟩ := chk_some h
      refine g_callVi (pc' := 29) (res := q3) C [.int (-x4)] cY_X3_phaseBehind rfl (o := x3) (kC_lt h5 (by decide)) (sfC_3 h5) mv_X3_phaseBehind mm_X0_81 ⟨Nat.le_trans (by decide) hR.1, Nat.le_trans (by decide) hR.2⟩ rfl (Nat.le_of_ble_eq_true rfl) rfl dX0_fewestStones_26 (c_X3_phaseBehind l base D cA σ x3 (-x4) q3 h4) rfl ?_
      obtain ⟨q6, h7, h⟩ := bind_some h
      refine g_callVi (pc' := 32) (res := q6) C [.ref (base + 1), .int x2, .int q3.2] cY_X0_isThroughBy rfl (o := 70) (by decide) rfl mv_X0_isThroughBy mm_X0_69 ⟨Nat.le_trans (by decide) hR.1, Nat.le_trans (by decide) hR.2⟩ rfl (Nat.le_of_ble_eq_true rfl) rfl dX0_fewestStones_29 (c_X0_isThroughBy_70_1 l base D cA q3.1 x2 q3.2 q6 h7) rfl ?_
      refine g_if_eq (pc' := 35) (tgt := 38) C dX0_fewestStones_32 (by decide) rfl (fun hc => ?_) (fun hc => ?_)
      · rw [if_pos hc] at h
        obtain ⟨v8, e9, h⟩ := let_some h
        refine g_iinc (pc' := 41) (v := v8) (lv' := [(4, .int v8), (0, .ref (base + 70)), (1, .ref (base + 1)), (2, .int x2), (3, .ref (base + x3))]) C dX0_fewestStones_38 4 rfl (by rw [e9]; rfl) (by decide) rfl rfl ?_
        refine g_goto (tgt := 10) C dX0_fewestStones_41 (by decide) ?_
        exact g_sub C [1, 2, 3, 4, 0] rfl (ih _ _ _ _ h)
      · rw [if_neg hc] at h
        refine g_iload (pc' := 37) C dX0_fewestStones_35 4 rfl rfl ?_
        exact g_iret C hr dX0_fewestStones_37 h
def f_X0_fewestStones_70_1 (σ : cr_S) (a2 : Int32) : Option (cr_S × Int32) :=
  chk (inb a2 6) (f_X0_fewestStones_70_1_L10 cr_fuel σ a2 (9 + a2.toNatClampNeg) 0)
set_option maxRecDepth 100000 in
set_option maxHeartbeats 4000000 in
theorem w_X0_fewestStones_70_1 (C : cr_C p l e R s m args below meth c sfC 97 base D cA cX0_fewestStones 5 RX0) (hr : meth.sig.returnType = some .int) (hR : 4 ≤ R.frames ∧ 91 ≤ R.locals) {res : cr_S × Int32} (σ : cr_S) (a2 : Int32) (h : f_X0_fewestStones_70_1 σ a2 = some res) : cr_W p l e R s m args below meth c sfC 97 base D cA 5 (MQ below (cr_Qi sfC 97 base D cA res) args s 0 0 (cr_A 97 base)) σ 0 [(0, .ref (base + 70)), (1, .ref (base + 1)), (2, .int a2)] [] := by
  unfold f_X0_fewestStones_70_1 at h
  refine g_aload_n (pc' := 1) C dX0_fewestStones_0 1 rfl rfl ?_
  refine gg_X0_58 (pc' := 4) (o := 1) (r := 2) C rfl rfl dX0_fewestStones_1 rfl ?_
  refine g_iload_n (pc' := 5) C dX0_fewestStones_4 2 rfl rfl ?_
  obtain ⟨h1, h⟩ := chk_some h
  refine g_aald (pc' := 6) C (o := 2) (by decide) rfl (cn := "ClashRocks$Pair") rfl h1 dX0_fewestStones_5 rfl ?_
  refine g_astore_n (pc' := 7) (lv' := [(3, .ref (base + (9 + a2.toNatClampNeg))), (0, .ref (base + 70)), (1, .ref (base + 1)), (2, .int a2)]) C dX0_fewestStones_6 rfl (by decide) rfl rfl ?_
  refine g_iconst (pc' := 8) (v := 0) C dX0_fewestStones_7 (by decide) rfl ?_
  refine g_istore (pc' := 10) (lv' := [(4, .int 0), (3, .ref (base + (9 + a2.toNatClampNeg))), (0, .ref (base + 70)), (1, .ref (base + 1)), (2, .int a2)]) C dX0_fewestStones_8 (by decide) rfl rfl ?_
  exact g_sub C [2, 3, 4, 1, 0] rfl (w_X0_fewestStones_70_1_L10 C hr hR _ _ _ _ _ h)
theorem c_X0_fewestStones_70_1 (l : Launch) (base : Nat) (D : va_G) (cA : Nat → ClassId) (σ : cr_S) (a2 : Int32) (res : cr_S × Int32) (h : f_X0_fewestStones_70_1 σ a2 = some res) : cr_M l yX0_fewestStones cX0_fewestStones 5 (some .int) 4 91 sfC 97 base D cA [.ref (base + 70), .ref (base + 1), .int a2] σ (cr_Qi sfC 97 base D cA res) := by
  refine cr_enter [.ref (base + 70), .ref (base + 1), .int a2] [(0, .ref (base + 70)), (1, .ref (base + 1)), (2, .int a2)] (by decide) (Nat.le_of_ble_eq_true rfl) rfl ?_
  intro p e R s m below meth c C hr hR
  exact w_X0_fewestStones_70_1 C hr hR σ a2 h
def f_X10_stones_B123  (σ : cr_S) (x3 : Int32) (x4 : Int32) (x5 : Int32) : Option (cr_S × Int32) :=
  some (σ, if x3 = (-1) then x4 else x5)
set_option maxRecDepth 100000 in
set_option maxHeartbeats 4000000 in
theorem w_X10_stones_B123 (C : cr_C p l e R s m args below meth c sfC 97 base D cA cX10_stones 8 RX10) (hr : meth.sig.returnType = some .int) (hR : 5 ≤ R.frames ∧ 115 ≤ R.locals) {res : cr_S × Int32}  (σ : cr_S) (x3 : Int32) (x4 : Int32) (x5 : Int32) (h : f_X10_stones_B123 σ x3 x4 x5 = some res) : cr_W p l e R s m args below meth c sfC 97 base D cA 8 (MQ below (cr_Qi sfC 97 base D cA res) args s 0 0 (cr_A 97 base)) σ 123 [(3, .int x3), (4, .int x4), (5, .int x5)] [] := by
  unfold f_X10_stones_B123 at h
  refine g_iload_n (pc' := 124) C dX10_stones_123 0 rfl rfl ?_
  refine g_iconst (pc' := 125) (v := (-1)) C dX10_stones_124 (by decide) rfl ?_
  refine g_iteI (σ := σ) (pj := 135) (lv := [(3, .int x3), (4, .int x4), (5, .int x5)]) (st := []) (cd := x3 = (-1)) (a := x4) (b := x5) C ?_ (fun kt kf => ?_)
  · exact g_iret C hr dX10_stones_135 h
  · refine g_icmp_ne (pc' := 128) (tgt := 133) C dX10_stones_125 (by decide) rfl (fun hc => ?_) (fun hc => ?_)
    · refine g_iload (pc' := 135) C dX10_stones_133 2 rfl rfl ?_
      exact kf hc
    · refine g_iload (pc' := 130) C dX10_stones_128 1 rfl rfl ?_
      refine g_goto (tgt := 135) C dX10_stones_130 (by decide) ?_
      exact kt hc
def f_X10_stones_B115 (r58 : cr_S → Int32 → Int32 → Int32 → Int32 → Option (cr_S × Int32)) (σ : cr_S) (x3 : Int32) (x4 : Int32) (x6 : Int32) (t0 : Int32) : Option (cr_S × Int32) :=
  cr_let (x6 + 1) (fun v14 => r58 σ x3 x4 t0 v14)
set_option maxRecDepth 100000 in
set_option maxHeartbeats 4000000 in
theorem w_X10_stones_B115 (C : cr_C p l e R s m args below meth c sfC 97 base D cA cX10_stones 8 RX10) (hr : meth.sig.returnType = some .int) (hR : 5 ≤ R.frames ∧ 115 ≤ R.locals) {res : cr_S × Int32} (r58 : cr_S → Int32 → Int32 → Int32 → Int32 → Option (cr_S × Int32)) (hr58 : ∀ (σ : cr_S) (x3 : Int32) (x4 : Int32) (x5 : Int32) (x6 : Int32), r58 σ x3 x4 x5 x6 = some res → cr_W p l e R s m args below meth c sfC 97 base D cA 8 (MQ below (cr_Qi sfC 97 base D cA res) args s 0 0 (cr_A 97 base)) σ 58 [(0, .ref (base + 0)), (3, .int x3), (4, .int x4), (5, .int x5), (6, .int x6)] []) (σ : cr_S) (x3 : Int32) (x4 : Int32) (x6 : Int32) (t0 : Int32) (h : f_X10_stones_B115 r58 σ x3 x4 x6 t0 = some res) : cr_W p l e R s m args below meth c sfC 97 base D cA 8 (MQ below (cr_Qi sfC 97 base D cA res) args s 0 0 (cr_A 97 base)) σ 115 [(0, .ref (base + 0)), (3, .int x3), (4, .int x4), (6, .int x6)] [.int t0] := by
  unfold f_X10_stones_B115 at h
  refine g_istore (pc' := 117) (lv' := [(5, .int t0), (0, .ref (base + 0)), (3, .int x3), (4, .int x4), (6, .int x6)]) C dX10_stones_115 (by decide) rfl rfl ?_
  obtain ⟨v14, e15, h⟩ := let_some h
  refine g_iinc (pc' := 120) (v := v14) (lv' := [(6, .int v14), (5, .int t0), (0, .ref (base + 0)), (3, .int x3), (4, .int x4)]) C dX10_stones_117 4 rfl (by rw [e15]; rfl) (by decide) rfl rfl ?_
  refine g_goto (tgt := 58) C dX10_stones_120 (by decide) ?_
  exact g_sub C [2, 3, 4, 1, 0] rfl (hr58 _ _ _ _ _ h)
def f_X10_stones_L58  : Nat → cr_S → Int32 → Int32 → Int32 → Int32 → Option (cr_S × Int32)
  | 0, _, _, _, _, _ => none
  | n + 1, σ, x3, x4, x5, x6 =>
    (if (rF σ 1 5) ≤ x6 then f_X10_stones_B123 σ x3 x4 x5 else Option.bind (f_X0_fewestStones_70_1 σ x6) (fun q8 => cr_let q8.2 (fun v10 => (if v10 = (-4) then some (q8.1, (-4)) else cr_let (x4 + v10) (fun v12 => f_X10_stones_B115 (f_X10_stones_L58 n) q8.1 x3 v12 x6 (if x6 = x3 then v10 else x5))))))
set_option maxRecDepth 100000 in
set_option maxHeartbeats 4000000 in
theorem w_X10_stones_L58 (C : cr_C p l e R s m args below meth c sfC 97 base D cA cX10_stones 8 RX10) (hr : meth.sig.returnType = some .int) (hR : 5 ≤ R.frames ∧ 115 ≤ R.locals) {res : cr_S × Int32}  : ∀ (n : Nat) (σ : cr_S) (x3 : Int32) (x4 : Int32) (x5 : Int32) (x6 : Int32), f_X10_stones_L58 n σ x3 x4 x5 x6 = some res → cr_W p l e R s m args below meth c sfC 97 base D cA 8 (MQ below (cr_Qi sfC 97 base D cA res) args s 0 0 (cr_A 97 base)) σ 58 [(0, .ref (base + 0)), (3, .int x3), (4, .int x4), (5, .int x5), (6, .int x6)] [] := by
  intro n
  induction n with
  | zero =>
    intro σ x3 x4 x5 x6 h
    cases h
  | succ n ih =>
    intro σ x3 x4 x5 x6 h
    rw [f_X10_stones_L58] at h
    refine g_iload (pc' := 60) C dX10_stones_58 4 rfl rfl ?_
    refine g_aload_n (pc' := 61) C dX10_stones_60 0 rfl rfl ?_
    refine gg_X10_12 (pc' := 64) (o := 0) (r := 1) C rfl rfl dX10_stones_61 rfl ?_
    refine gg_X10_58 (pc' := 67) (o := 1) C rfl dX10_stones_64 rfl ?_
    refine g_icmp_ge (pc' := 70) (tgt := 123) C dX10_stones_67 (by decide) rfl (fun hc => ?_) (fun hc => ?_)
    · rw [if_pos hc] at h
      exact g_sub C [1, 2, 3] rfl (w_X10_stones_B123 C hr hR _ _ _ _ h)
    · rw [if_neg hc] at h
      refine g_aload_n (pc' := 71) C dX10_stones_70 0 rfl rfl ?_
      refine gg_X10_29 (pc' := 74) (o := 0) (r := 70) C rfl rfl dX10_stones_71 rfl ?_
      refine g_aload_n (pc' := 75) C dX10_stones_74 0 rfl rfl ?_
      refine gg_X10_12 (pc' := 78) (o := 0) (r := 1) C rfl rfl dX10_stones_75 rfl ?_
      refine g_iload (pc' := 80) C dX10_stones_78 4 rfl rfl ?_
      obtain ⟨q8, h9, h⟩ := bind_some h
      refine g_callVi (pc' := 83) (res := q8) C [.ref (base + 1), .int x6] cY_X0_fewestStones rfl (o := 70) (by decide) rfl mv_X0_fewestStones mm_X10_236 ⟨Nat.le_trans (by decide) hR.1, Nat.le_trans (by decide) hR.2⟩ rfl (Nat.le_of_ble_eq_true rfl) rfl dX10_stones_80 (c_X0_fewestStones_70_1 l base D cA σ x6 q8 h9) rfl ?_
      obtain ⟨v10, e11, h⟩ := let_some h
      refine g_nameI e11 ?_
      refine g_istore (pc' := 85) (lv' := [(7, .int v10), (0, .ref (base + 0)), (3, .int x3), (4, .int x4), (5, .int x5), (6, .int x6)]) C dX10_stones_83 (by decide) rfl rfl ?_
      refine g_iload (pc' := 87) C dX10_stones_85 0 rfl rfl ?_
      refine g_bipush (pc' := 89) (v := (-4)) C dX10_stones_87 (by decide) rfl ?_
      refine g_icmp_ne (pc' := 92) (tgt := 95) C dX10_stones_89 (by decide) rfl (fun hc => ?_) (fun hc => ?_)
      · rw [if_neg hc] at h
        refine g_iload (pc' := 97) C dX10_stones_95 3 rfl rfl ?_
        refine g_iload (pc' := 99) C dX10_stones_97 0 rfl rfl ?_
        refine g_iadd (pc' := 100) C dX10_stones_99 rfl ?_
        obtain ⟨v12, e13, h⟩ := let_some h
        refine g_nameI e13 ?_
        refine g_istore (pc' := 102) (lv' := [(4, .int v12), (7, .int v10), (0, .ref (base + 0)), (3, .int x3), (5, .int x5), (6, .int x6)]) C dX10_stones_100 (by decide) rfl rfl ?_
        refine g_iload (pc' := 104) C dX10_stones_102 5 rfl rfl ?_
        refine g_iload_n (pc' := 105) C dX10_stones_104 3 rfl rfl ?_
        refine g_iteI (σ := q8.1) (pj := 115) (lv := [(4, .int v12), (7, .int v10), (0, .ref (base + 0)), (3, .int x3), (5, .int x5), (6, .int x6)]) (st := []) (cd := x6 = x3) (a := v10) (b := x5) C ?_ (fun kt kf => ?_)
        · exact g_sub C [2, 3, 0, 5] rfl (w_X10_stones_B115 C hr hR (f_X10_stones_L58 n) ih _ _ _ _ _ h)
        · refine g_icmp_ne (pc' := 108) (tgt := 113) C dX10_stones_105 (by decide) rfl (fun hc => ?_) (fun hc => ?_)
          · refine g_iload (pc' := 115) C dX10_stones_113 4 rfl rfl ?_
            exact kf hc
          · refine g_iload (pc' := 110) C dX10_stones_108 1 rfl rfl ?_
            refine g_goto (tgt := 115) C dX10_stones_110 (by decide) ?_
            exact kt hc
      · rw [if_pos hc] at h
        refine g_bipush (pc' := 94) (v := (-4)) C dX10_stones_92 (by decide) rfl ?_
        exact g_iret C hr dX10_stones_94 h
def f_X10_stones (σ : cr_S) (a1 : Int32) (a2 : Int32) (a3 : Int32) : Option (cr_S × Int32) :=
  Option.bind (f_X10_isBegin σ a1 a2) (fun q1 => (if q1.2 = 0 then some (q1.1, (-1)) else Option.bind (f_X10_isWithin q1.1 a3 (-1) ((rF q1.1 1 5) - 1)) (fun q3 => (if q3.2 = 0 then some (q3.1, (-1)) else chk (inb a1 5) (Option.bind (f_X0_planFull_70_1 q3.1 (15 + a1.toNatClampNeg) a2) (fun q6 => f_X10_stones_L58 cr_fuel q6 a3 0 0 0))))))
set_option maxRecDepth 100000 in
set_option maxHeartbeats 4000000 in
theorem w_X10_stones (C : cr_C p l e R s m args below meth c sfC 97 base D cA cX10_stones 8 RX10) (hr : meth.sig.returnType = some .int) (hR : 5 ≤ R.frames ∧ 115 ≤ R.locals) {res : cr_S × Int32} (σ : cr_S) (a1 : Int32) (a2 : Int32) (a3 : Int32) (h : f_X10_stones σ a1 a2 a3 = some res) : cr_W p l e R s m args below meth c sfC 97 base D cA 8 (MQ below (cr_Qi sfC 97 base D cA res) args s 0 0 (cr_A 97 base)) σ 0 [(0, .ref (base + 0)), (1, .int a1), (2, .int a2), (3, .int a3)] [] := by
  unfold f_X10_stones at h
  refine g_aload_n (pc' := 1) C dX10_stones_0 0 rfl rfl ?_
  refine g_iload_n (pc' := 2) C dX10_stones_1 1 rfl rfl ?_
  refine g_iload_n (pc' := 3) C dX10_stones_2 2 rfl rfl ?_
  obtain ⟨q1, h2, h⟩ := bind_some h
  refine g_callVi (pc' := 6) (res := q1) C [.int a1, .int a2] cY_X10_isBegin rfl (o := 0) (by decide) rfl mv_X10_isBegin mm_X10_206 ⟨Nat.le_trans (by decide) hR.1, Nat.le_trans (by decide) hR.2⟩ rfl (Nat.le_of_ble_eq_true rfl) rfl dX10_stones_3 (c_X10_isBegin l base D cA σ a1 a2 q1 h2) rfl ?_
  refine g_if_eq (pc' := 9) (tgt := 26) C dX10_stones_6 (by decide) rfl (fun hc => ?_) (fun hc => ?_)
  · rw [if_pos hc] at h
    refine g_iconst (pc' := 27) (v := (-1)) C dX10_stones_26 (by decide) rfl ?_
    exact g_iret C hr dX10_stones_27 h
  · rw [if_neg hc] at h
    refine g_iload_n (pc' := 10) C dX10_stones_9 3 rfl rfl ?_
    refine g_iconst (pc' := 11) (v := (-1)) C dX10_stones_10 (by decide) rfl ?_
    refine g_aload_n (pc' := 12) C dX10_stones_11 0 rfl rfl ?_
    refine gg_X10_12 (pc' := 15) (o := 0) (r := 1) C rfl rfl dX10_stones_12 rfl ?_
    refine gg_X10_58 (pc' := 18) (o := 1) C rfl dX10_stones_15 rfl ?_
    refine g_iconst (pc' := 19) (v := 1) C dX10_stones_18 (by decide) rfl ?_
    refine g_isub (pc' := 20) C dX10_stones_19 rfl ?_
    obtain ⟨q3, h4, h⟩ := bind_some h
    refine g_callSi (pc' := 23) (res := q3) C [.int a3, .int (-1), .int ((rF q1.1 1 5) - 1)] cY_X10_isWithin mv_X10_isWithin mm_X10_54 ⟨Nat.le_trans (by decide) hR.1, Nat.le_trans (by decide) hR.2⟩ rfl (Nat.le_of_ble_eq_true rfl) rfl dX10_stones_20 (c_X10_isWithin l base D cA q1.1 a3 (-1) ((rF q1.1 1 5) - 1) q3 h4) rfl ?_
    refine g_if_ne (pc' := 26) (tgt := 28) C dX10_stones_23 (by decide) rfl (fun hc => ?_) (fun hc => ?_)
    · rw [if_neg hc] at h
      refine g_aload_n (pc' := 29) C dX10_stones_28 0 rfl rfl ?_
      refine gg_X10_29 (pc' := 32) (o := 0) (r := 70) C rfl rfl dX10_stones_29 rfl ?_
      refine g_aload_n (pc' := 33) C dX10_stones_32 0 rfl rfl ?_
      refine gg_X10_12 (pc' := 36) (o := 0) (r := 1) C rfl rfl dX10_stones_33 rfl ?_
      refine g_aload_n (pc' := 37) C dX10_stones_36 0 rfl rfl ?_
      refine gg_X10_12 (pc' := 40) (o := 0) (r := 1) C rfl rfl dX10_stones_37 rfl ?_
      refine gg_X10_85 (pc' := 43) (o := 1) (r := 3) C rfl rfl dX10_stones_40 rfl ?_
      refine g_iload_n (pc' := 44) C dX10_stones_43 1 rfl rfl ?_
      obtain ⟨h5, h⟩ := chk_some h
      refine g_aald (pc' := 45) C (o := 3) (by decide) rfl (cn := "ClashRocks$Ship") rfl h5 dX10_stones_44 rfl ?_
      refine g_iload_n (pc' := 46) C dX10_stones_45 2 rfl rfl ?_
      obtain ⟨q6, h7, h⟩ := bind_some h
      refine g_callVv (pc' := 49) (res := q6) C [.ref (base + 1), .ref (base + (15 + a1.toNatClampNeg)), .int a2] cY_X0_planFull rfl (o := 70) (by decide) rfl mv_X0_planFull mm_X10_229 ⟨Nat.le_trans (by decide) hR.1, Nat.le_trans (by decide) hR.2⟩ rfl (Nat.le_of_ble_eq_true rfl) rfl dX10_stones_46 (c_X0_planFull_70_1 l base D cA q3.1 (15 + a1.toNatClampNeg) a2 q6 h7) rfl ?_
      refine g_iconst (pc' := 50) (v := 0) C dX10_stones_49 (by decide) rfl ?_
      refine g_istore (pc' := 52) (lv' := [(4, .int 0), (0, .ref (base + 0)), (1, .int a1), (2, .int a2), (3, .int a3)]) C dX10_stones_50 (by decide) rfl rfl ?_
      refine g_iconst (pc' := 53) (v := 0) C dX10_stones_52 (by decide) rfl ?_
      refine g_istore (pc' := 55) (lv' := [(5, .int 0), (4, .int 0), (0, .ref (base + 0)), (1, .int a1), (2, .int a2), (3, .int a3)]) C dX10_stones_53 (by decide) rfl rfl ?_
      refine g_iconst (pc' := 56) (v := 0) C dX10_stones_55 (by decide) rfl ?_
      refine g_istore (pc' := 58) (lv' := [(6, .int 0), (5, .int 0), (4, .int 0), (0, .ref (base + 0)), (1, .int a1), (2, .int a2), (3, .int a3)]) C dX10_stones_56 (by decide) rfl rfl ?_
      exact g_sub C [3, 6, 2, 1, 0] rfl (w_X10_stones_L58 C hr hR _ _ _ _ _ _ h)
    · rw [if_pos hc] at h
      refine g_iconst (pc' := 27) (v := (-1)) C dX10_stones_26 (by decide) rfl ?_
      exact g_iret C hr dX10_stones_27 h
theorem c_X10_stones (l : Launch) (base : Nat) (D : va_G) (cA : Nat → ClassId) (σ : cr_S) (a1 : Int32) (a2 : Int32) (a3 : Int32) (res : cr_S × Int32) (h : f_X10_stones σ a1 a2 a3 = some res) : cr_M l yX10_stones cX10_stones 8 (some .int) 5 115 sfC 97 base D cA [.ref (base + 0), .int a1, .int a2, .int a3] σ (cr_Qi sfC 97 base D cA res) := by
  refine cr_enter [.ref (base + 0), .int a1, .int a2, .int a3] [(0, .ref (base + 0)), (1, .int a1), (2, .int a2), (3, .int a3)] (by decide) (Nat.le_of_ble_eq_true rfl) rfl ?_
  intro p e R s m below meth c C hr hR
  exact w_X10_stones C hr hR σ a1 a2 a3 h
def f_J6_bitCount_0f7a4 (σ : cr_S) (a0 : Int32) : Option (cr_S × Int32) :=
  cr_let (a0 - ((((Int32.toUInt32 a0) >>> ((Int32.toUInt32 1) &&& Int32.toUInt32 31)).toInt32) &&& 1431655765)) (fun v1 => cr_let ((v1 &&& 858993459) + ((((Int32.toUInt32 v1) >>> ((Int32.toUInt32 2) &&& Int32.toUInt32 31)).toInt32) &&& 858993459)) (fun v3 => cr_let ((v3 + (((Int32.toUInt32 v3) >>> ((Int32.toUInt32 4) &&& Int32.toUInt32 31)).toInt32)) &&& 252645135) (fun v5 => cr_let (v5 + (((Int32.toUInt32 v5) >>> ((Int32.toUInt32 8) &&& Int32.toUInt32 31)).toInt32)) (fun v7 => cr_let (v7 + (((Int32.toUInt32 v7) >>> ((Int32.toUInt32 16) &&& Int32.toUInt32 31)).toInt32)) (fun v9 => some (σ, v9 &&& 63))))))
set_option maxRecDepth 100000 in
set_option maxHeartbeats 4000000 in
theorem w_J6_bitCount_0f7a4 (C : cr_C p l e R s m args below meth c sfC 97 base D cA cJ6_bitCount_0f7a4 1 RJ6) (hr : meth.sig.returnType = some .int) (hR : 0 ≤ R.frames ∧ 0 ≤ R.locals) {res : cr_S × Int32} (σ : cr_S) (a0 : Int32) (h : f_J6_bitCount_0f7a4 σ a0 = some res) : cr_W p l e R s m args below meth c sfC 97 base D cA 1 (MQ below (cr_Qi sfC 97 base D cA res) args s 0 0 (cr_A 97 base)) σ 0 [(0, .int a0)] [] := by
  unfold f_J6_bitCount_0f7a4 at h
  refine g_iload_n (pc' := 1) C dJ6_bitCount_0f7a4_0 0 rfl rfl ?_
  refine g_iload_n (pc' := 2) C dJ6_bitCount_0f7a4_1 0 rfl rfl ?_
  refine g_iconst (pc' := 3) (v := 1) C dJ6_bitCount_0f7a4_2 (by decide) rfl ?_
  refine g_iushr (pc' := 4) C dJ6_bitCount_0f7a4_3 rfl ?_
  refine g_ldcw (pc' := 7) (v := 1431655765) C dJ6_bitCount_0f7a4_4 mk_J6_265 rfl ?_
  refine g_iand (pc' := 8) C dJ6_bitCount_0f7a4_7 rfl ?_
  refine g_isub (pc' := 9) C dJ6_bitCount_0f7a4_8 rfl ?_
  obtain ⟨v1, e2, h⟩ := let_some h
  refine g_nameI e2 ?_
  refine g_istore_n (pc' := 10) (lv' := [(0, .int v1)]) C dJ6_bitCount_0f7a4_9 rfl (by decide) rfl rfl ?_
  refine g_iload_n (pc' := 11) C dJ6_bitCount_0f7a4_10 0 rfl rfl ?_
  refine g_ldcw (pc' := 14) (v := 858993459) C dJ6_bitCount_0f7a4_11 mk_J6_266 rfl ?_
  refine g_iand (pc' := 15) C dJ6_bitCount_0f7a4_14 rfl ?_
  refine g_iload_n (pc' := 16) C dJ6_bitCount_0f7a4_15 0 rfl rfl ?_
  refine g_iconst (pc' := 17) (v := 2) C dJ6_bitCount_0f7a4_16 (by decide) rfl ?_
  refine g_iushr (pc' := 18) C dJ6_bitCount_0f7a4_17 rfl ?_
  refine g_ldcw (pc' := 21) (v := 858993459) C dJ6_bitCount_0f7a4_18 mk_J6_266 rfl ?_
  refine g_iand (pc' := 22) C dJ6_bitCount_0f7a4_21 rfl ?_
  refine g_iadd (pc' := 23) C dJ6_bitCount_0f7a4_22 rfl ?_
  obtain ⟨v3, e4, h⟩ := let_some h
  refine g_nameI e4 ?_
  refine g_istore_n (pc' := 24) (lv' := [(0, .int v3)]) C dJ6_bitCount_0f7a4_23 rfl (by decide) rfl rfl ?_
  refine g_iload_n (pc' := 25) C dJ6_bitCount_0f7a4_24 0 rfl rfl ?_
  refine g_iload_n (pc' := 26) C dJ6_bitCount_0f7a4_25 0 rfl rfl ?_
  refine g_iconst (pc' := 27) (v := 4) C dJ6_bitCount_0f7a4_26 (by decide) rfl ?_
  refine g_iushr (pc' := 28) C dJ6_bitCount_0f7a4_27 rfl ?_
  refine g_iadd (pc' := 29) C dJ6_bitCount_0f7a4_28 rfl ?_
  refine g_ldcw (pc' := 32) (v := 252645135) C dJ6_bitCount_0f7a4_29 mk_J6_267 rfl ?_
  refine g_iand (pc' := 33) C dJ6_bitCount_0f7a4_32 rfl ?_
  obtain ⟨v5, e6, h⟩ := let_some h
  refine g_nameI e6 ?_
  refine g_istore_n (pc' := 34) (lv' := [(0, .int v5)]) C dJ6_bitCount_0f7a4_33 rfl (by decide) rfl rfl ?_
  refine g_iload_n (pc' := 35) C dJ6_bitCount_0f7a4_34 0 rfl rfl ?_
  refine g_iload_n (pc' := 36) C dJ6_bitCount_0f7a4_35 0 rfl rfl ?_
  refine g_bipush (pc' := 38) (v := 8) C dJ6_bitCount_0f7a4_36 (by decide) rfl ?_
  refine g_iushr (pc' := 39) C dJ6_bitCount_0f7a4_38 rfl ?_
  refine g_iadd (pc' := 40) C dJ6_bitCount_0f7a4_39 rfl ?_
  obtain ⟨v7, e8, h⟩ := let_some h
  refine g_nameI e8 ?_
  refine g_istore_n (pc' := 41) (lv' := [(0, .int v7)]) C dJ6_bitCount_0f7a4_40 rfl (by decide) rfl rfl ?_
  refine g_iload_n (pc' := 42) C dJ6_bitCount_0f7a4_41 0 rfl rfl ?_
  refine g_iload_n (pc' := 43) C dJ6_bitCount_0f7a4_42 0 rfl rfl ?_
  refine g_bipush (pc' := 45) (v := 16) C dJ6_bitCount_0f7a4_43 (by decide) rfl ?_
  refine g_iushr (pc' := 46) C dJ6_bitCount_0f7a4_45 rfl ?_
  refine g_iadd (pc' := 47) C dJ6_bitCount_0f7a4_46 rfl ?_
  obtain ⟨v9, e10, h⟩ := let_some h
  refine g_nameI e10 ?_
  refine g_istore_n (pc' := 48) (lv' := [(0, .int v9)]) C dJ6_bitCount_0f7a4_47 rfl (by decide) rfl rfl ?_
  refine g_iload_n (pc' := 49) C dJ6_bitCount_0f7a4_48 0 rfl rfl ?_
  refine g_bipush (pc' := 51) (v := 63) C dJ6_bitCount_0f7a4_49 (by decide) rfl ?_
  refine g_iand (pc' := 52) C dJ6_bitCount_0f7a4_51 rfl ?_
  exact g_iret C hr dJ6_bitCount_0f7a4_52 h
theorem c_J6_bitCount_0f7a4 (l : Launch) (base : Nat) (D : va_G) (cA : Nat → ClassId) (σ : cr_S) (a0 : Int32) (res : cr_S × Int32) (h : f_J6_bitCount_0f7a4 σ a0 = some res) : cr_M l yJ6_bitCount_0f7a4 cJ6_bitCount_0f7a4 1 (some .int) 0 0 sfC 97 base D cA [.int a0] σ (cr_Qi sfC 97 base D cA res) := by
  refine cr_enter [.int a0] [(0, .int a0)] (by decide) (Nat.le_of_ble_eq_true rfl) rfl ?_
  intro p e R s m below meth c C hr hR
  exact w_J6_bitCount_0f7a4 C hr hR σ a0 h
end

section
variable {p : Program} {l : Launch} {e : Env} {R : Room} {s : State} {m : MethodId} {args : Array Value} {below : List Frame} {meth : Method} {c : Code} {base : Nat} {D : va_G} {cA : Nat → ClassId}
noncomputable def f_X10_isWithin (σ : cr_S) (a0 : Int32) (a1 : Int32) (a2 : Int32) : Option (cr_S × Int32) :=
  (if a0 < a1 then some (σ, 0) else (if a2 < a0 then some (σ, 0) else some (σ, 1)))
set_option maxRecDepth 100000 in
set_option maxHeartbeats 4000000 in
theorem w_X10_isWithin (C : cr_C p l e R s m args below meth c sfC 97 base D cA cX10_isWithin 3 RX10) (hr : meth.sig.returnType = some .boolean) (hR : 0 ≤ R.frames ∧ 0 ≤ R.locals) {res : cr_S × Int32} (σ : cr_S) (a0 : Int32) (a1 : Int32) (a2 : Int32) (h : f_X10_isWithin σ a0 a1 a2 = some res) : cr_W p l e R s m args below meth c sfC 97 base D cA 3 (MQ below (cr_Qi sfC 97 base D cA res) args s 0 0 (cr_A 97 base)) σ 0 [(0, .int a0), (1, .int a1), (2, .int a2)] [] := by
  unfold f_X10_isWithin at h
  refine g_iload_n (pc' := 1) C dX10_isWithin_0 0 rfl rfl ?_
  refine g_iload_n (pc' := 2) C dX10_isWithin_1 1 rfl rfl ?_
  refine g_icmp_lt (pc' := 5) (tgt := 14) C dX10_isWithin_2 (by decide) rfl (fun hc => ?_) (fun hc => ?_)
  · rw [if_pos hc] at h
    refine g_iconst (pc' := 15) (v := 0) C dX10_isWithin_14 (by decide) rfl ?_
    exact g_zret C hr rfl dX10_isWithin_15 h
  · rw [if_neg hc] at h
    refine g_iload_n (pc' := 6) C dX10_isWithin_5 0 rfl rfl ?_
    refine g_iload_n (pc' := 7) C dX10_isWithin_6 2 rfl rfl ?_
    refine g_icmp_gt (pc' := 10) (tgt := 14) C dX10_isWithin_7 (by decide) rfl (fun hc => ?_) (fun hc => ?_)
    · rw [if_pos hc] at h
      refine g_iconst (pc' := 15) (v := 0) C dX10_isWithin_14 (by decide) rfl ?_
      exact g_zret C hr rfl dX10_isWithin_15 h
    · rw [if_neg hc] at h
      refine g_iconst (pc' := 11) (v := 1) C dX10_isWithin_10 (by decide) rfl ?_
      refine g_goto (tgt := 15) C dX10_isWithin_11 (by decide) ?_
      exact g_zret C hr rfl dX10_isWithin_15 h
theorem c_X10_isWithin (l : Launch) (base : Nat) (D : va_G) (cA : Nat → ClassId) (σ : cr_S) (a0 : Int32) (a1 : Int32) (a2 : Int32) (res : cr_S × Int32) (h : f_X10_isWithin σ a0 a1 a2 = some res) : cr_M l yX10_isWithin cX10_isWithin 3 (some .boolean) 0 0 sfC 97 base D cA [.int a0, .int a1, .int a2] σ (cr_Qi sfC 97 base D cA res) := by
  refine cr_enter [.int a0, .int a1, .int a2] [(0, .int a0), (1, .int a1), (2, .int a2)] (by decide) (Nat.le_of_ble_eq_true rfl) rfl ?_
  intro p e R s m below meth c C hr hR
  exact w_X10_isWithin C hr hR σ a0 a1 a2 h
noncomputable def f_X3_become_B21  (σ : cr_S) (x0 : Nat) (x4 : Int32) (t0 : Int32) (t1 : Nat) : Option (cr_S) :=
  chk (kC t1 = 3) (cr_let (sF σ t1 2 t0) (fun s8 => chk (kC x0 = 3) (cr_let (sF s8 x0 3 x4) (fun s11 => chk (kC x0 = 3) (cr_let (sF s11 x0 4 0) (fun s14 => some s14))))))
set_option maxRecDepth 100000 in
set_option maxHeartbeats 4000000 in
theorem w_X3_become_B21 (C : cr_C p l e R s m args below meth c sfC 97 base D cA cX3_become 5 RX3) (hr : meth.sig.returnType = none) (hR : 0 ≤ R.frames ∧ 0 ≤ R.locals) {res : cr_S}  (σ : cr_S) (x0 : Nat) (x4 : Int32) (t0 : Int32) (t1 : Nat) (h : f_X3_become_B21 σ x0 x4 t0 t1 = some res) : cr_W p l e R s m args below meth c sfC 97 base D cA 5 (MQ below (cr_Qv sfC 97 base D cA res) args s 0 0 (cr_A 97 base)) σ 21 [(0, .ref (base + x0)), (4, .int x4)] [.int t0, .ref (base + t1)] := by
  unfold f_X3_become_B21 at h
  obtain ⟨h7, h⟩ := chk_some h
  obtain ⟨s8, e9, h⟩ := let_some h
  refine gp_X3_15 (pc' := 24) (o := t1) C h7 dX3_become_21 rfl e9 ?_
  refine g_aload_n (pc' := 25) C dX3_become_24 0 rfl rfl ?_
  refine g_iload (pc' := 27) C dX3_become_25 1 rfl rfl ?_
  obtain ⟨h10, h⟩ := chk_some h
  obtain ⟨s11, e12, h⟩ := let_some h
  refine gp_X3_18 (pc' := 30) (o := x0) C h10 dX3_become_27 rfl e12 ?_
  refine g_aload_n (pc' := 31) C dX3_become_30 0 rfl rfl ?_
  refine g_iconst (pc' := 32) (v := 0) C dX3_become_31 (by decide) rfl ?_
  obtain ⟨h13, h⟩ := chk_some h
  obtain ⟨s14, e15, h⟩ := let_some h
  refine gp_X3_24 (pc' := 35) (o := x0) C h13 dX3_become_32 rfl e15 ?_
  exact g_vret C hr dX3_become_35 h
noncomputable def f_X3_become (σ : cr_S) (o0 : Nat) (a1 : Int32) (a2 : Int32) (a3 : Int32) (a4 : Int32) : Option (cr_S) :=
  chk (kC o0 = 3) (cr_let (sF σ o0 0 a1) (fun s2 => chk (kC o0 = 3) (cr_let (sF s2 o0 1 a2) (fun s5 => f_X3_become_B21 s5 o0 a4 (if 2 ≤ a3 then a3 else 2) o0))))
set_option maxRecDepth 100000 in
set_option maxHeartbeats 4000000 in
theorem w_X3_become (C : cr_C p l e R s m args below meth c sfC 97 base D cA cX3_become 5 RX3) (hr : meth.sig.returnType = none) (hR : 0 ≤ R.frames ∧ 0 ≤ R.locals) {res : cr_S} (σ : cr_S) (o0 : Nat) (a1 : Int32) (a2 : Int32) (a3 : Int32) (a4 : Int32) (h : f_X3_become σ o0 a1 a2 a3 a4 = some res) : cr_W p l e R s m args below meth c sfC 97 base D cA 5 (MQ below (cr_Qv sfC 97 base D cA res) args s 0 0 (cr_A 97 base)) σ 0 [(0, .ref (base + o0)), (1, .int a1), (2, .int a2), (3, .int a3), (4, .int a4)] [] := by
  unfold f_X3_become at h
  refine g_aload_n (pc' := 1) C dX3_become_0 0 rfl rfl ?_
  refine g_iload_n (pc' := 2) C dX3_become_1 1 rfl rfl ?_
  obtain ⟨h1, h⟩ := chk_some h
  obtain ⟨s2, e3, h⟩ := let_some h
  refine gp_X3_21 (pc' := 5) (o := o0) C h1 dX3_become_2 rfl e3 ?_
  refine g_aload_n (pc' := 6) C dX3_become_5 0 rfl rfl ?_
  refine g_iload_n (pc' := 7) C dX3_become_6 2 rfl rfl ?_
  obtain ⟨h4, h⟩ := chk_some h
  obtain ⟨s5, e6, h⟩ := let_some h
  refine gp_X3_9 (pc' := 10) (o := o0) C h4 dX3_become_7 rfl e6 ?_
  refine g_aload_n (pc' := 11) C dX3_become_10 0 rfl rfl ?_
  refine g_iload_n (pc' := 12) C dX3_become_11 3 rfl rfl ?_
  refine g_iconst (pc' := 13) (v := 2) C dX3_become_12 (by decide) rfl ?_
  refine g_iteI (σ := s5) (pj := 21) (lv := [(0, .ref (base + o0)), (1, .int a1), (2, .int a2), (3, .int a3), (4, .int a4)]) (st := [.ref (base + o0)]) (cd := 2 ≤ a3) (a := a3) (b := 2) C ?_ (fun kt kf => ?_)
  · exact g_sub C [0, 4] rfl (w_X3_become_B21 C hr hR _ _ _ _ _ h)
  · refine g_icmp_ge (pc' := 16) (tgt := 20) C dX3_become_13 (by decide) rfl (fun hc => ?_) (fun hc => ?_)
    · refine g_iload_n (pc' := 21) C dX3_become_20 3 rfl rfl ?_
      exact kt hc
    · refine g_iconst (pc' := 17) (v := 2) C dX3_become_16 (by decide) rfl ?_
      refine g_goto (tgt := 21) C dX3_become_17 (by decide) ?_
      exact kf hc
theorem c_X3_become (l : Launch) (base : Nat) (D : va_G) (cA : Nat → ClassId) (σ : cr_S) (o0 : Nat) (a1 : Int32) (a2 : Int32) (a3 : Int32) (a4 : Int32) (res : cr_S) (h : f_X3_become σ o0 a1 a2 a3 a4 = some res) : cr_M l yX3_become cX3_become 5 none 0 0 sfC 97 base D cA [.ref (base + o0), .int a1, .int a2, .int a3, .int a4] σ (cr_Qv sfC 97 base D cA res) := by
  refine cr_enter [.ref (base + o0), .int a1, .int a2, .int a3, .int a4] [(0, .ref (base + o0)), (1, .int a1), (2, .int a2), (3, .int a3), (4, .int a4)] (by decide) (Nat.le_of_ble_eq_true rfl) rfl ?_
  intro p e R s m below meth c C hr hR
  exact w_X3_become C hr hR σ o0 a1 a2 a3 a4 h
noncomputable def f_X10_pair (σ : cr_S) (a1 : Int32) (a2 : Int32) (a3 : Int32) (a4 : Int32) : Option (cr_S × Int32) :=
  Option.bind (f_X10_isWithin σ a1 0 3) (fun q1 => (if q1.2 = 0 then some (q1.1, (-1)) else Option.bind (f_X10_isWithin q1.1 a2 1 30) (fun q3 => (if q3.2 = 0 then some (q3.1, (-1)) else Option.bind (f_X10_isWithin q3.1 a3 2 24) (fun q5 => (if q5.2 = 0 then some (q5.1, (-1)) else Option.bind (f_X10_isWithin q5.1 a4 1 a3) (fun q7 => (if q7.2 = 0 then some (q7.1, (-1)) else (if (rF q7.1 1 5) < 6 then chk (inb (rF q7.1 1 5) 6) (Option.bind (f_X3_become q7.1 (9 + (rF q7.1 1 5).toNatClampNeg) a1 a2 a3 a4) (fun q10 => chk (kC (9 + (rF q7.1 1 5).toNatClampNeg) = 3) (cr_let (sF q10 1 5 ((rF q10 1 5) + 1)) (fun s13 => some (s13, rF q10 1 5))))) else some (q7.1, (-3)))))))))))
set_option maxRecDepth 100000 in
set_option maxHeartbeats 4000000 in
theorem w_X10_pair (C : cr_C p l e R s m args below meth c sfC 97 base D cA cX10_pair 5 RX10) (hr : meth.sig.returnType = some .int) (hR : 1 ≤ R.frames ∧ 24 ≤ R.locals) {res : cr_S × Int32} (σ : cr_S) (a1 : Int32) (a2 : Int32) (a3 : Int32) (a4 : Int32) (h : f_X10_pair σ a1 a2 a3 a4 = some res) : cr_W p l e R s m args below meth c sfC 97 base D cA 5 (MQ below (cr_Qi sfC 97 base D cA res) args s 0 0 (cr_A 97 base)) σ 0 [(0, .ref (base + 0)), (1, .int a1), (2, .int a2), (3, .int a3), (4, .int a4)] [] := by
  unfold f_X10_pair at h
  refine g_iload_n (pc' := 1) C dX10_pair_0 1 rfl rfl ?_
  refine g_iconst (pc' := 2) (v := 0) C dX10_pair_1 (by decide) rfl ?_
  refine g_iconst (pc' := 3) (v := 3) C dX10_pair_2 (by decide) rfl ?_
  obtain ⟨q1, h2, h⟩ := bind_some h
  refine g_callSi (pc' := 6) (res := q1) C [.int a1, .int 0, .int 3] cY_X10_isWithin mv_X10_isWithin mm_X10_54 ⟨Nat.le_trans (by decide) hR.1, Nat.le_trans (by decide) hR.2⟩ rfl (Nat.le_of_ble_eq_true rfl) rfl dX10_pair_3 (c_X10_isWithin l base D cA σ a1 0 3 q1 h2) rfl ?_
  refine g_if_eq (pc' := 9) (tgt := 39) C dX10_pair_6 (by decide) rfl (fun hc => ?_) (fun hc => ?_)
  · rw [if_pos hc] at h
    refine g_iconst (pc' := 40) (v := (-1)) C dX10_pair_39 (by decide) rfl ?_
    exact g_iret C hr dX10_pair_40 h
  · rw [if_neg hc] at h
    refine g_iload_n (pc' := 10) C dX10_pair_9 2 rfl rfl ?_
    refine g_iconst (pc' := 11) (v := 1) C dX10_pair_10 (by decide) rfl ?_
    refine g_bipush (pc' := 13) (v := 30) C dX10_pair_11 (by decide) rfl ?_
    obtain ⟨q3, h4, h⟩ := bind_some h
    refine g_callSi (pc' := 16) (res := q3) C [.int a2, .int 1, .int 30] cY_X10_isWithin mv_X10_isWithin mm_X10_54 ⟨Nat.le_trans (by decide) hR.1, Nat.le_trans (by decide) hR.2⟩ rfl (Nat.le_of_ble_eq_true rfl) rfl dX10_pair_13 (c_X10_isWithin l base D cA q1.1 a2 1 30 q3 h4) rfl ?_
    refine g_if_eq (pc' := 19) (tgt := 39) C dX10_pair_16 (by decide) rfl (fun hc => ?_) (fun hc => ?_)
    · rw [if_pos hc] at h
      refine g_iconst (pc' := 40) (v := (-1)) C dX10_pair_39 (by decide) rfl ?_
      exact g_iret C hr dX10_pair_40 h
    · rw [if_neg hc] at h
      refine g_iload_n (pc' := 20) C dX10_pair_19 3 rfl rfl ?_
      refine g_iconst (pc' := 21) (v := 2) C dX10_pair_20 (by decide) rfl ?_
      refine g_bipush (pc' := 23) (v := 24) C dX10_pair_21 (by decide) rfl ?_
      obtain ⟨q5, h6, h⟩ := bind_some h
      refine g_callSi (pc' := 26) (res := q5) C [.int a3, .int 2, .int 24] cY_X10_isWithin mv_X10_isWithin mm_X10_54 ⟨Nat.le_trans (by decide) hR.1, Nat.le_trans (by decide) hR.2⟩ rfl (Nat.le_of_ble_eq_true rfl) rfl dX10_pair_23 (c_X10_isWithin l base D cA q3.1 a3 2 24 q5 h6) rfl ?_
      refine g_if_eq (pc' := 29) (tgt := 39) C dX10_pair_26 (by decide) rfl (fun hc => ?_) (fun hc => ?_)
      · rw [if_pos hc] at h
        refine g_iconst (pc' := 40) (v := (-1)) C dX10_pair_39 (by decide) rfl ?_
        exact g_iret C hr dX10_pair_40 h
      · rw [if_neg hc] at h
        refine g_iload (pc' := 31) C dX10_pair_29 4 rfl rfl ?_
        refine g_iconst (pc' := 32) (v := 1) C dX10_pair_31 (by decide) rfl ?_
        refine g_iload_n (pc' := 33) C dX10_pair_32 3 rfl rfl ?_
        obtain ⟨q7, h8, h⟩ := bind_some h
        refine g_callSi (pc' := 36) (res := q7) C [.int a4, .int 1, .int a3] cY_X10_isWithin mv_X10_isWithin mm_X10_54 ⟨Nat.le_trans (by decide) hR.1, Nat.le_trans (by decide) hR.2⟩ rfl (Nat.le_of_ble_eq_true rfl) rfl dX10_pair_33 (c_X10_isWithin l base D cA q5.1 a4 1 a3 q7 h8) rfl ?_
        refine g_if_ne (pc' := 39) (tgt := 41) C dX10_pair_36 (by decide) rfl (fun hc => ?_) (fun hc => ?_)
        · rw [if_neg hc] at h
          refine g_aload_n (pc' := 42) C dX10_pair_41 0 rfl rfl ?_
          refine gg_X10_12 (pc' := 45) (o := 0) (r := 1) C rfl rfl dX10_pair_42 rfl ?_
          refine gg_X10_58 (pc' := 48) (o := 1) C rfl dX10_pair_45 rfl ?_
          refine g_bipush (pc' := 50) (v := 6) C dX10_pair_48 (by decide) rfl ?_
          refine g_icmp_lt (pc' := 53) (tgt := 56) C dX10_pair_50 (by decide) rfl (fun hc => ?_) (fun hc => ?_)
          · rw [if_pos hc] at h
            refine g_aload_n (pc' := 57) C dX10_pair_56 0 rfl rfl ?_
            refine gg_X10_12 (pc' := 60) (o := 0) (r := 1) C rfl rfl dX10_pair_57 rfl ?_
            refine gg_X10_62 (pc' := 63) (o := 1) (r := 2) C rfl rfl dX10_pair_60 rfl ?_
            refine g_aload_n (pc' := 64) C dX10_pair_63 0 rfl rfl ?_
            refine gg_X10_12 (pc' := 67) (o := 0) (r := 1) C rfl rfl dX10_pair_64 rfl ?_
            refine gg_X10_58 (pc' := 70) (o := 1) C rfl dX10_pair_67 rfl ?_
            obtain ⟨h9, h⟩ := chk_some h
            refine g_aald (pc' := 71) C (o := 2) (by decide) rfl (cn := "ClashRocks$Pair") rfl (inb_d h9) dX10_pair_70 rfl ?_
            refine g_iload_n (pc' := 72) C dX10_pair_71 1 rfl rfl ?_
            refine g_iload_n (pc' := 73) C dX10_pair_72 2 rfl rfl ?_
            refine g_iload_n (pc' := 74) C dX10_pair_73 3 rfl rfl ?_
            refine g_iload (pc' := 76) C dX10_pair_74 4 rfl rfl ?_
            obtain ⟨q10, h11, h⟩ := bind_some h
            obtain ⟨h12, h⟩ := chk_some h
            refine g_callVv (pc' := 79) (res := q10) C [.int a1, .int a2, .int a3, .int a4] cY_X3_become rfl (o := 9 + (rF q7.1 1 5).toNatClampNeg) (kC_lt h12 (by decide)) (sfC_3 h12) mv_X3_become mm_X10_66 ⟨Nat.le_trans (by decide) hR.1, Nat.le_trans (by decide) hR.2⟩ rfl (Nat.le_of_ble_eq_true rfl) rfl dX10_pair_76 (c_X3_become l base D cA q7.1 (9 + (rF q7.1 1 5).toNatClampNeg) a1 a2 a3 a4 q10 h11) rfl ?_
            refine g_aload_n (pc' := 80) C dX10_pair_79 0 rfl rfl ?_
            refine gg_X10_12 (pc' := 83) (o := 0) (r := 1) C rfl rfl dX10_pair_80 rfl ?_
            refine g_dup (pc' := 84) C dX10_pair_83 rfl rfl ?_
            refine gg_X10_58 (pc' := 87) (o := 1) C rfl dX10_pair_84 rfl ?_
            refine g_dup_x1 (pc' := 88) C dX10_pair_87 rfl rfl rfl ?_
            refine g_iconst (pc' := 89) (v := 1) C dX10_pair_88 (by decide) rfl ?_
            refine g_iadd (pc' := 90) C dX10_pair_89 rfl ?_
            obtain ⟨s13, e14, h⟩ := let_some h
            refine gp_X10_58 (pc' := 93) (o := 1) C rfl dX10_pair_90 rfl e14 ?_
            exact g_iret C hr dX10_pair_93 h
          · rw [if_neg hc] at h
            refine g_bipush (pc' := 55) (v := (-3)) C dX10_pair_53 (by decide) rfl ?_
            exact g_iret C hr dX10_pair_55 h
        · rw [if_pos hc] at h
          refine g_iconst (pc' := 40) (v := (-1)) C dX10_pair_39 (by decide) rfl ?_
          exact g_iret C hr dX10_pair_40 h
theorem c_X10_pair (l : Launch) (base : Nat) (D : va_G) (cA : Nat → ClassId) (σ : cr_S) (a1 : Int32) (a2 : Int32) (a3 : Int32) (a4 : Int32) (res : cr_S × Int32) (h : f_X10_pair σ a1 a2 a3 a4 = some res) : cr_M l yX10_pair cX10_pair 5 (some .int) 1 24 sfC 97 base D cA [.ref (base + 0), .int a1, .int a2, .int a3, .int a4] σ (cr_Qi sfC 97 base D cA res) := by
  refine cr_enter [.ref (base + 0), .int a1, .int a2, .int a3, .int a4] [(0, .ref (base + 0)), (1, .int a1), (2, .int a2), (3, .int a3), (4, .int a4)] (by decide) (Nat.le_of_ble_eq_true rfl) rfl ?_
  intro p e R s m below meth c C hr hR
  exact w_X10_pair C hr hR σ a1 a2 a3 a4 h
noncomputable def f_X10_isPair (σ : cr_S) (a1 : Int32) : Option (cr_S × Int32) :=
  Option.bind (f_X10_isWithin σ a1 0 ((rF σ 1 5) - 1)) (fun q1 => chk (isB q1.2) (some (q1.1, q1.2)))
set_option maxRecDepth 100000 in
set_option maxHeartbeats 4000000 in
theorem w_X10_isPair (C : cr_C p l e R s m args below meth c sfC 97 base D cA cX10_isPair 2 RX10) (hr : meth.sig.returnType = some .boolean) (hR : 1 ≤ R.frames ∧ 22 ≤ R.locals) {res : cr_S × Int32} (σ : cr_S) (a1 : Int32) (h : f_X10_isPair σ a1 = some res) : cr_W p l e R s m args below meth c sfC 97 base D cA 2 (MQ below (cr_Qi sfC 97 base D cA res) args s 0 0 (cr_A 97 base)) σ 0 [(0, .ref (base + 0)), (1, .int a1)] [] := by
  unfold f_X10_isPair at h
  refine g_iload_n (pc' := 1) C dX10_isPair_0 1 rfl rfl ?_
  refine g_iconst (pc' := 2) (v := 0) C dX10_isPair_1 (by decide) rfl ?_
  refine g_aload_n (pc' := 3) C dX10_isPair_2 0 rfl rfl ?_
  refine gg_X10_12 (pc' := 6) (o := 0) (r := 1) C rfl rfl dX10_isPair_3 rfl ?_
  refine gg_X10_58 (pc' := 9) (o := 1) C rfl dX10_isPair_6 rfl ?_
  refine g_iconst (pc' := 10) (v := 1) C dX10_isPair_9 (by decide) rfl ?_
  refine g_isub (pc' := 11) C dX10_isPair_10 rfl ?_
  obtain ⟨q1, h2, h⟩ := bind_some h
  refine g_callSi (pc' := 14) (res := q1) C [.int a1, .int 0, .int ((rF σ 1 5) - 1)] cY_X10_isWithin mv_X10_isWithin mm_X10_54 ⟨Nat.le_trans (by decide) hR.1, Nat.le_trans (by decide) hR.2⟩ rfl (Nat.le_of_ble_eq_true rfl) rfl dX10_isPair_11 (c_X10_isWithin l base D cA σ a1 0 ((rF σ 1 5) - 1) q1 h2) rfl ?_
  obtain ⟨h3, h⟩ := chk_some h
  exact g_zret C hr (isB_n h3) dX10_isPair_14 h
theorem c_X10_isPair (l : Launch) (base : Nat) (D : va_G) (cA : Nat → ClassId) (σ : cr_S) (a1 : Int32) (res : cr_S × Int32) (h : f_X10_isPair σ a1 = some res) : cr_M l yX10_isPair cX10_isPair 2 (some .boolean) 1 22 sfC 97 base D cA [.ref (base + 0), .int a1] σ (cr_Qi sfC 97 base D cA res) := by
  refine cr_enter [.ref (base + 0), .int a1] [(0, .ref (base + 0)), (1, .int a1)] (by decide) (Nat.le_of_ble_eq_true rfl) rfl ?_
  intro p e R s m below meth c C hr hR
  exact w_X10_isPair C hr hR σ a1 h
noncomputable def f_X10_phase (σ : cr_S) (a1 : Int32) (a2 : Int32) : Option (cr_S × Int32) :=
  Option.bind (f_X10_isPair σ a1) (fun q1 => (if q1.2 = 0 then some (q1.1, (-1)) else chk (inb a1 6) (chk (kC (9 + a1.toNatClampNeg) = 3) (Option.bind (f_X10_isWithin q1.1 a2 0 ((rF q1.1 (9 + a1.toNatClampNeg) 2) - 1)) (fun q5 => (if q5.2 = 0 then some (q5.1, (-1)) else chk (inb a1 6) (chk (kC (9 + a1.toNatClampNeg) = 3) (cr_let (rF q5.1 (9 + a1.toNatClampNeg) 4) (fun v9 => chk (inb a1 6) (chk (kC (9 + a1.toNatClampNeg) = 3) (cr_let (sF q5.1 (9 + a1.toNatClampNeg) 4 a2) (fun s13 => some (s13, v9)))))))))))))
set_option maxRecDepth 100000 in
set_option maxHeartbeats 4000000 in
theorem w_X10_phase (C : cr_C p l e R s m args below meth c sfC 97 base D cA cX10_phase 4 RX10) (hr : meth.sig.returnType = some .int) (hR : 2 ≤ R.frames ∧ 43 ≤ R.locals) {res : cr_S × Int32} (σ : cr_S) (a1 : Int32) (a2 : Int32) (h : f_X10_phase σ a1 a2 = some res) : cr_W p l e R s m args below meth c sfC 97 base D cA 4 (MQ below (cr_Qi sfC 97 base D cA res) args s 0 0 (cr_A 97 base)) σ 0 [(0, .ref (base + 0)), (1, .int a1), (2, .int a2)] [] := by
  unfold f_X10_phase at h
  refine g_aload_n (pc' := 1) C dX10_phase_0 0 rfl rfl ?_
  refine g_iload_n (pc' := 2) C dX10_phase_1 1 rfl rfl ?_
  obtain ⟨q1, h2, h⟩ := bind_some h
  refine g_callVi (pc' := 5) (res := q1) C [.int a1] cY_X10_isPair rfl (o := 0) (by decide) rfl mv_X10_isPair mm_X10_72 ⟨Nat.le_trans (by decide) hR.1, Nat.le_trans (by decide) hR.2⟩ rfl (Nat.le_of_ble_eq_true rfl) rfl dX10_phase_2 (c_X10_isPair l base D cA σ a1 q1 h2) rfl ?_
  refine g_if_eq (pc' := 8) (tgt := 30) C dX10_phase_5 (by decide) rfl (fun hc => ?_) (fun hc => ?_)
  · rw [if_pos hc] at h
    refine g_iconst (pc' := 31) (v := (-1)) C dX10_phase_30 (by decide) rfl ?_
    exact g_iret C hr dX10_phase_31 h
  · rw [if_neg hc] at h
    refine g_iload_n (pc' := 9) C dX10_phase_8 2 rfl rfl ?_
    refine g_iconst (pc' := 10) (v := 0) C dX10_phase_9 (by decide) rfl ?_
    refine g_aload_n (pc' := 11) C dX10_phase_10 0 rfl rfl ?_
    refine gg_X10_12 (pc' := 14) (o := 0) (r := 1) C rfl rfl dX10_phase_11 rfl ?_
    refine gg_X10_62 (pc' := 17) (o := 1) (r := 2) C rfl rfl dX10_phase_14 rfl ?_
    refine g_iload_n (pc' := 18) C dX10_phase_17 1 rfl rfl ?_
    obtain ⟨h3, h⟩ := chk_some h
    refine g_aald (pc' := 19) C (o := 2) (by decide) rfl (cn := "ClashRocks$Pair") rfl (inb_d h3) dX10_phase_18 rfl ?_
    obtain ⟨h4, h⟩ := chk_some h
    refine gg_X10_76 (pc' := 22) (o := 9 + a1.toNatClampNeg) C h4 dX10_phase_19 rfl ?_
    refine g_iconst (pc' := 23) (v := 1) C dX10_phase_22 (by decide) rfl ?_
    refine g_isub (pc' := 24) C dX10_phase_23 rfl ?_
    obtain ⟨q5, h6, h⟩ := bind_some h
    refine g_callSi (pc' := 27) (res := q5) C [.int a2, .int 0, .int ((rF q1.1 (9 + a1.toNatClampNeg) 2) - 1)] cY_X10_isWithin mv_X10_isWithin mm_X10_54 ⟨Nat.le_trans (by decide) hR.1, Nat.le_trans (by decide) hR.2⟩ rfl (Nat.le_of_ble_eq_true rfl) rfl dX10_phase_24 (c_X10_isWithin l base D cA q1.1 a2 0 ((rF q1.1 (9 + a1.toNatClampNeg) 2) - 1) q5 h6) rfl ?_
    refine g_if_ne (pc' := 30) (tgt := 32) C dX10_phase_27 (by decide) rfl (fun hc => ?_) (fun hc => ?_)
    · rw [if_neg hc] at h
      refine g_aload_n (pc' := 33) C dX10_phase_32 0 rfl rfl ?_
      refine gg_X10_12 (pc' := 36) (o := 0) (r := 1) C rfl rfl dX10_phase_33 rfl ?_
      refine gg_X10_62 (pc' := 39) (o := 1) (r := 2) C rfl rfl dX10_phase_36 rfl ?_
      refine g_iload_n (pc' := 40) C dX10_phase_39 1 rfl rfl ?_
      obtain ⟨h7, h⟩ := chk_some h
      refine g_aald (pc' := 41) C (o := 2) (by decide) rfl (cn := "ClashRocks$Pair") rfl (inb_d h7) dX10_phase_40 rfl ?_
      obtain ⟨h8, h⟩ := chk_some h
      refine gg_X10_79 (pc' := 44) (o := 9 + a1.toNatClampNeg) C h8 dX10_phase_41 rfl ?_
      obtain ⟨v9, e10, h⟩ := let_some h
      refine g_nameI e10 ?_
      refine g_istore_n (pc' := 45) (lv' := [(3, .int v9), (0, .ref (base + 0)), (1, .int a1), (2, .int a2)]) C dX10_phase_44 rfl (by decide) rfl rfl ?_
      refine g_aload_n (pc' := 46) C dX10_phase_45 1 rfl rfl ?_
      refine gg_X10_12 (pc' := 49) (o := 0) (r := 1) C rfl rfl dX10_phase_46 rfl ?_
      refine gg_X10_62 (pc' := 52) (o := 1) (r := 2) C rfl rfl dX10_phase_49 rfl ?_
      refine g_iload_n (pc' := 53) C dX10_phase_52 2 rfl rfl ?_
      obtain ⟨h11, h⟩ := chk_some h
      refine g_aald (pc' := 54) C (o := 2) (by decide) rfl (cn := "ClashRocks$Pair") rfl (inb_d h11) dX10_phase_53 rfl ?_
      refine g_iload_n (pc' := 55) C dX10_phase_54 3 rfl rfl ?_
      obtain ⟨h12, h⟩ := chk_some h
      obtain ⟨s13, e14, h⟩ := let_some h
      refine gp_X10_79 (pc' := 58) (o := 9 + a1.toNatClampNeg) C h12 dX10_phase_55 rfl e14 ?_
      refine g_iload_n (pc' := 59) C dX10_phase_58 0 rfl rfl ?_
      exact g_iret C hr dX10_phase_59 h
    · rw [if_pos hc] at h
      refine g_iconst (pc' := 31) (v := (-1)) C dX10_phase_30 (by decide) rfl ?_
      exact g_iret C hr dX10_phase_31 h
theorem c_X10_phase (l : Launch) (base : Nat) (D : va_G) (cA : Nat → ClassId) (σ : cr_S) (a1 : Int32) (a2 : Int32) (res : cr_S × Int32) (h : f_X10_phase σ a1 a2 = some res) : cr_M l yX10_phase cX10_phase 4 (some .int) 2 43 sfC 97 base D cA [.ref (base + 0), .int a1, .int a2] σ (cr_Qi sfC 97 base D cA res) := by
  refine cr_enter [.ref (base + 0), .int a1, .int a2] [(0, .ref (base + 0)), (1, .int a1), (2, .int a2)] (by decide) (Nat.le_of_ble_eq_true rfl) rfl ?_
  intro p e R s m below meth c C hr hR
  exact w_X10_phase C hr hR σ a1 a2 h
noncomputable def f_X6_become (σ : cr_S) (o0 : Nat) (a1 : Int32) (a2 : Int32) (a3 : Int32) : Option (cr_S) :=
  chk (kC o0 = 6) (cr_let (sF σ o0 0 a1) (fun s2 => chk (kC o0 = 6) (cr_let (sF s2 o0 1 a2) (fun s5 => chk (kC o0 = 6) (cr_let (sF s5 o0 2 a3) (fun s8 => some s8))))))
set_option maxRecDepth 100000 in
set_option maxHeartbeats 4000000 in
theorem w_X6_become (C : cr_C p l e R s m args below meth c sfC 97 base D cA cX6_become 4 RX6) (hr : meth.sig.returnType = none) (hR : 0 ≤ R.frames ∧ 0 ≤ R.locals) {res : cr_S} (σ : cr_S) (o0 : Nat) (a1 : Int32) (a2 : Int32) (a3 : Int32) (h : f_X6_become σ o0 a1 a2 a3 = some res) : cr_W p l e R s m args below meth c sfC 97 base D cA 4 (MQ below (cr_Qv sfC 97 base D cA res) args s 0 0 (cr_A 97 base)) σ 0 [(0, .ref (base + o0)), (1, .int a1), (2, .int a2), (3, .int a3)] [] := by
  unfold f_X6_become at h
  refine g_aload_n (pc' := 1) C dX6_become_0 0 rfl rfl ?_
  refine g_iload_n (pc' := 2) C dX6_become_1 1 rfl rfl ?_
  obtain ⟨h1, h⟩ := chk_some h
  obtain ⟨s2, e3, h⟩ := let_some h
  refine gp_X6_16 (pc' := 5) (o := o0) C h1 dX6_become_2 rfl e3 ?_
  refine g_aload_n (pc' := 6) C dX6_become_5 0 rfl rfl ?_
  refine g_iload_n (pc' := 7) C dX6_become_6 2 rfl rfl ?_
  obtain ⟨h4, h⟩ := chk_some h
  obtain ⟨s5, e6, h⟩ := let_some h
  refine gp_X6_7 (pc' := 10) (o := o0) C h4 dX6_become_7 rfl e6 ?_
  refine g_aload_n (pc' := 11) C dX6_become_10 0 rfl rfl ?_
  refine g_iload_n (pc' := 12) C dX6_become_11 3 rfl rfl ?_
  obtain ⟨h7, h⟩ := chk_some h
  obtain ⟨s8, e9, h⟩ := let_some h
  refine gp_X6_13 (pc' := 15) (o := o0) C h7 dX6_become_12 rfl e9 ?_
  exact g_vret C hr dX6_become_15 h
theorem c_X6_become (l : Launch) (base : Nat) (D : va_G) (cA : Nat → ClassId) (σ : cr_S) (o0 : Nat) (a1 : Int32) (a2 : Int32) (a3 : Int32) (res : cr_S) (h : f_X6_become σ o0 a1 a2 a3 = some res) : cr_M l yX6_become cX6_become 4 none 0 0 sfC 97 base D cA [.ref (base + o0), .int a1, .int a2, .int a3] σ (cr_Qv sfC 97 base D cA res) := by
  refine cr_enter [.ref (base + o0), .int a1, .int a2, .int a3] [(0, .ref (base + o0)), (1, .int a1), (2, .int a2), (3, .int a3)] (by decide) (Nat.le_of_ble_eq_true rfl) rfl ?_
  intro p e R s m below meth c C hr hR
  exact w_X6_become C hr hR σ o0 a1 a2 a3 h
noncomputable def f_X10_ship (σ : cr_S) (a1 : Int32) (a2 : Int32) (a3 : Int32) : Option (cr_S × Int32) :=
  Option.bind (f_X10_isWithin σ a1 0 3) (fun q1 => (if q1.2 = 0 then some (q1.1, (-1)) else Option.bind (f_X10_isWithin q1.1 a2 1 9) (fun q3 => (if q3.2 = 0 then some (q3.1, (-1)) else Option.bind (f_X10_isWithin q3.1 a3 1 5) (fun q5 => (if q5.2 = 0 then some (q5.1, (-1)) else (if (rF q5.1 1 6) < 5 then chk (inb (rF q5.1 1 6) 5) (Option.bind (f_X6_become q5.1 (15 + (rF q5.1 1 6).toNatClampNeg) a1 a2 a3) (fun q8 => chk (kC (15 + (rF q5.1 1 6).toNatClampNeg) = 6) (cr_let (sF q8 1 6 ((rF q8 1 6) + 1)) (fun s11 => some (s11, rF q8 1 6))))) else some (q5.1, (-3)))))))))
set_option maxRecDepth 100000 in
set_option maxHeartbeats 4000000 in
theorem w_X10_ship (C : cr_C p l e R s m args below meth c sfC 97 base D cA cX10_ship 4 RX10) (hr : meth.sig.returnType = some .int) (hR : 1 ≤ R.frames ∧ 23 ≤ R.locals) {res : cr_S × Int32} (σ : cr_S) (a1 : Int32) (a2 : Int32) (a3 : Int32) (h : f_X10_ship σ a1 a2 a3 = some res) : cr_W p l e R s m args below meth c sfC 97 base D cA 4 (MQ below (cr_Qi sfC 97 base D cA res) args s 0 0 (cr_A 97 base)) σ 0 [(0, .ref (base + 0)), (1, .int a1), (2, .int a2), (3, .int a3)] [] := by
  unfold f_X10_ship at h
  refine g_iload_n (pc' := 1) C dX10_ship_0 1 rfl rfl ?_
  refine g_iconst (pc' := 2) (v := 0) C dX10_ship_1 (by decide) rfl ?_
  refine g_iconst (pc' := 3) (v := 3) C dX10_ship_2 (by decide) rfl ?_
  obtain ⟨q1, h2, h⟩ := bind_some h
  refine g_callSi (pc' := 6) (res := q1) C [.int a1, .int 0, .int 3] cY_X10_isWithin mv_X10_isWithin mm_X10_54 ⟨Nat.le_trans (by decide) hR.1, Nat.le_trans (by decide) hR.2⟩ rfl (Nat.le_of_ble_eq_true rfl) rfl dX10_ship_3 (c_X10_isWithin l base D cA σ a1 0 3 q1 h2) rfl ?_
  refine g_if_eq (pc' := 9) (tgt := 28) C dX10_ship_6 (by decide) rfl (fun hc => ?_) (fun hc => ?_)
  · rw [if_pos hc] at h
    refine g_iconst (pc' := 29) (v := (-1)) C dX10_ship_28 (by decide) rfl ?_
    exact g_iret C hr dX10_ship_29 h
  · rw [if_neg hc] at h
    refine g_iload_n (pc' := 10) C dX10_ship_9 2 rfl rfl ?_
    refine g_iconst (pc' := 11) (v := 1) C dX10_ship_10 (by decide) rfl ?_
    refine g_bipush (pc' := 13) (v := 9) C dX10_ship_11 (by decide) rfl ?_
    obtain ⟨q3, h4, h⟩ := bind_some h
    refine g_callSi (pc' := 16) (res := q3) C [.int a2, .int 1, .int 9] cY_X10_isWithin mv_X10_isWithin mm_X10_54 ⟨Nat.le_trans (by decide) hR.1, Nat.le_trans (by decide) hR.2⟩ rfl (Nat.le_of_ble_eq_true rfl) rfl dX10_ship_13 (c_X10_isWithin l base D cA q1.1 a2 1 9 q3 h4) rfl ?_
    refine g_if_eq (pc' := 19) (tgt := 28) C dX10_ship_16 (by decide) rfl (fun hc => ?_) (fun hc => ?_)
    · rw [if_pos hc] at h
      refine g_iconst (pc' := 29) (v := (-1)) C dX10_ship_28 (by decide) rfl ?_
      exact g_iret C hr dX10_ship_29 h
    · rw [if_neg hc] at h
      refine g_iload_n (pc' := 20) C dX10_ship_19 3 rfl rfl ?_
      refine g_iconst (pc' := 21) (v := 1) C dX10_ship_20 (by decide) rfl ?_
      refine g_iconst (pc' := 22) (v := 5) C dX10_ship_21 (by decide) rfl ?_
      obtain ⟨q5, h6, h⟩ := bind_some h
      refine g_callSi (pc' := 25) (res := q5) C [.int a3, .int 1, .int 5] cY_X10_isWithin mv_X10_isWithin mm_X10_54 ⟨Nat.le_trans (by decide) hR.1, Nat.le_trans (by decide) hR.2⟩ rfl (Nat.le_of_ble_eq_true rfl) rfl dX10_ship_22 (c_X10_isWithin l base D cA q3.1 a3 1 5 q5 h6) rfl ?_
      refine g_if_ne (pc' := 28) (tgt := 30) C dX10_ship_25 (by decide) rfl (fun hc => ?_) (fun hc => ?_)
      · rw [if_neg hc] at h
        refine g_aload_n (pc' := 31) C dX10_ship_30 0 rfl rfl ?_
        refine gg_X10_12 (pc' := 34) (o := 0) (r := 1) C rfl rfl dX10_ship_31 rfl ?_
        refine gg_X10_82 (pc' := 37) (o := 1) C rfl dX10_ship_34 rfl ?_
        refine g_iconst (pc' := 38) (v := 5) C dX10_ship_37 (by decide) rfl ?_
        refine g_icmp_lt (pc' := 41) (tgt := 44) C dX10_ship_38 (by decide) rfl (fun hc => ?_) (fun hc => ?_)
        · rw [if_pos hc] at h
          refine g_aload_n (pc' := 45) C dX10_ship_44 0 rfl rfl ?_
          refine gg_X10_12 (pc' := 48) (o := 0) (r := 1) C rfl rfl dX10_ship_45 rfl ?_
          refine gg_X10_85 (pc' := 51) (o := 1) (r := 3) C rfl rfl dX10_ship_48 rfl ?_
          refine g_aload_n (pc' := 52) C dX10_ship_51 0 rfl rfl ?_
          refine gg_X10_12 (pc' := 55) (o := 0) (r := 1) C rfl rfl dX10_ship_52 rfl ?_
          refine gg_X10_82 (pc' := 58) (o := 1) C rfl dX10_ship_55 rfl ?_
          obtain ⟨h7, h⟩ := chk_some h
          refine g_aald (pc' := 59) C (o := 3) (by decide) rfl (cn := "ClashRocks$Ship") rfl (inb_d h7) dX10_ship_58 rfl ?_
          refine g_iload_n (pc' := 60) C dX10_ship_59 1 rfl rfl ?_
          refine g_iload_n (pc' := 61) C dX10_ship_60 2 rfl rfl ?_
          refine g_iload_n (pc' := 62) C dX10_ship_61 3 rfl rfl ?_
          obtain ⟨q8, h9, h⟩ := bind_some h
          obtain ⟨h10, h⟩ := chk_some h
          refine g_callVv (pc' := 65) (res := q8) C [.int a1, .int a2, .int a3] cY_X6_become rfl (o := 15 + (rF q5.1 1 6).toNatClampNeg) (kC_lt h10 (by decide)) (sfC_6 h10) mv_X6_become mm_X10_89 ⟨Nat.le_trans (by decide) hR.1, Nat.le_trans (by decide) hR.2⟩ rfl (Nat.le_of_ble_eq_true rfl) rfl dX10_ship_62 (c_X6_become l base D cA q5.1 (15 + (rF q5.1 1 6).toNatClampNeg) a1 a2 a3 q8 h9) rfl ?_
          refine g_aload_n (pc' := 66) C dX10_ship_65 0 rfl rfl ?_
          refine gg_X10_12 (pc' := 69) (o := 0) (r := 1) C rfl rfl dX10_ship_66 rfl ?_
          refine g_dup (pc' := 70) C dX10_ship_69 rfl rfl ?_
          refine gg_X10_82 (pc' := 73) (o := 1) C rfl dX10_ship_70 rfl ?_
          refine g_dup_x1 (pc' := 74) C dX10_ship_73 rfl rfl rfl ?_
          refine g_iconst (pc' := 75) (v := 1) C dX10_ship_74 (by decide) rfl ?_
          refine g_iadd (pc' := 76) C dX10_ship_75 rfl ?_
          obtain ⟨s11, e12, h⟩ := let_some h
          refine gp_X10_82 (pc' := 79) (o := 1) C rfl dX10_ship_76 rfl e12 ?_
          exact g_iret C hr dX10_ship_79 h
        · rw [if_neg hc] at h
          refine g_bipush (pc' := 43) (v := (-3)) C dX10_ship_41 (by decide) rfl ?_
          exact g_iret C hr dX10_ship_43 h
      · rw [if_pos hc] at h
        refine g_iconst (pc' := 29) (v := (-1)) C dX10_ship_28 (by decide) rfl ?_
        exact g_iret C hr dX10_ship_29 h
theorem c_X10_ship (l : Launch) (base : Nat) (D : va_G) (cA : Nat → ClassId) (σ : cr_S) (a1 : Int32) (a2 : Int32) (a3 : Int32) (res : cr_S × Int32) (h : f_X10_ship σ a1 a2 a3 = some res) : cr_M l yX10_ship cX10_ship 4 (some .int) 1 23 sfC 97 base D cA [.ref (base + 0), .int a1, .int a2, .int a3] σ (cr_Qi sfC 97 base D cA res) := by
  refine cr_enter [.ref (base + 0), .int a1, .int a2, .int a3] [(0, .ref (base + 0)), (1, .int a1), (2, .int a2), (3, .int a3)] (by decide) (Nat.le_of_ble_eq_true rfl) rfl ?_
  intro p e R s m below meth c C hr hR
  exact w_X10_ship C hr hR σ a1 a2 a3 h
noncomputable def f_X10_of (σ : cr_S) (a1 : Int32) (a2 : Int32) : Option (cr_S × Int32) :=
  Option.bind (f_X10_isPair σ a1) (fun q1 => (if q1.2 = 0 then some (q1.1, (-1)) else chk (inb a1 6) ((if a2 = 0 then chk (kC (9 + a1.toNatClampNeg) = 3) (some (q1.1, rF q1.1 (9 + a1.toNatClampNeg) 0)) else (if a2 = 1 then chk (kC (9 + a1.toNatClampNeg) = 3) (some (q1.1, rF q1.1 (9 + a1.toNatClampNeg) 1)) else (if a2 = 2 then chk (kC (9 + a1.toNatClampNeg) = 3) (some (q1.1, rF q1.1 (9 + a1.toNatClampNeg) 2)) else (if a2 = 3 then chk (kC (9 + a1.toNatClampNeg) = 3) (some (q1.1, rF q1.1 (9 + a1.toNatClampNeg) 3)) else (if a2 = 4 then chk (kC (9 + a1.toNatClampNeg) = 3) (some (q1.1, rF q1.1 (9 + a1.toNatClampNeg) 4)) else some (q1.1, (-1))))))))))
set_option maxRecDepth 100000 in
set_option maxHeartbeats 4000000 in
theorem w_X10_of (C : cr_C p l e R s m args below meth c sfC 97 base D cA cX10_of 4 RX10) (hr : meth.sig.returnType = some .int) (hR : 2 ≤ R.frames ∧ 43 ≤ R.locals) {res : cr_S × Int32} (σ : cr_S) (a1 : Int32) (a2 : Int32) (h : f_X10_of σ a1 a2 = some res) : cr_W p l e R s m args below meth c sfC 97 base D cA 4 (MQ below (cr_Qi sfC 97 base D cA res) args s 0 0 (cr_A 97 base)) σ 0 [(0, .ref (base + 0)), (1, .int a1), (2, .int a2)] [] := by
  unfold f_X10_of at h
  refine g_aload_n (pc' := 1) C dX10_of_0 0 rfl rfl ?_
  refine g_iload_n (pc' := 2) C dX10_of_1 1 rfl rfl ?_
  obtain ⟨q1, h2, h⟩ := bind_some h
  refine g_callVi (pc' := 5) (res := q1) C [.int a1] cY_X10_isPair rfl (o := 0) (by decide) rfl mv_X10_isPair mm_X10_72 ⟨Nat.le_trans (by decide) hR.1, Nat.le_trans (by decide) hR.2⟩ rfl (Nat.le_of_ble_eq_true rfl) rfl dX10_of_2 (c_X10_isPair l base D cA σ a1 q1 h2) rfl ?_
  refine g_if_ne (pc' := 8) (tgt := 10) C dX10_of_5 (by decide) rfl (fun hc => ?_) (fun hc => ?_)
  · rw [if_neg hc] at h
    refine g_aload_n (pc' := 11) C dX10_of_10 0 rfl rfl ?_
    refine gg_X10_12 (pc' := 14) (o := 0) (r := 1) C rfl rfl dX10_of_11 rfl ?_
    refine gg_X10_62 (pc' := 17) (o := 1) (r := 2) C rfl rfl dX10_of_14 rfl ?_
    refine g_iload_n (pc' := 18) C dX10_of_17 1 rfl rfl ?_
    obtain ⟨h3, h⟩ := chk_some h
    refine g_aald (pc' := 19) C (o := 2) (by decide) rfl (cn := "ClashRocks$Pair") rfl (inb_d h3) dX10_of_18 rfl ?_
    refine g_astore_n (pc' := 20) (lv' := [(3, .ref (base + (9 + a1.toNatClampNeg))), (0, .ref (base + 0)), (1, .int a1), (2, .int a2)]) C dX10_of_19 rfl (by decide) rfl rfl ?_
    refine g_iload_n (pc' := 21) C dX10_of_20 3 rfl rfl ?_
    by_cases hc0 : a2 = 0
    · rw [if_pos hc0] at h
      refine g_tableIn (off := 35) (tgt := 56) C dX10_of_21 (by rw [hc0]; decide) (by rw [hc0]; decide) (by rw [hc0]; decide) (by decide) ?_
      refine g_aload_n (pc' := 57) C dX10_of_56 0 rfl rfl ?_
      obtain ⟨h4, h⟩ := chk_some h
      refine gg_X10_94 (pc' := 60) (o := 9 + a1.toNatClampNeg) C h4 dX10_of_57 rfl ?_
      exact g_iret C hr dX10_of_60 h
    rw [if_neg hc0] at h
    by_cases hc1 : a2 = 1
    · rw [if_pos hc1] at h
      refine g_tableIn (off := 40) (tgt := 61) C dX10_of_21 (by rw [hc1]; decide) (by rw [hc1]; decide) (by rw [hc1]; decide) (by decide) ?_
      refine g_aload_n (pc' := 62) C dX10_of_61 0 rfl rfl ?_
      obtain ⟨h5, h⟩ := chk_some h
      refine gg_X10_97 (pc' := 65) (o := 9 + a1.toNatClampNeg) C h5 dX10_of_62 rfl ?_
      exact g_iret C hr dX10_of_65 h
    rw [if_neg hc1] at h
    by_cases hc2 : a2 = 2
    · rw [if_pos hc2] at h
      refine g_tableIn (off := 45) (tgt := 66) C dX10_of_21 (by rw [hc2]; decide) (by rw [hc2]; decide) (by rw [hc2]; decide) (by decide) ?_
      refine g_aload_n (pc' := 67) C dX10_of_66 0 rfl rfl ?_
      obtain ⟨h6, h⟩ := chk_some h
      refine gg_X10_76 (pc' := 70) (o := 9 + a1.toNatClampNeg) C h6 dX10_of_67 rfl ?_
      exact g_iret C hr dX10_of_70 h
    rw [if_neg hc2] at h
    by_cases hc3 : a2 = 3
    · rw [if_pos hc3] at h
      refine g_tableIn (off := 50) (tgt := 71) C dX10_of_21 (by rw [hc3]; decide) (by rw [hc3]; decide) (by rw [hc3]; decide) (by decide) ?_
      refine g_aload_n (pc' := 72) C dX10_of_71 0 rfl rfl ?_
      obtain ⟨h7, h⟩ := chk_some h
      refine gg_X10_100 (pc' := 75) (o := 9 + a1.toNatClampNeg) C h7 dX10_of_72 rfl ?_
      exact g_iret C hr dX10_of_75 h
    rw [if_neg hc3] at h
    by_cases hc4 : a2 = 4
    · rw [if_pos hc4] at h
      refine g_tableIn (off := 55) (tgt := 76) C dX10_of_21 (by rw [hc4]; decide) (by rw [hc4]; decide) (by rw [hc4]; decide) (by decide) ?_
      refine g_aload_n (pc' := 77) C dX10_of_76 0 rfl rfl ?_
      obtain ⟨h8, h⟩ := chk_some h
      refine gg_X10_79 (pc' := 80) (o := 9 + a1.toNatClampNeg) C h8 dX10_of_77 rfl ?_
      exact g_iret C hr dX10_of_80 h
    rw [if_neg hc4] at h
    refine g_tableOut (tgt := 81) C dX10_of_21 (by have q0 : a2.toInt ≠ 0 := ne_toInt hc0; have q1 : a2.toInt ≠ 1 := ne_toInt hc1; have q2 : a2.toInt ≠ 2 := ne_toInt hc2; have q3 : a2.toInt ≠ 3 := ne_toInt hc3; have q4 : a2.toInt ≠ 4 := ne_toInt hc4; omega) (by decide) ?_
    refine g_iconst (pc' := 82) (v := (-1)) C dX10_of_81 (by decide) rfl ?_
    exact g_iret C hr dX10_of_82 h
  · rw [if_pos hc] at h
    refine g_iconst (pc' := 9) (v := (-1)) C dX10_of_8 (by decide) rfl ?_
    exact g_iret C hr dX10_of_9 h
theorem c_X10_of (l : Launch) (base : Nat) (D : va_G) (cA : Nat → ClassId) (σ : cr_S) (a1 : Int32) (a2 : Int32) (res : cr_S × Int32) (h : f_X10_of σ a1 a2 = some res) : cr_M l yX10_of cX10_of 4 (some .int) 2 43 sfC 97 base D cA [.ref (base + 0), .int a1, .int a2] σ (cr_Qi sfC 97 base D cA res) := by
  refine cr_enter [.ref (base + 0), .int a1, .int a2] [(0, .ref (base + 0)), (1, .int a1), (2, .int a2)] (by decide) (Nat.le_of_ble_eq_true rfl) rfl ?_
  intro p e R s m below meth c C hr hR
  exact w_X10_of C hr hR σ a1 a2 h
noncomputable def f_X10_isShip (σ : cr_S) (a1 : Int32) : Option (cr_S × Int32) :=
  Option.bind (f_X10_isWithin σ a1 0 ((rF σ 1 6) - 1)) (fun q1 => chk (isB q1.2) (some (q1.1, q1.2)))
set_option maxRecDepth 100000 in
set_option maxHeartbeats 4000000 in
theorem w_X10_isShip (C : cr_C p l e R s m args below meth c sfC 97 base D cA cX10_isShip 2 RX10) (hr : meth.sig.returnType = some .boolean) (hR : 1 ≤ R.frames ∧ 22 ≤ R.locals) {res : cr_S × Int32} (σ : cr_S) (a1 : Int32) (h : f_X10_isShip σ a1 = some res) : cr_W p l e R s m args below meth c sfC 97 base D cA 2 (MQ below (cr_Qi sfC 97 base D cA res) args s 0 0 (cr_A 97 base)) σ 0 [(0, .ref (base + 0)), (1, .int a1)] [] := by
  unfold f_X10_isShip at h
  refine g_iload_n (pc' := 1) C dX10_isShip_0 1 rfl rfl ?_
  refine g_iconst (pc' := 2) (v := 0) C dX10_isShip_1 (by decide) rfl ?_
  refine g_aload_n (pc' := 3) C dX10_isShip_2 0 rfl rfl ?_
  refine gg_X10_12 (pc' := 6) (o := 0) (r := 1) C rfl rfl dX10_isShip_3 rfl ?_
  refine gg_X10_82 (pc' := 9) (o := 1) C rfl dX10_isShip_6 rfl ?_
  refine g_iconst (pc' := 10) (v := 1) C dX10_isShip_9 (by decide) rfl ?_
  refine g_isub (pc' := 11) C dX10_isShip_10 rfl ?_
  obtain ⟨q1, h2, h⟩ := bind_some h
  refine g_callSi (pc' := 14) (res := q1) C [.int a1, .int 0, .int ((rF σ 1 6) - 1)] cY_X10_isWithin mv_X10_isWithin mm_X10_54 ⟨Nat.le_trans (by decide) hR.1, Nat.le_trans (by decide) hR.2⟩ rfl (Nat.le_of_ble_eq_true rfl) rfl dX10_isShip_11 (c_X10_isWithin l base D cA σ a1 0 ((rF σ 1 6) - 1) q1 h2) rfl ?_
  obtain ⟨h3, h⟩ := chk_some h
  exact g_zret C hr (isB_n h3) dX10_isShip_14 h
theorem c_X10_isShip (l : Launch) (base : Nat) (D : va_G) (cA : Nat → ClassId) (σ : cr_S) (a1 : Int32) (res : cr_S × Int32) (h : f_X10_isShip σ a1 = some res) : cr_M l yX10_isShip cX10_isShip 2 (some .boolean) 1 22 sfC 97 base D cA [.ref (base + 0), .int a1] σ (cr_Qi sfC 97 base D cA res) := by
  refine cr_enter [.ref (base + 0), .int a1] [(0, .ref (base + 0)), (1, .int a1)] (by decide) (Nat.le_of_ble_eq_true rfl) rfl ?_
  intro p e R s m below meth c C hr hR
  exact w_X10_isShip C hr hR σ a1 h
noncomputable def f_X6_high_B21  (σ : cr_S) (x0 : Nat) (t0 : Int32) : Option (cr_S × Int32) :=
  (if t0 = 0 then chk (kC x0 = 6) (some (σ, rF σ x0 2)) else chk (kC x0 = 6) ((if (rF σ x0 2) ≤ 2 then chk (kC x0 = 6) (some (σ, rF σ x0 2)) else some (σ, 2))))
set_option maxRecDepth 100000 in
set_option maxHeartbeats 4000000 in
theorem w_X6_high_B21 (C : cr_C p l e R s m args below meth c sfC 97 base D cA cX6_high 2 RX6) (hr : meth.sig.returnType = some .int) (hR : 0 ≤ R.frames ∧ 0 ≤ R.locals) {res : cr_S × Int32}  (σ : cr_S) (x0 : Nat) (t0 : Int32) (h : f_X6_high_B21 σ x0 t0 = some res) : cr_W p l e R s m args below meth c sfC 97 base D cA 2 (MQ below (cr_Qi sfC 97 base D cA res) args s 0 0 (cr_A 97 base)) σ 21 [(0, .ref (base + x0))] [.int t0] := by
  unfold f_X6_high_B21 at h
  refine g_istore_n (pc' := 22) (lv' := [(1, .int t0), (0, .ref (base + x0))]) C dX6_high_21 rfl (by decide) rfl rfl ?_
  refine g_iload_n (pc' := 23) C dX6_high_22 0 rfl rfl ?_
  refine g_if_eq (pc' := 26) (tgt := 38) C dX6_high_23 (by decide) rfl (fun hc => ?_) (fun hc => ?_)
  · rw [if_pos hc] at h
    refine g_aload_n (pc' := 39) C dX6_high_38 1 rfl rfl ?_
    obtain ⟨h2, h⟩ := chk_some h
    refine gg_X6_13 (pc' := 42) (o := x0) C h2 dX6_high_39 rfl ?_
    exact g_iret C hr dX6_high_42 h
  · rw [if_neg hc] at h
    refine g_aload_n (pc' := 27) C dX6_high_26 1 rfl rfl ?_
    obtain ⟨h3, h⟩ := chk_some h
    refine gg_X6_13 (pc' := 30) (o := x0) C h3 dX6_high_27 rfl ?_
    refine g_iconst (pc' := 31) (v := 2) C dX6_high_30 (by decide) rfl ?_
    refine g_icmp_le (pc' := 34) (tgt := 38) C dX6_high_31 (by decide) rfl (fun hc => ?_) (fun hc => ?_)
    · rw [if_pos hc] at h
      refine g_aload_n (pc' := 39) C dX6_high_38 1 rfl rfl ?_
      obtain ⟨h4, h⟩ := chk_some h
      refine gg_X6_13 (pc' := 42) (o := x0) C h4 dX6_high_39 rfl ?_
      exact g_iret C hr dX6_high_42 h
    · rw [if_neg hc] at h
      refine g_iconst (pc' := 35) (v := 2) C dX6_high_34 (by decide) rfl ?_
      refine g_goto (tgt := 42) C dX6_high_35 (by decide) ?_
      exact g_iret C hr dX6_high_42 h
noncomputable def f_X6_high_B16  (σ : cr_S) (x0 : Nat) : Option (cr_S × Int32) :=
  f_X6_high_B21 σ x0 1
set_option maxRecDepth 100000 in
set_option maxHeartbeats 4000000 in
theorem w_X6_high_B16 (C : cr_C p l e R s m args below meth c sfC 97 base D cA cX6_high 2 RX6) (hr : meth.sig.returnType = some .int) (hR : 0 ≤ R.frames ∧ 0 ≤ R.locals) {res : cr_S × Int32}  (σ : cr_S) (x0 : Nat) (h : f_X6_high_B16 σ x0 = some res) : cr_W p l e R s m args below meth c sfC 97 base D cA 2 (MQ below (cr_Qi sfC 97 base D cA res) args s 0 0 (cr_A 97 base)) σ 16 [(0, .ref (base + x0))] [] := by
  unfold f_X6_high_B16 at h
  refine g_iconst (pc' := 17) (v := 1) C dX6_high_16 (by decide) rfl ?_
  refine g_goto (tgt := 21) C dX6_high_17 (by decide) ?_
  exact g_sub C [0] rfl (w_X6_high_B21 C hr hR _ _ _ h)
noncomputable def f_X6_high (σ : cr_S) (o0 : Nat) : Option (cr_S × Int32) :=
  chk (kC o0 = 6) ((if (rF σ o0 0) = 1 then f_X6_high_B16 σ o0 else chk (kC o0 = 6) (f_X6_high_B21 σ o0 (if (rF σ o0 0) = 3 then 1 else 0))))
set_option maxRecDepth 100000 in
set_option maxHeartbeats 4000000 in
theorem w_X6_high (C : cr_C p l e R s m args below meth c sfC 97 base D cA cX6_high 2 RX6) (hr : meth.sig.returnType = some .int) (hR : 0 ≤ R.frames ∧ 0 ≤ R.locals) {res : cr_S × Int32} (σ : cr_S) (o0 : Nat) (h : f_X6_high σ o0 = some res) : cr_W p l e R s m args below meth c sfC 97 base D cA 2 (MQ below (cr_Qi sfC 97 base D cA res) args s 0 0 (cr_A 97 base)) σ 0 [(0, .ref (base + o0))] [] := by
  unfold f_X6_high at h
  refine g_aload_n (pc' := 1) C dX6_high_0 0 rfl rfl ?_
  obtain ⟨h1, h⟩ := chk_some h
  refine gg_X6_16 (pc' := 4) (o := o0) C h1 dX6_high_1 rfl ?_
  refine g_iconst (pc' := 5) (v := 1) C dX6_high_4 (by decide) rfl ?_
  refine g_icmp_eq (pc' := 8) (tgt := 16) C dX6_high_5 (by decide) rfl (fun hc => ?_) (fun hc => ?_)
  · rw [if_pos hc] at h
    exact g_sub C [0] rfl (w_X6_high_B16 C hr hR _ _ h)
  · rw [if_neg hc] at h
    refine g_aload_n (pc' := 9) C dX6_high_8 0 rfl rfl ?_
    obtain ⟨h5, h⟩ := chk_some h
    refine gg_X6_16 (pc' := 12) (o := o0) C h5 dX6_high_9 rfl ?_
    refine g_iconst (pc' := 13) (v := 3) C dX6_high_12 (by decide) rfl ?_
    refine g_iteI (σ := σ) (pj := 21) (lv := [(0, .ref (base + o0))]) (st := []) (cd := (rF σ o0 0) = 3) (a := 1) (b := 0) C ?_ (fun kt kf => ?_)
    · exact g_sub C [0] rfl (w_X6_high_B21 C hr hR _ _ _ h)
    · refine g_icmp_ne (pc' := 16) (tgt := 20) C dX6_high_13 (by decide) rfl (fun hc => ?_) (fun hc => ?_)
      · refine g_iconst (pc' := 21) (v := 0) C dX6_high_20 (by decide) rfl ?_
        exact kf hc
      · refine g_iconst (pc' := 17) (v := 1) C dX6_high_16 (by decide) rfl ?_
        refine g_goto (tgt := 21) C dX6_high_17 (by decide) ?_
        exact kt hc
theorem c_X6_high (l : Launch) (base : Nat) (D : va_G) (cA : Nat → ClassId) (σ : cr_S) (o0 : Nat) (res : cr_S × Int32) (h : f_X6_high σ o0 = some res) : cr_M l yX6_high cX6_high 2 (some .int) 0 0 sfC 97 base D cA [.ref (base + o0)] σ (cr_Qi sfC 97 base D cA res) := by
  refine cr_enter [.ref (base + o0)] [(0, .ref (base + o0))] (by decide) (Nat.le_of_ble_eq_true rfl) rfl ?_
  intro p e R s m below meth c C hr hR
  exact w_X6_high C hr hR σ o0 h
noncomputable def f_X6_low (σ : cr_S) (o0 : Nat) : Option (cr_S × Int32) :=
  chk (kC o0 = 6) ((if (rF σ o0 0) = 2 then Option.bind (f_X6_high σ o0) (fun q2 => chk (kC o0 = 6) (some (q2.1, q2.2))) else some (σ, 1)))
set_option maxRecDepth 100000 in
set_option maxHeartbeats 4000000 in
theorem w_X6_low (C : cr_C p l e R s m args below meth c sfC 97 base D cA cX6_low 1 RX6) (hr : meth.sig.returnType = some .int) (hR : 1 ≤ R.frames ∧ 21 ≤ R.locals) {res : cr_S × Int32} (σ : cr_S) (o0 : Nat) (h : f_X6_low σ o0 = some res) : cr_W p l e R s m args below meth c sfC 97 base D cA 1 (MQ below (cr_Qi sfC 97 base D cA res) args s 0 0 (cr_A 97 base)) σ 0 [(0, .ref (base + o0))] [] := by
  unfold f_X6_low at h
  refine g_aload_n (pc' := 1) C dX6_low_0 0 rfl rfl ?_
  obtain ⟨h1, h⟩ := chk_some h
  refine gg_X6_16 (pc' := 4) (o := o0) C h1 dX6_low_1 rfl ?_
  refine g_iconst (pc' := 5) (v := 2) C dX6_low_4 (by decide) rfl ?_
  refine g_icmp_ne (pc' := 8) (tgt := 15) C dX6_low_5 (by decide) rfl (fun hc => ?_) (fun hc => ?_)
  · rw [if_neg hc] at h
    refine g_iconst (pc' := 16) (v := 1) C dX6_low_15 (by decide) rfl ?_
    exact g_iret C hr dX6_low_16 h
  · rw [if_pos hc] at h
    refine g_aload_n (pc' := 9) C dX6_low_8 0 rfl rfl ?_
    obtain ⟨q2, h3, h⟩ := bind_some h
    obtain ⟨h4, h⟩ := chk_some h
    refine g_callVi (pc' := 12) (res := q2) C [] cY_X6_high rfl (o := o0) (kC_lt h4 (by decide)) (sfC_6 h4) mv_X6_high mm_X6_23 ⟨Nat.le_trans (by decide) hR.1, Nat.le_trans (by decide) hR.2⟩ rfl (Nat.le_of_ble_eq_true rfl) rfl dX6_low_9 (c_X6_high l base D cA σ o0 q2 h3) rfl ?_
    refine g_goto (tgt := 16) C dX6_low_12 (by decide) ?_
    exact g_iret C hr dX6_low_16 h
theorem c_X6_low (l : Launch) (base : Nat) (D : va_G) (cA : Nat → ClassId) (σ : cr_S) (o0 : Nat) (res : cr_S × Int32) (h : f_X6_low σ o0 = some res) : cr_M l yX6_low cX6_low 1 (some .int) 1 21 sfC 97 base D cA [.ref (base + o0)] σ (cr_Qi sfC 97 base D cA res) := by
  refine cr_enter [.ref (base + o0)] [(0, .ref (base + o0))] (by decide) (Nat.le_of_ble_eq_true rfl) rfl ?_
  intro p e R s m below meth c C hr hR
  exact w_X6_low C hr hR σ o0 h
noncomputable def f_X6_span (σ : cr_S) (o0 : Nat) : Option (cr_S × Int32) :=
  chk (kC o0 = 6) ((if (rF σ o0 0) = 3 then chk (kC o0 = 6) (some (σ, (rF σ o0 1) + 2)) else chk (kC o0 = 6) (some (σ, rF σ o0 1))))
set_option maxRecDepth 100000 in
set_option maxHeartbeats 4000000 in
theorem w_X6_span (C : cr_C p l e R s m args below meth c sfC 97 base D cA cX6_span 1 RX6) (hr : meth.sig.returnType = some .int) (hR : 0 ≤ R.frames ∧ 0 ≤ R.locals) {res : cr_S × Int32} (σ : cr_S) (o0 : Nat) (h : f_X6_span σ o0 = some res) : cr_W p l e R s m args below meth c sfC 97 base D cA 1 (MQ below (cr_Qi sfC 97 base D cA res) args s 0 0 (cr_A 97 base)) σ 0 [(0, .ref (base + o0))] [] := by
  unfold f_X6_span at h
  refine g_aload_n (pc' := 1) C dX6_span_0 0 rfl rfl ?_
  obtain ⟨h1, h⟩ := chk_some h
  refine gg_X6_16 (pc' := 4) (o := o0) C h1 dX6_span_1 rfl ?_
  refine g_iconst (pc' := 5) (v := 3) C dX6_span_4 (by decide) rfl ?_
  refine g_icmp_ne (pc' := 8) (tgt := 17) C dX6_span_5 (by decide) rfl (fun hc => ?_) (fun hc => ?_)
  · rw [if_neg hc] at h
    refine g_aload_n (pc' := 18) C dX6_span_17 0 rfl rfl ?_
    obtain ⟨h2, h⟩ := chk_some h
    refine gg_X6_7 (pc' := 21) (o := o0) C h2 dX6_span_18 rfl ?_
    exact g_iret C hr dX6_span_21 h
  · rw [if_pos hc] at h
    refine g_aload_n (pc' := 9) C dX6_span_8 0 rfl rfl ?_
    obtain ⟨h3, h⟩ := chk_some h
    refine gg_X6_7 (pc' := 12) (o := o0) C h3 dX6_span_9 rfl ?_
    refine g_iconst (pc' := 13) (v := 2) C dX6_span_12 (by decide) rfl ?_
    refine g_iadd (pc' := 14) C dX6_span_13 rfl ?_
    refine g_goto (tgt := 21) C dX6_span_14 (by decide) ?_
    exact g_iret C hr dX6_span_21 h
theorem c_X6_span (l : Launch) (base : Nat) (D : va_G) (cA : Nat → ClassId) (σ : cr_S) (o0 : Nat) (res : cr_S × Int32) (h : f_X6_span σ o0 = some res) : cr_M l yX6_span cX6_span 1 (some .int) 0 0 sfC 97 base D cA [.ref (base + o0)] σ (cr_Qi sfC 97 base D cA res) := by
  refine cr_enter [.ref (base + o0)] [(0, .ref (base + o0))] (by decide) (Nat.le_of_ble_eq_true rfl) rfl ?_
  intro p e R s m below meth c C hr hR
  exact w_X6_span C hr hR σ o0 h
noncomputable def f_X10_told (σ : cr_S) (a1 : Int32) (a2 : Int32) : Option (cr_S × Int32) :=
  Option.bind (f_X10_isShip σ a1) (fun q1 => (if q1.2 = 0 then some (q1.1, (-1)) else chk (inb a1 5) ((if a2 = 0 then chk (kC (15 + a1.toNatClampNeg) = 6) (some (q1.1, rF q1.1 (15 + a1.toNatClampNeg) 0)) else (if a2 = 1 then chk (kC (15 + a1.toNatClampNeg) = 6) (some (q1.1, rF q1.1 (15 + a1.toNatClampNeg) 1)) else (if a2 = 2 then chk (kC (15 + a1.toNatClampNeg) = 6) (some (q1.1, rF q1.1 (15 + a1.toNatClampNeg) 2)) else (if a2 = 3 then Option.bind (f_X6_low q1.1 (15 + a1.toNatClampNeg)) (fun q7 => chk (kC (15 + a1.toNatClampNeg) = 6) (some (q7.1, q7.2))) else (if a2 = 4 then Option.bind (f_X6_high q1.1 (15 + a1.toNatClampNeg)) (fun q10 => chk (kC (15 + a1.toNatClampNeg) = 6) (some (q10.1, q10.2))) else (if a2 = 5 then Option.bind (f_X6_span q1.1 (15 + a1.toNatClampNeg)) (fun q13 => chk (kC (15 + a1.toNatClampNeg) = 6) (some (q13.1, q13.2))) else some (q1.1, (-1)))))))))))
set_option maxRecDepth 100000 in
set_option maxHeartbeats 4000000 in
theorem w_X10_told (C : cr_C p l e R s m args below meth c sfC 97 base D cA cX10_told 4 RX10) (hr : meth.sig.returnType = some .int) (hR : 2 ≤ R.frames ∧ 43 ≤ R.locals) {res : cr_S × Int32} (σ : cr_S) (a1 : Int32) (a2 : Int32) (h : f_X10_told σ a1 a2 = some res) : cr_W p l e R s m args below meth c sfC 97 base D cA 4 (MQ below (cr_Qi sfC 97 base D cA res) args s 0 0 (cr_A 97 base)) σ 0 [(0, .ref (base + 0)), (1, .int a1), (2, .int a2)] [] := by
  unfold f_X10_told at h
  refine g_aload_n (pc' := 1) C dX10_told_0 0 rfl rfl ?_
  refine g_iload_n (pc' := 2) C dX10_told_1 1 rfl rfl ?_
  obtain ⟨q1, h2, h⟩ := bind_some h
  refine g_callVi (pc' := 5) (res := q1) C [.int a1] cY_X10_isShip rfl (o := 0) (by decide) rfl mv_X10_isShip mm_X10_103 ⟨Nat.le_trans (by decide) hR.1, Nat.le_trans (by decide) hR.2⟩ rfl (Nat.le_of_ble_eq_true rfl) rfl dX10_told_2 (c_X10_isShip l base D cA σ a1 q1 h2) rfl ?_
  refine g_if_ne (pc' := 8) (tgt := 10) C dX10_told_5 (by decide) rfl (fun hc => ?_) (fun hc => ?_)
  · rw [if_neg hc] at h
    refine g_aload_n (pc' := 11) C dX10_told_10 0 rfl rfl ?_
    refine gg_X10_12 (pc' := 14) (o := 0) (r := 1) C rfl rfl dX10_told_11 rfl ?_
    refine gg_X10_85 (pc' := 17) (o := 1) (r := 3) C rfl rfl dX10_told_14 rfl ?_
    refine g_iload_n (pc' := 18) C dX10_told_17 1 rfl rfl ?_
    obtain ⟨h3, h⟩ := chk_some h
    refine g_aald (pc' := 19) C (o := 3) (by decide) rfl (cn := "ClashRocks$Ship") rfl (inb_d h3) dX10_told_18 rfl ?_
    refine g_astore_n (pc' := 20) (lv' := [(3, .ref (base + (15 + a1.toNatClampNeg))), (0, .ref (base + 0)), (1, .int a1), (2, .int a2)]) C dX10_told_19 rfl (by decide) rfl rfl ?_
    refine g_iload_n (pc' := 21) C dX10_told_20 3 rfl rfl ?_
    by_cases hc0 : a2 = 0
    · rw [if_pos hc0] at h
      refine g_tableIn (off := 39) (tgt := 60) C dX10_told_21 (by rw [hc0]; decide) (by rw [hc0]; decide) (by rw [hc0]; decide) (by decide) ?_
      refine g_aload_n (pc' := 61) C dX10_told_60 0 rfl rfl ?_
      obtain ⟨h4, h⟩ := chk_some h
      refine gg_X10_106 (pc' := 64) (o := 15 + a1.toNatClampNeg) C h4 dX10_told_61 rfl ?_
      exact g_iret C hr dX10_told_64 h
    rw [if_neg hc0] at h
    by_cases hc1 : a2 = 1
    · rw [if_pos hc1] at h
      refine g_tableIn (off := 44) (tgt := 65) C dX10_told_21 (by rw [hc1]; decide) (by rw [hc1]; decide) (by rw [hc1]; decide) (by decide) ?_
      refine g_aload_n (pc' := 66) C dX10_told_65 0 rfl rfl ?_
      obtain ⟨h5, h⟩ := chk_some h
      refine gg_X10_107 (pc' := 69) (o := 15 + a1.toNatClampNeg) C h5 dX10_told_66 rfl ?_
      exact g_iret C hr dX10_told_69 h
    rw [if_neg hc1] at h
    by_cases hc2 : a2 = 2
    · rw [if_pos hc2] at h
      refine g_tableIn (off := 49) (tgt := 70) C dX10_told_21 (by rw [hc2]; decide) (by rw [hc2]; decide) (by rw [hc2]; decide) (by decide) ?_
      refine g_aload_n (pc' := 71) C dX10_told_70 0 rfl rfl ?_
      obtain ⟨h6, h⟩ := chk_some h
      refine gg_X10_110 (pc' := 74) (o := 15 + a1.toNatClampNeg) C h6 dX10_told_71 rfl ?_
      exact g_iret C hr dX10_told_74 h
    rw [if_neg hc2] at h
    by_cases hc3 : a2 = 3
    · rw [if_pos hc3] at h
      refine g_tableIn (off := 54) (tgt := 75) C dX10_told_21 (by rw [hc3]; decide) (by rw [hc3]; decide) (by rw [hc3]; decide) (by decide) ?_
      refine g_aload_n (pc' := 76) C dX10_told_75 0 rfl rfl ?_
      obtain ⟨q7, h8, h⟩ := bind_some h
      obtain ⟨h9, h⟩ := chk_some h
      refine g_callVi (pc' := 79) (res := q7) C [] cY_X6_low rfl (o := 15 + a1.toNatClampNeg) (kC_lt h9 (by decide)) (sfC_6 h9) mv_X6_low mm_X10_113 ⟨Nat.le_trans (by decide) hR.1, Nat.le_trans (by decide) hR.2⟩ rfl (Nat.le_of_ble_eq_true rfl) rfl dX10_told_76 (c_X6_low l base D cA q1.1 (15 + a1.toNatClampNeg) q7 h8) rfl ?_
      exact g_iret C hr dX10_told_79 h
    rw [if_neg hc3] at h
    by_cases hc4 : a2 = 4
    · rw [if_pos hc4] at h
      refine g_tableIn (off := 59) (tgt := 80) C dX10_told_21 (by rw [hc4]; decide) (by rw [hc4]; decide) (by rw [hc4]; decide) (by decide) ?_
      refine g_aload_n (pc' := 81) C dX10_told_80 0 rfl rfl ?_
      obtain ⟨q10, h11, h⟩ := bind_some h
      obtain ⟨h12, h⟩ := chk_some h
      refine g_callVi (pc' := 84) (res := q10) C [] cY_X6_high rfl (o := 15 + a1.toNatClampNeg) (kC_lt h12 (by decide)) (sfC_6 h12) mv_X6_high mm_X10_117 ⟨Nat.le_trans (by decide) hR.1, Nat.le_trans (by decide) hR.2⟩ rfl (Nat.le_of_ble_eq_true rfl) rfl dX10_told_81 (c_X6_high l base D cA q1.1 (15 + a1.toNatClampNeg) q10 h11) rfl ?_
      exact g_iret C hr dX10_told_84 h
    rw [if_neg hc4] at h
    by_cases hc5 : a2 = 5
    · rw [if_pos hc5] at h
      refine g_tableIn (off := 64) (tgt := 85) C dX10_told_21 (by rw [hc5]; decide) (by rw [hc5]; decide) (by rw [hc5]; decide) (by decide) ?_
      refine g_aload_n (pc' := 86) C dX10_told_85 0 rfl rfl ?_
      obtain ⟨q13, h14, h⟩ := bind_some h
      obtain ⟨h15, h⟩ := chk_some h
      refine g_callVi (pc' := 89) (res := q13) C [] cY_X6_span rfl (o := 15 + a1.toNatClampNeg) (kC_lt h15 (by decide)) (sfC_6 h15) mv_X6_span mm_X10_120 ⟨Nat.le_trans (by decide) hR.1, Nat.le_trans (by decide) hR.2⟩ rfl (Nat.le_of_ble_eq_true rfl) rfl dX10_told_86 (c_X6_span l base D cA q1.1 (15 + a1.toNatClampNeg) q13 h14) rfl ?_
      exact g_iret C hr dX10_told_89 h
    rw [if_neg hc5] at h
    refine g_tableOut (tgt := 90) C dX10_told_21 (by have q0 : a2.toInt ≠ 0 := ne_toInt hc0; have q1 : a2.toInt ≠ 1 := ne_toInt hc1; have q2 : a2.toInt ≠ 2 := ne_toInt hc2; have q3 : a2.toInt ≠ 3 := ne_toInt hc3; have q4 : a2.toInt ≠ 4 := ne_toInt hc4; have q5 : a2.toInt ≠ 5 := ne_toInt hc5; omega) (by decide) ?_
    refine g_iconst (pc' := 91) (v := (-1)) C dX10_told_90 (by decide) rfl ?_
    exact g_iret C hr dX10_told_91 h
  · rw [if_pos hc] at h
    refine g_iconst (pc' := 9) (v := (-1)) C dX10_told_8 (by decide) rfl ?_
    exact g_iret C hr dX10_told_9 h
theorem c_X10_told (l : Launch) (base : Nat) (D : va_G) (cA : Nat → ClassId) (σ : cr_S) (a1 : Int32) (a2 : Int32) (res : cr_S × Int32) (h : f_X10_told σ a1 a2 = some res) : cr_M l yX10_told cX10_told 4 (some .int) 2 43 sfC 97 base D cA [.ref (base + 0), .int a1, .int a2] σ (cr_Qi sfC 97 base D cA res) := by
  refine cr_enter [.ref (base + 0), .int a1, .int a2] [(0, .ref (base + 0)), (1, .int a1), (2, .int a2)] (by decide) (Nat.le_of_ble_eq_true rfl) rfl ?_
  intro p e R s m below meth c C hr hR
  exact w_X10_told C hr hR σ a1 a2 h
noncomputable def f_X3_isPlainOpen (σ : cr_S) (o0 : Nat) (a1 : Int32) (a2 : Int32) : Option (cr_S × Int32) :=
  chk (kC o0 = 3) ((if (rF σ o0 2) ≤ 0 then some (σ, 0) else chk (kC o0 = 3) (chk (¬ (rF σ o0 2) = 0) (chk (kC o0 = 3) ((if (rF σ o0 3) ≤ ((a1 + a2) - (a1 + a2) / (rF σ o0 2) * (rF σ o0 2)) then some (σ, 0) else some (σ, 1)))))))
set_option maxRecDepth 100000 in
set_option maxHeartbeats 4000000 in
theorem w_X3_isPlainOpen (C : cr_C p l e R s m args below meth c sfC 97 base D cA cX3_isPlainOpen 3 RX3) (hr : meth.sig.returnType = some .boolean) (hR : 0 ≤ R.frames ∧ 0 ≤ R.locals) {res : cr_S × Int32} (σ : cr_S) (o0 : Nat) (a1 : Int32) (a2 : Int32) (h : f_X3_isPlainOpen σ o0 a1 a2 = some res) : cr_W p l e R s m args below meth c sfC 97 base D cA 3 (MQ below (cr_Qi sfC 97 base D cA res) args s 0 0 (cr_A 97 base)) σ 0 [(0, .ref (base + o0)), (1, .int a1), (2, .int a2)] [] := by
  unfold f_X3_isPlainOpen at h
  refine g_aload_n (pc' := 1) C dX3_isPlainOpen_0 0 rfl rfl ?_
  obtain ⟨h1, h⟩ := chk_some h
  refine gg_X3_15 (pc' := 4) (o := o0) C h1 dX3_isPlainOpen_1 rfl ?_
  refine g_if_le (pc' := 7) (tgt := 26) C dX3_isPlainOpen_4 (by decide) rfl (fun hc => ?_) (fun hc => ?_)
  · rw [if_pos hc] at h
    refine g_iconst (pc' := 27) (v := 0) C dX3_isPlainOpen_26 (by decide) rfl ?_
    exact g_zret C hr rfl dX3_isPlainOpen_27 h
  · rw [if_neg hc] at h
    refine g_iload_n (pc' := 8) C dX3_isPlainOpen_7 1 rfl rfl ?_
    refine g_iload_n (pc' := 9) C dX3_isPlainOpen_8 2 rfl rfl ?_
    refine g_iadd (pc' := 10) C dX3_isPlainOpen_9 rfl ?_
    refine g_aload_n (pc' := 11) C dX3_isPlainOpen_10 0 rfl rfl ?_
    obtain ⟨h2, h⟩ := chk_some h
    refine gg_X3_15 (pc' := 14) (o := o0) C h2 dX3_isPlainOpen_11 rfl ?_
    obtain ⟨h3, h⟩ := chk_some h
    refine g_irem (pc' := 15) C dX3_isPlainOpen_14 h3 rfl ?_
    refine g_aload_n (pc' := 16) C dX3_isPlainOpen_15 0 rfl rfl ?_
    obtain ⟨h4, h⟩ := chk_some h
    refine gg_X3_18 (pc' := 19) (o := o0) C h4 dX3_isPlainOpen_16 rfl ?_
    refine g_icmp_ge (pc' := 22) (tgt := 26) C dX3_isPlainOpen_19 (by decide) rfl (fun hc => ?_) (fun hc => ?_)
    · rw [if_pos hc] at h
      refine g_iconst (pc' := 27) (v := 0) C dX3_isPlainOpen_26 (by decide) rfl ?_
      exact g_zret C hr rfl dX3_isPlainOpen_27 h
    · rw [if_neg hc] at h
      refine g_iconst (pc' := 23) (v := 1) C dX3_isPlainOpen_22 (by decide) rfl ?_
      refine g_goto (tgt := 27) C dX3_isPlainOpen_23 (by decide) ?_
      exact g_zret C hr rfl dX3_isPlainOpen_27 h
theorem c_X3_isPlainOpen (l : Launch) (base : Nat) (D : va_G) (cA : Nat → ClassId) (σ : cr_S) (o0 : Nat) (a1 : Int32) (a2 : Int32) (res : cr_S × Int32) (h : f_X3_isPlainOpen σ o0 a1 a2 = some res) : cr_M l yX3_isPlainOpen cX3_isPlainOpen 3 (some .boolean) 0 0 sfC 97 base D cA [.ref (base + o0), .int a1, .int a2] σ (cr_Qi sfC 97 base D cA res) := by
  refine cr_enter [.ref (base + o0), .int a1, .int a2] [(0, .ref (base + o0)), (1, .int a1), (2, .int a2)] (by decide) (Nat.le_of_ble_eq_true rfl) rfl ?_
  intro p e R s m below meth c C hr hR
  exact w_X3_isPlainOpen C hr hR σ o0 a1 a2 h
noncomputable def f_X3_isOpenAt (σ : cr_S) (o0 : Nat) (a1 : Int32) (a2 : Int32) : Option (cr_S × Int32) :=
  chk (kC o0 = 3) (cr_let (rF σ o0 0) (fun v2 => (if v2 = 1 then Option.bind (f_X3_isPlainOpen σ o0 (a1 / 2) a2) (fun q4 => chk (kC o0 = 3) (chk (isB q4.2) (some (q4.1, q4.2)))) else (if v2 = 2 then Option.bind (f_X3_isPlainOpen σ o0 a1 a2) (fun q8 => chk (kC o0 = 3) ((if q8.2 = 0 then chk (kC o0 = 3) (Option.bind (f_X3_isPlainOpen q8.1 o0 (a1 + ((rF q8.1 o0 2) / 2)) a2) (fun q12 => chk (kC o0 = 3) (chk (isB (if q12.2 = 0 then 0 else 1)) (some (q12.1, if q12.2 = 0 then 0 else 1))))) else some (q8.1, 1)))) else (if v2 = 3 then (if a1 ≤ 0 then some (σ, 0) else Option.bind (f_X3_isPlainOpen σ o0 (a1 / 2) a2) (fun q16 => chk (kC o0 = 3) ((if q16.2 = 0 then some (q16.1, 0) else Option.bind (f_X3_isPlainOpen q16.1 o0 ((a1 - 1) / 2) a2) (fun q19 => chk (kC o0 = 3) ((if q19.2 = 0 then some (q19.1, 0) else some (q19.1, 1)))))))) else Option.bind (f_X3_isPlainOpen σ o0 a1 a2) (fun q22 => chk (kC o0 = 3) (chk (isB q22.2) (some (q22.1, q22.2)))))))))
set_option maxRecDepth 100000 in
set_option maxHeartbeats 4000000 in
theorem w_X3_isOpenAt (C : cr_C p l e R s m args below meth c sfC 97 base D cA cX3_isOpenAt 3 RX3) (hr : meth.sig.returnType = some .boolean) (hR : 1 ≤ R.frames ∧ 22 ≤ R.locals) {res : cr_S × Int32} (σ : cr_S) (o0 : Nat) (a1 : Int32) (a2 : Int32) (h : f_X3_isOpenAt σ o0 a1 a2 = some res) : cr_W p l e R s m args below meth c sfC 97 base D cA 3 (MQ below (cr_Qi sfC 97 base D cA res) args s 0 0 (cr_A 97 base)) σ 0 [(0, .ref (base + o0)), (1, .int a1), (2, .int a2)] [] := by
  unfold f_X3_isOpenAt at h
  refine g_aload_n (pc' := 1) C dX3_isOpenAt_0 0 rfl rfl ?_
  obtain ⟨h1, h⟩ := chk_some h
  refine gg_X3_21 (pc' := 4) (o := o0) C h1 dX3_isOpenAt_1 rfl ?_
  obtain ⟨v2, e3, h⟩ := let_some h
  refine g_nameI e3 ?_
  by_cases hc0 : v2 = 1
  · rw [if_pos hc0] at h
    refine g_tableIn (off := 28) (tgt := 32) C dX3_isOpenAt_4 (by rw [hc0]; decide) (by rw [hc0]; decide) (by rw [hc0]; decide) (by decide) ?_
    refine g_aload_n (pc' := 33) C dX3_isOpenAt_32 0 rfl rfl ?_
    refine g_iload_n (pc' := 34) C dX3_isOpenAt_33 1 rfl rfl ?_
    refine g_iconst (pc' := 35) (v := 2) C dX3_isOpenAt_34 (by decide) rfl ?_
    refine g_idiv (pc' := 36) C dX3_isOpenAt_35 (by decide) rfl ?_
    refine g_iload_n (pc' := 37) C dX3_isOpenAt_36 2 rfl rfl ?_
    obtain ⟨q4, h5, h⟩ := bind_some h
    obtain ⟨h6, h⟩ := chk_some h
    refine g_callVi (pc' := 40) (res := q4) C [.int (a1 / 2), .int a2] cY_X3_isPlainOpen rfl (o := o0) (kC_lt h6 (by decide)) (sfC_3 h6) mv_X3_isPlainOpen mm_X3_35 ⟨Nat.le_trans (by decide) hR.1, Nat.le_trans (by decide) hR.2⟩ rfl (Nat.le_of_ble_eq_true rfl) rfl dX3_isOpenAt_37 (c_X3_isPlainOpen l base D cA σ o0 (a1 / 2) a2 q4 h5) rfl ?_
    obtain ⟨h7, h⟩ := chk_some h
    exact g_zret C hr (isB_n h7) dX3_isOpenAt_40 h
  rw [if_neg hc0] at h
  by_cases hc1 : v2 = 2
  · rw [if_pos hc1] at h
    refine g_tableIn (off := 37) (tgt := 41) C dX3_isOpenAt_4 (by rw [hc1]; decide) (by rw [hc1]; decide) (by rw [hc1]; decide) (by decide) ?_
    refine g_aload_n (pc' := 42) C dX3_isOpenAt_41 0 rfl rfl ?_
    refine g_iload_n (pc' := 43) C dX3_isOpenAt_42 1 rfl rfl ?_
    refine g_iload_n (pc' := 44) C dX3_isOpenAt_43 2 rfl rfl ?_
    obtain ⟨q8, h9, h⟩ := bind_some h
    obtain ⟨h10, h⟩ := chk_some h
    refine g_callVi (pc' := 47) (res := q8) C [.int a1, .int a2] cY_X3_isPlainOpen rfl (o := o0) (kC_lt h10 (by decide)) (sfC_3 h10) mv_X3_isPlainOpen mm_X3_35 ⟨Nat.le_trans (by decide) hR.1, Nat.le_trans (by decide) hR.2⟩ rfl (Nat.le_of_ble_eq_true rfl) rfl dX3_isOpenAt_44 (c_X3_isPlainOpen l base D cA σ o0 a1 a2 q8 h9) rfl ?_
    refine g_if_ne (pc' := 50) (tgt := 66) C dX3_isOpenAt_47 (by decide) rfl (fun hc => ?_) (fun hc => ?_)
    · rw [if_neg hc] at h
      refine g_iconst (pc' := 67) (v := 1) C dX3_isOpenAt_66 (by decide) rfl ?_
      refine g_goto (tgt := 71) C dX3_isOpenAt_67 (by decide) ?_
      exact g_zret C hr rfl dX3_isOpenAt_71 h
    · rw [if_pos hc] at h
      refine g_aload_n (pc' := 51) C dX3_isOpenAt_50 0 rfl rfl ?_
      refine g_iload_n (pc' := 52) C dX3_isOpenAt_51 1 rfl rfl ?_
      refine g_aload_n (pc' := 53) C dX3_isOpenAt_52 0 rfl rfl ?_
      obtain ⟨h11, h⟩ := chk_some h
      refine gg_X3_15 (pc' := 56) (o := o0) C h11 dX3_isOpenAt_53 rfl ?_
      refine g_iconst (pc' := 57) (v := 2) C dX3_isOpenAt_56 (by decide) rfl ?_
      refine g_idiv (pc' := 58) C dX3_isOpenAt_57 (by decide) rfl ?_
      refine g_iadd (pc' := 59) C dX3_isOpenAt_58 rfl ?_
      refine g_iload_n (pc' := 60) C dX3_isOpenAt_59 2 rfl rfl ?_
      obtain ⟨q12, h13, h⟩ := bind_some h
      obtain ⟨h14, h⟩ := chk_some h
      refine g_callVi (pc' := 63) (res := q12) C [.int (a1 + ((rF q8.1 o0 2) / 2)), .int a2] cY_X3_isPlainOpen rfl (o := o0) (kC_lt h14 (by decide)) (sfC_3 h14) mv_X3_isPlainOpen mm_X3_35 ⟨Nat.le_trans (by decide) hR.1, Nat.le_trans (by decide) hR.2⟩ rfl (Nat.le_of_ble_eq_true rfl) rfl dX3_isOpenAt_60 (c_X3_isPlainOpen l base D cA q8.1 o0 (a1 + ((rF q8.1 o0 2) / 2)) a2 q12 h13) rfl ?_
      refine g_iteI (σ := q12.1) (pj := 71) (lv := [(0, .ref (base + o0)), (1, .int a1), (2, .int a2)]) (st := []) (cd := q12.2 = 0) (a := 0) (b := 1) C ?_ (fun kt kf => ?_)
      · obtain ⟨h15, h⟩ := chk_some h
        exact g_zret C hr (isB_n h15) dX3_isOpenAt_71 h
      · refine g_if_eq (pc' := 66) (tgt := 70) C dX3_isOpenAt_63 (by decide) rfl (fun hc => ?_) (fun hc => ?_)
        · refine g_iconst (pc' := 71) (v := 0) C dX3_isOpenAt_70 (by decide) rfl ?_
          exact kt hc
        · refine g_iconst (pc' := 67) (v := 1) C dX3_isOpenAt_66 (by decide) rfl ?_
          refine g_goto (tgt := 71) C dX3_isOpenAt_67 (by decide) ?_
          exact kf hc
  rw [if_neg hc1] at h
  by_cases hc2 : v2 = 3
  · rw [if_pos hc2] at h
    refine g_tableIn (off := 68) (tgt := 72) C dX3_isOpenAt_4 (by rw [hc2]; decide) (by rw [hc2]; decide) (by rw [hc2]; decide) (by decide) ?_
    refine g_iload_n (pc' := 73) C dX3_isOpenAt_72 1 rfl rfl ?_
    refine g_if_le (pc' := 76) (tgt := 104) C dX3_isOpenAt_73 (by decide) rfl (fun hc => ?_) (fun hc => ?_)
    · rw [if_pos hc] at h
      refine g_iconst (pc' := 105) (v := 0) C dX3_isOpenAt_104 (by decide) rfl ?_
      exact g_zret C hr rfl dX3_isOpenAt_105 h
    · rw [if_neg hc] at h
      refine g_aload_n (pc' := 77) C dX3_isOpenAt_76 0 rfl rfl ?_
      refine g_iload_n (pc' := 78) C dX3_isOpenAt_77 1 rfl rfl ?_
      refine g_iconst (pc' := 79) (v := 2) C dX3_isOpenAt_78 (by decide) rfl ?_
      refine g_idiv (pc' := 80) C dX3_isOpenAt_79 (by decide) rfl ?_
      refine g_iload_n (pc' := 81) C dX3_isOpenAt_80 2 rfl rfl ?_
      obtain ⟨q16, h17, h⟩ := bind_some h
      obtain ⟨h18, h⟩ := chk_some h
      refine g_callVi (pc' := 84) (res := q16) C [.int (a1 / 2), .int a2] cY_X3_isPlainOpen rfl (o := o0) (kC_lt h18 (by decide)) (sfC_3 h18) mv_X3_isPlainOpen mm_X3_35 ⟨Nat.le_trans (by decide) hR.1, Nat.le_trans (by decide) hR.2⟩ rfl (Nat.le_of_ble_eq_true rfl) rfl dX3_isOpenAt_81 (c_X3_isPlainOpen l base D cA σ o0 (a1 / 2) a2 q16 h17) rfl ?_
      refine g_if_eq (pc' := 87) (tgt := 104) C dX3_isOpenAt_84 (by decide) rfl (fun hc => ?_) (fun hc => ?_)
      · rw [if_pos hc] at h
        refine g_iconst (pc' := 105) (v := 0) C dX3_isOpenAt_104 (by decide) rfl ?_
        exact g_zret C hr rfl dX3_isOpenAt_105 h
      · rw [if_neg hc] at h
        refine g_aload_n (pc' := 88) C dX3_isOpenAt_87 0 rfl rfl ?_
        refine g_iload_n (pc' := 89) C dX3_isOpenAt_88 1 rfl rfl ?_
        refine g_iconst (pc' := 90) (v := 1) C dX3_isOpenAt_89 (by decide) rfl ?_
        refine g_isub (pc' := 91) C dX3_isOpenAt_90 rfl ?_
        refine g_iconst (pc' := 92) (v := 2) C dX3_isOpenAt_91 (by decide) rfl ?_
        refine g_idiv (pc' := 93) C dX3_isOpenAt_92 (by decide) rfl ?_
        refine g_iload_n (pc' := 94) C dX3_isOpenAt_93 2 rfl rfl ?_
        obtain ⟨q19, h20, h⟩ := bind_some h
        obtain ⟨h21, h⟩ := chk_some h
        refine g_callVi (pc' := 97) (res := q19) C [.int ((a1 - 1) / 2), .int a2] cY_X3_isPlainOpen rfl (o := o0) (kC_lt h21 (by decide)) (sfC_3 h21) mv_X3_isPlainOpen mm_X3_35 ⟨Nat.le_trans (by decide) hR.1, Nat.le_trans (by decide) hR.2⟩ rfl (Nat.le_of_ble_eq_true rfl) rfl dX3_isOpenAt_94 (c_X3_isPlainOpen l base D cA q16.1 o0 ((a1 - 1) / 2) a2 q19 h20) rfl ?_
        refine g_if_eq (pc' := 100) (tgt := 104) C dX3_isOpenAt_97 (by decide) rfl (fun hc => ?_) (fun hc => ?_)
        · rw [if_pos hc] at h
          refine g_iconst (pc' := 105) (v := 0) C dX3_isOpenAt_104 (by decide) rfl ?_
          exact g_zret C hr rfl dX3_isOpenAt_105 h
        · rw [if_neg hc] at h
          refine g_iconst (pc' := 101) (v := 1) C dX3_isOpenAt_100 (by decide) rfl ?_
          refine g_goto (tgt := 105) C dX3_isOpenAt_101 (by decide) ?_
          exact g_zret C hr rfl dX3_isOpenAt_105 h
  rw [if_neg hc2] at h
  refine g_tableOut (tgt := 106) C dX3_isOpenAt_4 (by have q0 : v2.toInt ≠ 1 := ne_toInt hc0; have q1 : v2.toInt ≠ 2 := ne_toInt hc1; have q2 : v2.toInt ≠ 3 := ne_toInt hc2; omega) (by decide) ?_
  refine g_aload_n (pc' := 107) C dX3_isOpenAt_106 0 rfl rfl ?_
  refine g_iload_n (pc' := 108) C dX3_isOpenAt_107 1 rfl rfl ?_
  refine g_iload_n (pc' := 109) C dX3_isOpenAt_108 2 rfl rfl ?_
  obtain ⟨q22, h23, h⟩ := bind_some h
  obtain ⟨h24, h⟩ := chk_some h
  refine g_callVi (pc' := 112) (res := q22) C [.int a1, .int a2] cY_X3_isPlainOpen rfl (o := o0) (kC_lt h24 (by decide)) (sfC_3 h24) mv_X3_isPlainOpen mm_X3_35 ⟨Nat.le_trans (by decide) hR.1, Nat.le_trans (by decide) hR.2⟩ rfl (Nat.le_of_ble_eq_true rfl) rfl dX3_isOpenAt_109 (c_X3_isPlainOpen l base D cA σ o0 a1 a2 q22 h23) rfl ?_
  obtain ⟨h25, h⟩ := chk_some h
  exact g_zret C hr (isB_n h25) dX3_isOpenAt_112 h
theorem c_X3_isOpenAt (l : Launch) (base : Nat) (D : va_G) (cA : Nat → ClassId) (σ : cr_S) (o0 : Nat) (a1 : Int32) (a2 : Int32) (res : cr_S × Int32) (h : f_X3_isOpenAt σ o0 a1 a2 = some res) : cr_M l yX3_isOpenAt cX3_isOpenAt 3 (some .boolean) 1 22 sfC 97 base D cA [.ref (base + o0), .int a1, .int a2] σ (cr_Qi sfC 97 base D cA res) := by
  refine cr_enter [.ref (base + o0), .int a1, .int a2] [(0, .ref (base + o0)), (1, .int a1), (2, .int a2)] (by decide) (Nat.le_of_ble_eq_true rfl) rfl ?_
  intro p e R s m below meth c C hr hR
  exact w_X3_isOpenAt C hr hR σ o0 a1 a2 h
noncomputable def f_X3_isOpenNow (σ : cr_S) (o0 : Nat) (a1 : Int32) : Option (cr_S × Int32) :=
  chk (kC o0 = 3) (Option.bind (f_X3_isOpenAt σ o0 a1 (rF σ o0 4)) (fun q2 => chk (kC o0 = 3) (chk (isB q2.2) (some (q2.1, q2.2)))))
set_option maxRecDepth 100000 in
set_option maxHeartbeats 4000000 in
theorem w_X3_isOpenNow (C : cr_C p l e R s m args below meth c sfC 97 base D cA cX3_isOpenNow 2 RX3) (hr : meth.sig.returnType = some .boolean) (hR : 2 ≤ R.frames ∧ 44 ≤ R.locals) {res : cr_S × Int32} (σ : cr_S) (o0 : Nat) (a1 : Int32) (h : f_X3_isOpenNow σ o0 a1 = some res) : cr_W p l e R s m args below meth c sfC 97 base D cA 2 (MQ below (cr_Qi sfC 97 base D cA res) args s 0 0 (cr_A 97 base)) σ 0 [(0, .ref (base + o0)), (1, .int a1)] [] := by
  unfold f_X3_isOpenNow at h
  refine g_aload_n (pc' := 1) C dX3_isOpenNow_0 0 rfl rfl ?_
  refine g_iload_n (pc' := 2) C dX3_isOpenNow_1 1 rfl rfl ?_
  refine g_aload_n (pc' := 3) C dX3_isOpenNow_2 0 rfl rfl ?_
  obtain ⟨h1, h⟩ := chk_some h
  refine gg_X3_24 (pc' := 6) (o := o0) C h1 dX3_isOpenNow_3 rfl ?_
  obtain ⟨q2, h3, h⟩ := bind_some h
  obtain ⟨h4, h⟩ := chk_some h
  refine g_callVi (pc' := 9) (res := q2) C [.int a1, .int (rF σ o0 4)] cY_X3_isOpenAt rfl (o := o0) (kC_lt h4 (by decide)) (sfC_3 h4) mv_X3_isOpenAt mm_X3_31 ⟨Nat.le_trans (by decide) hR.1, Nat.le_trans (by decide) hR.2⟩ rfl (Nat.le_of_ble_eq_true rfl) rfl dX3_isOpenNow_6 (c_X3_isOpenAt l base D cA σ o0 a1 (rF σ o0 4) q2 h3) rfl ?_
  obtain ⟨h5, h⟩ := chk_some h
  exact g_zret C hr (isB_n h5) dX3_isOpenNow_9 h
theorem c_X3_isOpenNow (l : Launch) (base : Nat) (D : va_G) (cA : Nat → ClassId) (σ : cr_S) (o0 : Nat) (a1 : Int32) (res : cr_S × Int32) (h : f_X3_isOpenNow σ o0 a1 = some res) : cr_M l yX3_isOpenNow cX3_isOpenNow 2 (some .boolean) 2 44 sfC 97 base D cA [.ref (base + o0), .int a1] σ (cr_Qi sfC 97 base D cA res) := by
  refine cr_enter [.ref (base + o0), .int a1] [(0, .ref (base + o0)), (1, .int a1)] (by decide) (Nat.le_of_ble_eq_true rfl) rfl ?_
  intro p e R s m below meth c C hr hR
  exact w_X3_isOpenNow C hr hR σ o0 a1 h
noncomputable def f_X10_oneIf (σ : cr_S) (a0 : Int32) : Option (cr_S × Int32) :=
  some (σ, if a0 = 0 then 0 else 1)
set_option maxRecDepth 100000 in
set_option maxHeartbeats 4000000 in
theorem w_X10_oneIf (C : cr_C p l e R s m args below meth c sfC 97 base D cA cX10_oneIf 1 RX10) (hr : meth.sig.returnType = some .int) (hR : 0 ≤ R.frames ∧ 0 ≤ R.locals) {res : cr_S × Int32} (σ : cr_S) (a0 : Int32) (h : f_X10_oneIf σ a0 = some res) : cr_W p l e R s m args below meth c sfC 97 base D cA 1 (MQ below (cr_Qi sfC 97 base D cA res) args s 0 0 (cr_A 97 base)) σ 0 [(0, .int a0)] [] := by
  unfold f_X10_oneIf at h
  refine g_iload_n (pc' := 1) C dX10_oneIf_0 0 rfl rfl ?_
  refine g_iteI (σ := σ) (pj := 9) (lv := [(0, .int a0)]) (st := []) (cd := a0 = 0) (a := 0) (b := 1) C ?_ (fun kt kf => ?_)
  · exact g_iret C hr dX10_oneIf_9 h
  · refine g_if_eq (pc' := 4) (tgt := 8) C dX10_oneIf_1 (by decide) rfl (fun hc => ?_) (fun hc => ?_)
    · refine g_iconst (pc' := 9) (v := 0) C dX10_oneIf_8 (by decide) rfl ?_
      exact kt hc
    · refine g_iconst (pc' := 5) (v := 1) C dX10_oneIf_4 (by decide) rfl ?_
      refine g_goto (tgt := 9) C dX10_oneIf_5 (by decide) ?_
      exact kf hc
theorem c_X10_oneIf (l : Launch) (base : Nat) (D : va_G) (cA : Nat → ClassId) (σ : cr_S) (a0 : Int32) (res : cr_S × Int32) (h : f_X10_oneIf σ a0 = some res) : cr_M l yX10_oneIf cX10_oneIf 1 (some .int) 0 0 sfC 97 base D cA [.int a0] σ (cr_Qi sfC 97 base D cA res) := by
  refine cr_enter [.int a0] [(0, .int a0)] (by decide) (Nat.le_of_ble_eq_true rfl) rfl ?_
  intro p e R s m below meth c C hr hR
  exact w_X10_oneIf C hr hR σ a0 h
noncomputable def f_X10_open (σ : cr_S) (a1 : Int32) (a2 : Int32) : Option (cr_S × Int32) :=
  Option.bind (f_X10_isPair σ a1) (fun q1 => (if q1.2 = 0 then some (q1.1, (-1)) else Option.bind (f_X10_isWithin q1.1 a2 0 99999) (fun q3 => (if q3.2 = 0 then some (q3.1, (-1)) else chk (inb a1 6) (Option.bind (f_X3_isOpenNow q3.1 (9 + a1.toNatClampNeg) a2) (fun q6 => chk (kC (9 + a1.toNatClampNeg) = 3) (Option.bind (f_X10_oneIf q6.1 q6.2) (fun q9 => some (q9.1, q9.2)))))))))
set_option maxRecDepth 100000 in
set_option maxHeartbeats 4000000 in
theorem w_X10_open (C : cr_C p l e R s m args below meth c sfC 97 base D cA cX10_open 3 RX10) (hr : meth.sig.returnType = some .int) (hR : 3 ≤ R.frames ∧ 65 ≤ R.locals) {res : cr_S × Int32} (σ : cr_S) (a1 : Int32) (a2 : Int32) (h : f_X10_open σ a1 a2 = some res) : cr_W p l e R s m args below meth c sfC 97 base D cA 3 (MQ below (cr_Qi sfC 97 base D cA res) args s 0 0 (cr_A 97 base)) σ 0 [(0, .ref (base + 0)), (1, .int a1), (2, .int a2)] [] := by
  unfold f_X10_open at h
  refine g_aload_n (pc' := 1) C dX10_open_0 0 rfl rfl ?_
  refine g_iload_n (pc' := 2) C dX10_open_1 1 rfl rfl ?_
  obtain ⟨q1, h2, h⟩ := bind_some h
  refine g_callVi (pc' := 5) (res := q1) C [.int a1] cY_X10_isPair rfl (o := 0) (by decide) rfl mv_X10_isPair mm_X10_72 ⟨Nat.le_trans (by decide) hR.1, Nat.le_trans (by decide) hR.2⟩ rfl (Nat.le_of_ble_eq_true rfl) rfl dX10_open_2 (c_X10_isPair l base D cA σ a1 q1 h2) rfl ?_
  refine g_if_eq (pc' := 8) (tgt := 18) C dX10_open_5 (by decide) rfl (fun hc => ?_) (fun hc => ?_)
  · rw [if_pos hc] at h
    refine g_iconst (pc' := 19) (v := (-1)) C dX10_open_18 (by decide) rfl ?_
    exact g_iret C hr dX10_open_19 h
  · rw [if_neg hc] at h
    refine g_iload_n (pc' := 9) C dX10_open_8 2 rfl rfl ?_
    refine g_iconst (pc' := 10) (v := 0) C dX10_open_9 (by decide) rfl ?_
    refine g_ldc (pc' := 12) (v := 99999) C dX10_open_10 mk_X10_123 rfl ?_
    obtain ⟨q3, h4, h⟩ := bind_some h
    refine g_callSi (pc' := 15) (res := q3) C [.int a2, .int 0, .int 99999] cY_X10_isWithin mv_X10_isWithin mm_X10_54 ⟨Nat.le_trans (by decide) hR.1, Nat.le_trans (by decide) hR.2⟩ rfl (Nat.le_of_ble_eq_true rfl) rfl dX10_open_12 (c_X10_isWithin l base D cA q1.1 a2 0 99999 q3 h4) rfl ?_
    refine g_if_ne (pc' := 18) (tgt := 20) C dX10_open_15 (by decide) rfl (fun hc => ?_) (fun hc => ?_)
    · rw [if_neg hc] at h
      refine g_aload_n (pc' := 21) C dX10_open_20 0 rfl rfl ?_
      refine gg_X10_12 (pc' := 24) (o := 0) (r := 1) C rfl rfl dX10_open_21 rfl ?_
      refine gg_X10_62 (pc' := 27) (o := 1) (r := 2) C rfl rfl dX10_open_24 rfl ?_
      refine g_iload_n (pc' := 28) C dX10_open_27 1 rfl rfl ?_
      obtain ⟨h5, h⟩ := chk_some h
      refine g_aald (pc' := 29) C (o := 2) (by decide) rfl (cn := "ClashRocks$Pair") rfl (inb_d h5) dX10_open_28 rfl ?_
      refine g_iload_n (pc' := 30) C dX10_open_29 2 rfl rfl ?_
      obtain ⟨q6, h7, h⟩ := bind_some h
      obtain ⟨h8, h⟩ := chk_some h
      refine g_callVi (pc' := 33) (res := q6) C [.int a2] cY_X3_isOpenNow rfl (o := 9 + a1.toNatClampNeg) (kC_lt h8 (by decide)) (sfC_3 h8) mv_X3_isOpenNow mm_X10_124 ⟨Nat.le_trans (by decide) hR.1, Nat.le_trans (by decide) hR.2⟩ rfl (Nat.le_of_ble_eq_true rfl) rfl dX10_open_30 (c_X3_isOpenNow l base D cA q3.1 (9 + a1.toNatClampNeg) a2 q6 h7) rfl ?_
      obtain ⟨q9, h10, h⟩ := bind_some h
      refine g_callSi (pc' := 36) (res := q9) C [.int q6.2] cY_X10_oneIf mv_X10_oneIf mm_X10_127 ⟨Nat.le_trans (by decide) hR.1, Nat.le_trans (by decide) hR.2⟩ rfl (Nat.le_of_ble_eq_true rfl) rfl dX10_open_33 (c_X10_oneIf l base D cA q6.1 q6.2 q9 h10) rfl ?_
      exact g_iret C hr dX10_open_36 h
    · rw [if_pos hc] at h
      refine g_iconst (pc' := 19) (v := (-1)) C dX10_open_18 (by decide) rfl ?_
      exact g_iret C hr dX10_open_19 h
theorem c_X10_open (l : Launch) (base : Nat) (D : va_G) (cA : Nat → ClassId) (σ : cr_S) (a1 : Int32) (a2 : Int32) (res : cr_S × Int32) (h : f_X10_open σ a1 a2 = some res) : cr_M l yX10_open cX10_open 3 (some .int) 3 65 sfC 97 base D cA [.ref (base + 0), .int a1, .int a2] σ (cr_Qi sfC 97 base D cA res) := by
  refine cr_enter [.ref (base + 0), .int a1, .int a2] [(0, .ref (base + 0)), (1, .int a1), (2, .int a2)] (by decide) (Nat.le_of_ble_eq_true rfl) rfl ?_
  intro p e R s m below meth c C hr hR
  exact w_X10_open C hr hR σ a1 a2 h
noncomputable def f_X7_add_55 (σ : cr_S) (a1 : Int32) : Option (cr_S × Int32) :=
  (if (rF σ 55 3) < 100 then chk (inb (rF σ 55 3) 100) (cr_let (sA σ 56 (rF σ 55 3) (vp_nar .char a1)) (fun s2 => cr_let (sF s2 55 3 ((rF s2 55 3) + 1)) (fun s4 => some (s4, 1)))) else some (σ, 0))
set_option maxRecDepth 100000 in
set_option maxHeartbeats 4000000 in
theorem w_X7_add_55 (C : cr_C p l e R s m args below meth c sfC 97 base D cA cX7_add 2 RX7) (hr : meth.sig.returnType = some .boolean) (hR : 0 ≤ R.frames ∧ 0 ≤ R.locals) {res : cr_S × Int32} (σ : cr_S) (a1 : Int32) (h : f_X7_add_55 σ a1 = some res) : cr_W p l e R s m args below meth c sfC 97 base D cA 2 (MQ below (cr_Qi sfC 97 base D cA res) args s 0 0 (cr_A 97 base)) σ 0 [(0, .ref (base + 55)), (1, .int a1)] [] := by
  unfold f_X7_add_55 at h
  refine g_aload_n (pc' := 1) C dX7_add_0 0 rfl rfl ?_
  refine gg_X7_29 (pc' := 4) (o := 55) C rfl dX7_add_1 rfl ?_
  refine g_bipush (pc' := 6) (v := 100) C dX7_add_4 (by decide) rfl ?_
  refine g_icmp_lt (pc' := 9) (tgt := 11) C dX7_add_6 (by decide) rfl (fun hc => ?_) (fun hc => ?_)
  · rw [if_pos hc] at h
    refine g_aload_n (pc' := 12) C dX7_add_11 0 rfl rfl ?_
    refine gg_X7_9 (pc' := 15) (o := 55) (r := 56) C rfl rfl dX7_add_12 rfl ?_
    refine g_aload_n (pc' := 16) C dX7_add_15 0 rfl rfl ?_
    refine gg_X7_29 (pc' := 19) (o := 55) C rfl dX7_add_16 rfl ?_
    refine g_iload_n (pc' := 20) C dX7_add_19 1 rfl rfl ?_
    obtain ⟨h1, h⟩ := chk_some h
    obtain ⟨s2, e3, h⟩ := let_some h
    refine g_cast (pc' := 21) C (o := 56) (by decide) rfl (inb_d h1) dX7_add_20 rfl e3 ?_
    refine g_aload_n (pc' := 22) C dX7_add_21 0 rfl rfl ?_
    refine g_dup (pc' := 23) C dX7_add_22 rfl rfl ?_
    refine gg_X7_29 (pc' := 26) (o := 55) C rfl dX7_add_23 rfl ?_
    refine g_iconst (pc' := 27) (v := 1) C dX7_add_26 (by decide) rfl ?_
    refine g_iadd (pc' := 28) C dX7_add_27 rfl ?_
    obtain ⟨s4, e5, h⟩ := let_some h
    refine gp_X7_29 (pc' := 31) (o := 55) C rfl dX7_add_28 rfl e5 ?_
    refine g_iconst (pc' := 32) (v := 1) C dX7_add_31 (by decide) rfl ?_
    exact g_zret C hr rfl dX7_add_32 h
  · rw [if_neg hc] at h
    refine g_iconst (pc' := 10) (v := 0) C dX7_add_9 (by decide) rfl ?_
    exact g_zret C hr rfl dX7_add_10 h
theorem c_X7_add_55 (l : Launch) (base : Nat) (D : va_G) (cA : Nat → ClassId) (σ : cr_S) (a1 : Int32) (res : cr_S × Int32) (h : f_X7_add_55 σ a1 = some res) : cr_M l yX7_add cX7_add 2 (some .boolean) 0 0 sfC 97 base D cA [.ref (base + 55), .int a1] σ (cr_Qi sfC 97 base D cA res) := by
  refine cr_enter [.ref (base + 55), .int a1] [(0, .ref (base + 55)), (1, .int a1)] (by decide) (Nat.le_of_ble_eq_true rfl) rfl ?_
  intro p e R s m below meth c C hr hR
  exact w_X7_add_55 C hr hR σ a1 h
noncomputable def f_X10_type (σ : cr_S) (a1 : Int32) : Option (cr_S × Int32) :=
  Option.bind (f_X10_isWithin σ a1 32 126) (fun q1 => (if q1.2 = 0 then some (q1.1, (-1)) else Option.bind (f_X7_add_55 q1.1 (((Int32.toUInt32 a1) % 65536).toInt32)) (fun q3 => some (q3.1, if q3.2 = 0 then (-3) else rF q3.1 55 3))))
set_option maxRecDepth 100000 in
set_option maxHeartbeats 4000000 in
theorem w_X10_type (C : cr_C p l e R s m args below meth c sfC 97 base D cA cX10_type 2 RX10) (hr : meth.sig.returnType = some .int) (hR : 1 ≤ R.frames ∧ 22 ≤ R.locals) {res : cr_S × Int32} (σ : cr_S) (a1 : Int32) (h : f_X10_type σ a1 = some res) : cr_W p l e R s m args below meth c sfC 97 base D cA 2 (MQ below (cr_Qi sfC 97 base D cA res) args s 0 0 (cr_A 97 base)) σ 0 [(0, .ref (base + 0)), (1, .int a1)] [] := by
  unfold f_X10_type at h
  refine g_iload_n (pc' := 1) C dX10_type_0 1 rfl rfl ?_
  refine g_bipush (pc' := 3) (v := 32) C dX10_type_1 (by decide) rfl ?_
  refine g_bipush (pc' := 5) (v := 126) C dX10_type_3 (by decide) rfl ?_
  obtain ⟨q1, h2, h⟩ := bind_some h
  refine g_callSi (pc' := 8) (res := q1) C [.int a1, .int 32, .int 126] cY_X10_isWithin mv_X10_isWithin mm_X10_54 ⟨Nat.le_trans (by decide) hR.1, Nat.le_trans (by decide) hR.2⟩ rfl (Nat.le_of_ble_eq_true rfl) rfl dX10_type_5 (c_X10_isWithin l base D cA σ a1 32 126 q1 h2) rfl ?_
  refine g_if_ne (pc' := 11) (tgt := 13) C dX10_type_8 (by decide) rfl (fun hc => ?_) (fun hc => ?_)
  · rw [if_neg hc] at h
    refine g_aload_n (pc' := 14) C dX10_type_13 0 rfl rfl ?_
    refine gg_X10_22 (pc' := 17) (o := 0) (r := 55) C rfl rfl dX10_type_14 rfl ?_
    refine g_iload_n (pc' := 18) C dX10_type_17 1 rfl rfl ?_
    refine g_i2c (pc' := 19) C dX10_type_18 rfl ?_
    obtain ⟨q3, h4, h⟩ := bind_some h
    refine g_callVi (pc' := 22) (res := q3) C [.int (((Int32.toUInt32 a1) % 65536).toInt32)] cY_X7_add rfl (o := 55) (by decide) rfl mv_X7_add mm_X10_131 ⟨Nat.le_trans (by decide) hR.1, Nat.le_trans (by decide) hR.2⟩ rfl (Nat.le_of_ble_eq_true rfl) rfl dX10_type_19 (c_X7_add_55 l base D cA q1.1 (((Int32.toUInt32 a1) % 65536).toInt32) q3 h4) rfl ?_
    refine g_iteI (σ := q3.1) (pj := 37) (lv := [(0, .ref (base + 0)), (1, .int a1)]) (st := []) (cd := q3.2 = 0) (a := (-3)) (b := rF q3.1 55 3) C ?_ (fun kt kf => ?_)
    · exact g_iret C hr dX10_type_37 h
    · refine g_if_eq (pc' := 25) (tgt := 35) C dX10_type_22 (by decide) rfl (fun hc => ?_) (fun hc => ?_)
      · refine g_bipush (pc' := 37) (v := (-3)) C dX10_type_35 (by decide) rfl ?_
        exact kt hc
      · refine g_aload_n (pc' := 26) C dX10_type_25 0 rfl rfl ?_
        refine gg_X10_22 (pc' := 29) (o := 0) (r := 55) C rfl rfl dX10_type_26 rfl ?_
        refine gg_X10_135 (pc' := 32) (o := 55) C rfl dX10_type_29 rfl ?_
        refine g_goto (tgt := 37) C dX10_type_32 (by decide) ?_
        exact kf hc
  · rw [if_pos hc] at h
    refine g_iconst (pc' := 12) (v := (-1)) C dX10_type_11 (by decide) rfl ?_
    exact g_iret C hr dX10_type_12 h
theorem c_X10_type (l : Launch) (base : Nat) (D : va_G) (cA : Nat → ClassId) (σ : cr_S) (a1 : Int32) (res : cr_S × Int32) (h : f_X10_type σ a1 = some res) : cr_M l yX10_type cX10_type 2 (some .int) 1 22 sfC 97 base D cA [.ref (base + 0), .int a1] σ (cr_Qi sfC 97 base D cA res) := by
  refine cr_enter [.ref (base + 0), .int a1] [(0, .ref (base + 0)), (1, .int a1)] (by decide) (Nat.le_of_ble_eq_true rfl) rfl ?_
  intro p e R s m below meth c C hr hR
  exact w_X10_type C hr hR σ a1 h
end

section
variable {p : Program} {l : Launch} {e : Env} {R : Room} {s : State} {m : MethodId} {args : Array Value} {below : List Frame} {meth : Method} {c : Code} {base : Nat} {D : va_G} {cA : Nat → ClassId}
noncomputable def f_X7_letterHere_55_B38  (σ : cr_S) : Option (cr_S × Int32) :=
  (if (rF σ 55 3) ≤ (rF σ 55 6) then chk (isC 0) (some (σ, 0)) else chk (inb (rF σ 55 6) 100) (chk (isC (rA σ 56 (rF σ 55 6))) (some (σ, rA σ 56 (rF σ 55 6)))))
set_option maxRecDepth 100000 in
set_option maxHeartbeats 4000000 in
theorem w_X7_letterHere_55_B38 (C : cr_C p l e R s m args below meth c sfC 97 base D cA cX7_letterHere 1 RX7) (hr : meth.sig.returnType = some .char) (hR : 0 ≤ R.frames ∧ 0 ≤ R.locals) {res : cr_S × Int32}  (σ : cr_S) (h : f_X7_letterHere_55_B38 σ = some res) : cr_W p l e R s m args below meth c sfC 97 base D cA 1 (MQ below (cr_Qi sfC 97 base D cA res) args s 0 0 (cr_A 97 base)) σ 38 [(0, .ref (base + 55))] [] := by
  unfold f_X7_letterHere_55_B38 at h
  refine g_aload_n (pc' := 39) C dX7_letterHere_38 0 rfl rfl ?_
  refine gg_X7_33 (pc' := 42) (o := 55) C rfl dX7_letterHere_39 rfl ?_
  refine g_aload_n (pc' := 43) C dX7_letterHere_42 0 rfl rfl ?_
  refine gg_X7_29 (pc' := 46) (o := 55) C rfl dX7_letterHere_43 rfl ?_
  refine g_icmp_ge (pc' := 49) (tgt := 61) C dX7_letterHere_46 (by decide) rfl (fun hc => ?_) (fun hc => ?_)
  · rw [if_pos hc] at h
    refine g_iconst (pc' := 62) (v := 0) C dX7_letterHere_61 (by decide) rfl ?_
    obtain ⟨h1, h⟩ := chk_some h
    exact g_cret C hr (isC_n h1) dX7_letterHere_62 h
  · rw [if_neg hc] at h
    refine g_aload_n (pc' := 50) C dX7_letterHere_49 0 rfl rfl ?_
    refine gg_X7_9 (pc' := 53) (o := 55) (r := 56) C rfl rfl dX7_letterHere_50 rfl ?_
    refine g_aload_n (pc' := 54) C dX7_letterHere_53 0 rfl rfl ?_
    refine gg_X7_33 (pc' := 57) (o := 55) C rfl dX7_letterHere_54 rfl ?_
    obtain ⟨h2, h⟩ := chk_some h
    refine g_cald (pc' := 58) C (o := 56) (by decide) rfl (inb_d h2) dX7_letterHere_57 rfl ?_
    refine g_goto (tgt := 62) C dX7_letterHere_58 (by decide) ?_
    obtain ⟨h3, h⟩ := chk_some h
    exact g_cret C hr (isC_n h3) dX7_letterHere_62 h
noncomputable def f_X7_letterHere_55_L0  : Nat → cr_S → Option (cr_S × Int32)
  | 0, _ => none
  | n + 1, σ =>
    (if (rF σ 55 3) ≤ (rF σ 55 6) then f_X7_letterHere_55_B38 σ else chk (inb (rF σ 55 6) 100) ((if (rA σ 56 (rF σ 55 6)) = 32 then cr_let (sF σ 55 6 ((rF σ 55 6) + 1)) (fun s5 => f_X7_letterHere_55_L0 n s5) else f_X7_letterHere_55_B38 σ)))
set_option maxRecDepth 100000 in
set_option maxHeartbeats 4000000 in
theorem w_X7_letterHere_55_L0 (C : cr_C p l e R s m args below meth c sfC 97 base D cA cX7_letterHere 1 RX7) (hr : meth.sig.returnType = some .char) (hR : 0 ≤ R.frames ∧ 0 ≤ R.locals) {res : cr_S × Int32}  : ∀ (n : Nat) (σ : cr_S), f_X7_letterHere_55_L0 n σ = some res → cr_W p l e R s m args below meth c sfC 97 base D cA 1 (MQ below (cr_Qi sfC 97 base D cA res) args s 0 0 (cr_A 97 base)) σ 0 [(0, .ref (base + 55))] [] := by
  intro n
  induction n with
  | zero =>
    intro σ h
    cases h
  | succ n ih =>
    intro σ h
    rw [f_X7_letterHere_55_L0] at h
    refine g_aload_n (pc' := 1) C dX7_letterHere_0 0 rfl rfl ?_
    refine gg_X7_33 (pc' := 4) (o := 55) C rfl dX7_letterHere_1 rfl ?_
    refine g_aload_n (pc' := 5) C dX7_letterHere_4 0 rfl rfl ?_
    refine gg_X7_29 (pc' := 8) (o := 55) C rfl dX7_letterHere_5 rfl ?_
    refine g_icmp_ge (pc' := 11) (tgt := 38) C dX7_letterHere_8 (by decide) rfl (fun hc => ?_) (fun hc => ?_)
    · rw [if_pos hc] at h
      exact g_sub C [0] rfl (w_X7_letterHere_55_B38 C hr hR _ h)
    · rw [if_neg hc] at h
      refine g_aload_n (pc' := 12) C dX7_letterHere_11 0 rfl rfl ?_
      refine gg_X7_9 (pc' := 15) (o := 55) (r := 56) C rfl rfl dX7_letterHere_12 rfl ?_
      refine g_aload_n (pc' := 16) C dX7_letterHere_15 0 rfl rfl ?_
      refine gg_X7_33 (pc' := 19) (o := 55) C rfl dX7_letterHere_16 rfl ?_
      obtain ⟨h4, h⟩ := chk_some h
      refine g_cald (pc' := 20) C (o := 56) (by decide) rfl (inb_d h4) dX7_letterHere_19 rfl ?_
      refine g_bipush (pc' := 22) (v := 32) C dX7_letterHere_20 (by decide) rfl ?_
      refine g_icmp_ne (pc' := 25) (tgt := 38) C dX7_letterHere_22 (by decide) rfl (fun hc => ?_) (fun hc => ?_)
      · rw [if_neg hc] at h
        exact g_sub C [0] rfl (w_X7_letterHere_55_B38 C hr hR _ h)
      · rw [if_pos hc] at h
        refine g_aload_n (pc' := 26) C dX7_letterHere_25 0 rfl rfl ?_
        refine g_dup (pc' := 27) C dX7_letterHere_26 rfl rfl ?_
        refine gg_X7_33 (pc' := 30) (o := 55) C rfl dX7_letterHere_27 rfl ?_
        refine g_iconst (pc' := 31) (v := 1) C dX7_letterHere_30 (by decide) rfl ?_
        refine g_iadd (pc' := 32) C dX7_letterHere_31 rfl ?_
        obtain ⟨s5, e6, h⟩ := let_some h
        refine gp_X7_33 (pc' := 35) (o := 55) C rfl dX7_letterHere_32 rfl e6 ?_
        refine g_goto (tgt := 0) C dX7_letterHere_35 (by decide) ?_
        exact g_sub C [0] rfl (ih _ h)
noncomputable def f_X7_letterHere_55 (σ : cr_S) : Option (cr_S × Int32) :=
  f_X7_letterHere_55_L0 cr_fuel σ
set_option maxRecDepth 100000 in
set_option maxHeartbeats 4000000 in
theorem w_X7_letterHere_55 (C : cr_C p l e R s m args below meth c sfC 97 base D cA cX7_letterHere 1 RX7) (hr : meth.sig.returnType = some .char) (hR : 0 ≤ R.frames ∧ 0 ≤ R.locals) {res : cr_S × Int32} (σ : cr_S) (h : f_X7_letterHere_55 σ = some res) : cr_W p l e R s m args below meth c sfC 97 base D cA 1 (MQ below (cr_Qi sfC 97 base D cA res) args s 0 0 (cr_A 97 base)) σ 0 [(0, .ref (base + 55))] [] := by
  unfold f_X7_letterHere_55 at h
  exact g_sub C [0] rfl (w_X7_letterHere_55_L0 C hr hR _ _ h)
theorem c_X7_letterHere_55 (l : Launch) (base : Nat) (D : va_G) (cA : Nat → ClassId) (σ : cr_S) (res : cr_S × Int32) (h : f_X7_letterHere_55 σ = some res) : cr_M l yX7_letterHere cX7_letterHere 1 (some .char) 0 0 sfC 97 base D cA [.ref (base + 55)] σ (cr_Qi sfC 97 base D cA res) := by
  refine cr_enter [.ref (base + 55)] [(0, .ref (base + 55))] (by decide) (Nat.le_of_ble_eq_true rfl) rfl ?_
  intro p e R s m below meth c C hr hR
  exact w_X7_letterHere_55 C hr hR σ h
noncomputable def f_X7_isTaken_55 (σ : cr_S) (a1 : Int32) : Option (cr_S × Int32) :=
  Option.bind (f_X7_letterHere_55 σ) (fun q1 => (if q1.2 = a1 then cr_let (sF q1.1 55 6 ((rF q1.1 55 6) + 1)) (fun s3 => some (s3, 1)) else some (q1.1, 0)))
set_option maxRecDepth 100000 in
set_option maxHeartbeats 4000000 in
theorem w_X7_isTaken_55 (C : cr_C p l e R s m args below meth c sfC 97 base D cA cX7_isTaken 2 RX7) (hr : meth.sig.returnType = some .boolean) (hR : 1 ≤ R.frames ∧ 20 ≤ R.locals) {res : cr_S × Int32} (σ : cr_S) (a1 : Int32) (h : f_X7_isTaken_55 σ a1 = some res) : cr_W p l e R s m args below meth c sfC 97 base D cA 2 (MQ below (cr_Qi sfC 97 base D cA res) args s 0 0 (cr_A 97 base)) σ 0 [(0, .ref (base + 55)), (1, .int a1)] [] := by
  unfold f_X7_isTaken_55 at h
  refine g_aload_n (pc' := 1) C dX7_isTaken_0 0 rfl rfl ?_
  obtain ⟨q1, h2, h⟩ := bind_some h
  refine g_callVi (pc' := 4) (res := q1) C [] cY_X7_letterHere rfl (o := 55) (by decide) rfl mv_X7_letterHere mm_X7_54 ⟨Nat.le_trans (by decide) hR.1, Nat.le_trans (by decide) hR.2⟩ rfl (Nat.le_of_ble_eq_true rfl) rfl dX7_isTaken_1 (c_X7_letterHere_55 l base D cA σ q1 h2) rfl ?_
  refine g_iload_n (pc' := 5) C dX7_isTaken_4 1 rfl rfl ?_
  refine g_icmp_eq (pc' := 8) (tgt := 10) C dX7_isTaken_5 (by decide) rfl (fun hc => ?_) (fun hc => ?_)
  · rw [if_pos hc] at h
    refine g_aload_n (pc' := 11) C dX7_isTaken_10 0 rfl rfl ?_
    refine g_dup (pc' := 12) C dX7_isTaken_11 rfl rfl ?_
    refine gg_X7_33 (pc' := 15) (o := 55) C rfl dX7_isTaken_12 rfl ?_
    refine g_iconst (pc' := 16) (v := 1) C dX7_isTaken_15 (by decide) rfl ?_
    refine g_iadd (pc' := 17) C dX7_isTaken_16 rfl ?_
    obtain ⟨s3, e4, h⟩ := let_some h
    refine gp_X7_33 (pc' := 20) (o := 55) C rfl dX7_isTaken_17 rfl e4 ?_
    refine g_iconst (pc' := 21) (v := 1) C dX7_isTaken_20 (by decide) rfl ?_
    exact g_zret C hr rfl dX7_isTaken_21 h
  · rw [if_neg hc] at h
    refine g_iconst (pc' := 9) (v := 0) C dX7_isTaken_8 (by decide) rfl ?_
    exact g_zret C hr rfl dX7_isTaken_9 h
theorem c_X7_isTaken_55 (l : Launch) (base : Nat) (D : va_G) (cA : Nat → ClassId) (σ : cr_S) (a1 : Int32) (res : cr_S × Int32) (h : f_X7_isTaken_55 σ a1 = some res) : cr_M l yX7_isTaken cX7_isTaken 2 (some .boolean) 1 20 sfC 97 base D cA [.ref (base + 55), .int a1] σ (cr_Qi sfC 97 base D cA res) := by
  refine cr_enter [.ref (base + 55), .int a1] [(0, .ref (base + 55)), (1, .int a1)] (by decide) (Nat.le_of_ble_eq_true rfl) rfl ?_
  intro p e R s m below meth c C hr hR
  exact w_X7_isTaken_55 C hr hR σ a1 h
noncomputable def f_J0_isLatin1_aae02_101 (σ : cr_S) : Option (cr_S × Int32) :=
  some (σ, 1)
set_option maxRecDepth 100000 in
set_option maxHeartbeats 4000000 in
theorem w_J0_isLatin1_aae02_101 (C : cr_C p l e R s m args below meth c sfC 97 base D cA cJ0_isLatin1_aae02 1 RJ0) (hr : meth.sig.returnType = some .boolean) (hR : 0 ≤ R.frames ∧ 0 ≤ R.locals) {res : cr_S × Int32} (σ : cr_S) (h : f_J0_isLatin1_aae02_101 σ = some res) : cr_W p l e R s m args below meth c sfC 97 base D cA 1 (MQ below (cr_Qi sfC 97 base D cA res) args s 0 0 (cr_A 97 base)) σ 0 [(0, .ref (cA 101))] [] := by
  unfold f_J0_isLatin1_aae02_101 at h
  refine g_cmpS (pc' := 3) C mf_J0_38 dJ0_isLatin1_aae02_0 rfl ?_
  refine g_if_eq (pc' := 6) (tgt := 17) C dJ0_isLatin1_aae02_3 (by decide) rfl (fun hc => absurd hc (by decide)) (fun _ => ?_)
  refine g_aload_n (pc' := 7) C dJ0_isLatin1_aae02_6 0 rfl rfl ?_
  refine g_strC (pc' := 10) C 1 (by decide) mf_J0_15 dJ0_isLatin1_aae02_7 rfl ?_
  refine g_if_ne (pc' := 13) (tgt := 17) C dJ0_isLatin1_aae02_10 (by decide) rfl (fun hc => absurd hc (by decide)) (fun _ => ?_)
  refine g_iconst (pc' := 14) (v := 1) C dJ0_isLatin1_aae02_13 (by decide) rfl ?_
  refine g_goto (tgt := 18) C dJ0_isLatin1_aae02_14 (by decide) ?_
  exact g_zret C hr rfl dJ0_isLatin1_aae02_18 h
theorem c_J0_isLatin1_aae02_101 (l : Launch) (base : Nat) (D : va_G) (cA : Nat → ClassId) (σ : cr_S) (res : cr_S × Int32) (h : f_J0_isLatin1_aae02_101 σ = some res) : cr_M l yJ0_isLatin1_aae02 cJ0_isLatin1_aae02 1 (some .boolean) 0 0 sfC 97 base D cA [.ref (cA 101)] σ (cr_Qi sfC 97 base D cA res) := by
  refine cr_enter [.ref (cA 101)] [(0, .ref (cA 101))] (by decide) (Nat.le_of_ble_eq_true rfl) rfl ?_
  intro p e R s m below meth c C hr hR
  exact w_J0_isLatin1_aae02_101 C hr hR σ h
noncomputable def f_J0_coder_7d493_101 (σ : cr_S) : Option (cr_S × Int32) :=
  some (σ, 0)
set_option maxRecDepth 100000 in
set_option maxHeartbeats 4000000 in
theorem w_J0_coder_7d493_101 (C : cr_C p l e R s m args below meth c sfC 97 base D cA cJ0_coder_7d493 1 RJ0) (hr : meth.sig.returnType = some .byte) (hR : 0 ≤ R.frames ∧ 0 ≤ R.locals) {res : cr_S × Int32} (σ : cr_S) (h : f_J0_coder_7d493_101 σ = some res) : cr_W p l e R s m args below meth c sfC 97 base D cA 1 (MQ below (cr_Qi sfC 97 base D cA res) args s 0 0 (cr_A 97 base)) σ 0 [(0, .ref (cA 101))] [] := by
  unfold f_J0_coder_7d493_101 at h
  refine g_cmpS (pc' := 3) C mf_J0_38 dJ0_coder_7d493_0 rfl ?_
  refine g_if_eq (pc' := 6) (tgt := 13) C dJ0_coder_7d493_3 (by decide) rfl (fun hc => absurd hc (by decide)) (fun _ => ?_)
  refine g_aload_n (pc' := 7) C dJ0_coder_7d493_6 0 rfl rfl ?_
  refine g_strC (pc' := 10) C 1 (by decide) mf_J0_15 dJ0_coder_7d493_7 rfl ?_
  refine g_goto (tgt := 14) C dJ0_coder_7d493_10 (by decide) ?_
  exact g_bret C hr rfl dJ0_coder_7d493_14 h
theorem c_J0_coder_7d493_101 (l : Launch) (base : Nat) (D : va_G) (cA : Nat → ClassId) (σ : cr_S) (res : cr_S × Int32) (h : f_J0_coder_7d493_101 σ = some res) : cr_M l yJ0_coder_7d493 cJ0_coder_7d493 1 (some .byte) 0 0 sfC 97 base D cA [.ref (cA 101)] σ (cr_Qi sfC 97 base D cA res) := by
  refine cr_enter [.ref (cA 101)] [(0, .ref (cA 101))] (by decide) (Nat.le_of_ble_eq_true rfl) rfl ?_
  intro p e R s m below meth c C hr hR
  exact w_J0_coder_7d493_101 C hr hR σ h
noncomputable def f_J0_length_8abf5_101 (σ : cr_S) : Option (cr_S × Int32) :=
  Option.bind (f_J0_coder_7d493_101 σ) (fun q1 => some (q1.1, 4 >>> (q1.2 &&& 31)))
set_option maxRecDepth 100000 in
set_option maxHeartbeats 4000000 in
theorem w_J0_length_8abf5_101 (C : cr_C p l e R s m args below meth c sfC 97 base D cA cJ0_length_8abf5 1 RJ0) (hr : meth.sig.returnType = some .int) (hR : 1 ≤ R.frames ∧ 20 ≤ R.locals) {res : cr_S × Int32} (σ : cr_S) (h : f_J0_length_8abf5_101 σ = some res) : cr_W p l e R s m args below meth c sfC 97 base D cA 1 (MQ below (cr_Qi sfC 97 base D cA res) args s 0 0 (cr_A 97 base)) σ 0 [(0, .ref (cA 101))] [] := by
  unfold f_J0_length_8abf5_101 at h
  refine g_aload_n (pc' := 1) C dJ0_length_8abf5_0 0 rfl rfl ?_
  refine g_strV (pc' := 4) C 1 (by decide) mf_J0_9 dJ0_length_8abf5_1 rfl ?_
  refine g_tlen (pc' := 5) C 1 (by decide) dJ0_length_8abf5_4 rfl ?_
  refine g_aload_n (pc' := 6) C dJ0_length_8abf5_5 0 rfl rfl ?_
  obtain ⟨q1, h2, h⟩ := bind_some h
  refine g_callTi (pc' := 9) (res := q1) C [] 1 (by decide) cY_J0_coder_7d493 mv_J0_coder_7d493 mm_J0_335 ⟨Nat.le_trans (by decide) hR.1, Nat.le_trans (by decide) hR.2⟩ rfl (Nat.le_of_ble_eq_true rfl) rfl dJ0_length_8abf5_6 (c_J0_coder_7d493_101 l base D cA σ q1 h2) rfl ?_
  refine g_ishr (pc' := 10) C dJ0_length_8abf5_9 rfl ?_
  exact g_iret C hr dJ0_length_8abf5_10 h
theorem c_J0_length_8abf5_101 (l : Launch) (base : Nat) (D : va_G) (cA : Nat → ClassId) (σ : cr_S) (res : cr_S × Int32) (h : f_J0_length_8abf5_101 σ = some res) : cr_M l yJ0_length_8abf5 cJ0_length_8abf5 1 (some .int) 1 20 sfC 97 base D cA [.ref (cA 101)] σ (cr_Qi sfC 97 base D cA res) := by
  refine cr_enter [.ref (cA 101)] [(0, .ref (cA 101))] (by decide) (Nat.le_of_ble_eq_true rfl) rfl ?_
  intro p e R s m below meth c C hr hR
  exact w_J0_length_8abf5_101 C hr hR σ h
noncomputable def f_J1_canEncode_9a6ad (σ : cr_S) (a0 : Int32) : Option (cr_S × Int32) :=
  (if a0 < 0 then some (σ, 0) else (if 255 < a0 then some (σ, 0) else some (σ, 1)))
set_option maxRecDepth 100000 in
set_option maxHeartbeats 4000000 in
theorem w_J1_canEncode_9a6ad (C : cr_C p l e R s m args below meth c sfC 97 base D cA cJ1_canEncode_9a6ad 1 RJ1) (hr : meth.sig.returnType = some .boolean) (hR : 0 ≤ R.frames ∧ 0 ≤ R.locals) {res : cr_S × Int32} (σ : cr_S) (a0 : Int32) (h : f_J1_canEncode_9a6ad σ a0 = some res) : cr_W p l e R s m args below meth c sfC 97 base D cA 1 (MQ below (cr_Qi sfC 97 base D cA res) args s 0 0 (cr_A 97 base)) σ 0 [(0, .int a0)] [] := by
  unfold f_J1_canEncode_9a6ad at h
  refine g_iload_n (pc' := 1) C dJ1_canEncode_9a6ad_0 0 rfl rfl ?_
  refine g_if_lt (pc' := 4) (tgt := 15) C dJ1_canEncode_9a6ad_1 (by decide) rfl (fun hc => ?_) (fun hc => ?_)
  · rw [if_pos hc] at h
    refine g_iconst (pc' := 16) (v := 0) C dJ1_canEncode_9a6ad_15 (by decide) rfl ?_
    exact g_zret C hr rfl dJ1_canEncode_9a6ad_16 h
  · rw [if_neg hc] at h
    refine g_iload_n (pc' := 5) C dJ1_canEncode_9a6ad_4 0 rfl rfl ?_
    refine g_sipush (pc' := 8) (v := 255) C dJ1_canEncode_9a6ad_5 (by decide) rfl ?_
    refine g_icmp_gt (pc' := 11) (tgt := 15) C dJ1_canEncode_9a6ad_8 (by decide) rfl (fun hc => ?_) (fun hc => ?_)
    · rw [if_pos hc] at h
      refine g_iconst (pc' := 16) (v := 0) C dJ1_canEncode_9a6ad_15 (by decide) rfl ?_
      exact g_zret C hr rfl dJ1_canEncode_9a6ad_16 h
    · rw [if_neg hc] at h
      refine g_iconst (pc' := 12) (v := 1) C dJ1_canEncode_9a6ad_11 (by decide) rfl ?_
      refine g_goto (tgt := 16) C dJ1_canEncode_9a6ad_12 (by decide) ?_
      exact g_zret C hr rfl dJ1_canEncode_9a6ad_16 h
theorem c_J1_canEncode_9a6ad (l : Launch) (base : Nat) (D : va_G) (cA : Nat → ClassId) (σ : cr_S) (a0 : Int32) (res : cr_S × Int32) (h : f_J1_canEncode_9a6ad σ a0 = some res) : cr_M l yJ1_canEncode_9a6ad cJ1_canEncode_9a6ad 1 (some .boolean) 0 0 sfC 97 base D cA [.int a0] σ (cr_Qi sfC 97 base D cA res) := by
  refine cr_enter [.int a0] [(0, .int a0)] (by decide) (Nat.le_of_ble_eq_true rfl) rfl ?_
  intro p e R s m below meth c C hr hR
  exact w_J1_canEncode_9a6ad C hr hR σ a0 h
noncomputable def f_J1_indexOfChar_4cfef_201_L7  : Nat → cr_S → Int32 → Int32 → Int32 → Option (cr_S × Int32)
  | 0, _, _, _, _ => none
  | n + 1, σ, x3, x4, x5 =>
    (if x3 ≤ x5 then some (σ, (-1)) else chk (inb x5 4) ((if (stB 1 x5) = x4 then some (σ, x5) else cr_let (x5 + 1) (fun v4 => f_J1_indexOfChar_4cfef_201_L7 n σ x3 x4 v4))))
set_option maxRecDepth 100000 in
set_option maxHeartbeats 4000000 in
theorem w_J1_indexOfChar_4cfef_201_L7 (C : cr_C p l e R s m args below meth c sfC 97 base D cA cJ1_indexOfChar_4cfef 6 RJ1) (hr : meth.sig.returnType = some .int) (hR : 0 ≤ R.frames ∧ 0 ≤ R.locals) {res : cr_S × Int32}  : ∀ (n : Nat) (σ : cr_S) (x3 : Int32) (x4 : Int32) (x5 : Int32), f_J1_indexOfChar_4cfef_201_L7 n σ x3 x4 x5 = some res → cr_W p l e R s m args below meth c sfC 97 base D cA 6 (MQ below (cr_Qi sfC 97 base D cA res) args s 0 0 (cr_A 97 base)) σ 7 [(0, .ref (cA 201)), (3, .int x3), (4, .int x4), (5, .int x5)] [] := by
  intro n
  induction n with
  | zero =>
    intro σ x3 x4 x5 h
    cases h
  | succ n ih =>
    intro σ x3 x4 x5 h
    rw [f_J1_indexOfChar_4cfef_201_L7] at h
    refine g_iload (pc' := 9) C dJ1_indexOfChar_4cfef_7 3 rfl rfl ?_
    refine g_iload_n (pc' := 10) C dJ1_indexOfChar_4cfef_9 1 rfl rfl ?_
    refine g_icmp_ge (pc' := 13) (tgt := 31) C dJ1_indexOfChar_4cfef_10 (by decide) rfl (fun hc => ?_) (fun hc => ?_)
    · rw [if_pos hc] at h
      refine g_iconst (pc' := 32) (v := (-1)) C dJ1_indexOfChar_4cfef_31 (by decide) rfl ?_
      exact g_iret C hr dJ1_indexOfChar_4cfef_32 h
    · rw [if_neg hc] at h
      refine g_aload_n (pc' := 14) C dJ1_indexOfChar_4cfef_13 0 rfl rfl ?_
      refine g_iload (pc' := 16) C dJ1_indexOfChar_4cfef_14 3 rfl rfl ?_
      obtain ⟨h3, h⟩ := chk_some h
      refine g_tb (pc' := 17) C 1 (by decide) (inb_d h3) dJ1_indexOfChar_4cfef_16 rfl ?_
      refine g_iload (pc' := 19) C dJ1_indexOfChar_4cfef_17 2 rfl rfl ?_
      refine g_icmp_ne (pc' := 22) (tgt := 25) C dJ1_indexOfChar_4cfef_19 (by decide) rfl (fun hc => ?_) (fun hc => ?_)
      · rw [if_neg hc] at h
        obtain ⟨v4, e5, h⟩ := let_some h
        refine g_iinc (pc' := 28) (v := v4) (lv' := [(5, .int v4), (0, .ref (cA 201)), (3, .int x3), (4, .int x4)]) C dJ1_indexOfChar_4cfef_25 3 rfl (by rw [e5]; rfl) (by decide) rfl rfl ?_
        refine g_goto (tgt := 7) C dJ1_indexOfChar_4cfef_28 (by decide) ?_
        exact g_sub C [1, 2, 3, 0] rfl (ih _ _ _ _ h)
      · rw [if_pos hc] at h
        refine g_iload (pc' := 24) C dJ1_indexOfChar_4cfef_22 3 rfl rfl ?_
        exact g_iret C hr dJ1_indexOfChar_4cfef_24 h
noncomputable def f_J1_indexOfChar_4cfef_201 (σ : cr_S) (a1 : Int32) (a2 : Int32) (a3 : Int32) : Option (cr_S × Int32) :=
  cr_let ((Int32.toInt8 a1).toInt32) (fun v1 => f_J1_indexOfChar_4cfef_201_L7 cr_fuel σ a3 v1 a2)
set_option maxRecDepth 100000 in
set_option maxHeartbeats 4000000 in
theorem w_J1_indexOfChar_4cfef_201 (C : cr_C p l e R s m args below meth c sfC 97 base D cA cJ1_indexOfChar_4cfef 6 RJ1) (hr : meth.sig.returnType = some .int) (hR : 0 ≤ R.frames ∧ 0 ≤ R.locals) {res : cr_S × Int32} (σ : cr_S) (a1 : Int32) (a2 : Int32) (a3 : Int32) (h : f_J1_indexOfChar_4cfef_201 σ a1 a2 a3 = some res) : cr_W p l e R s m args below meth c sfC 97 base D cA 6 (MQ below (cr_Qi sfC 97 base D cA res) args s 0 0 (cr_A 97 base)) σ 0 [(0, .ref (cA 201)), (1, .int a1), (2, .int a2), (3, .int a3)] [] := by
  unfold f_J1_indexOfChar_4cfef_201 at h
  refine g_iload_n (pc' := 1) C dJ1_indexOfChar_4cfef_0 1 rfl rfl ?_
  refine g_i2b (pc' := 2) C dJ1_indexOfChar_4cfef_1 rfl ?_
  obtain ⟨v1, e2, h⟩ := let_some h
  refine g_nameI e2 ?_
  refine g_istore (pc' := 4) (lv' := [(4, .int v1), (0, .ref (cA 201)), (1, .int a1), (2, .int a2), (3, .int a3)]) C dJ1_indexOfChar_4cfef_2 (by decide) rfl rfl ?_
  refine g_iload_n (pc' := 5) C dJ1_indexOfChar_4cfef_4 3 rfl rfl ?_
  refine g_istore (pc' := 7) (lv' := [(5, .int a2), (4, .int v1), (0, .ref (cA 201)), (1, .int a1), (2, .int a2), (3, .int a3)]) C dJ1_indexOfChar_4cfef_5 (by decide) rfl rfl ?_
  exact g_sub C [2, 5, 1, 0] rfl (w_J1_indexOfChar_4cfef_201_L7 C hr hR _ _ _ _ _ h)
theorem c_J1_indexOfChar_4cfef_201 (l : Launch) (base : Nat) (D : va_G) (cA : Nat → ClassId) (σ : cr_S) (a1 : Int32) (a2 : Int32) (a3 : Int32) (res : cr_S × Int32) (h : f_J1_indexOfChar_4cfef_201 σ a1 a2 a3 = some res) : cr_M l yJ1_indexOfChar_4cfef cJ1_indexOfChar_4cfef 6 (some .int) 0 0 sfC 97 base D cA [.ref (cA 201), .int a1, .int a2, .int a3] σ (cr_Qi sfC 97 base D cA res) := by
  refine cr_enter [.ref (cA 201), .int a1, .int a2, .int a3] [(0, .ref (cA 201)), (1, .int a1), (2, .int a2), (3, .int a3)] (by decide) (Nat.le_of_ble_eq_true rfl) rfl ?_
  intro p e R s m below meth c C hr hR
  exact w_J1_indexOfChar_4cfef_201 C hr hR σ a1 a2 a3 h
noncomputable def f_J1_indexOf_4cfef_201 (σ : cr_S) (a1 : Int32) (a2 : Int32) (a3 : Int32) : Option (cr_S × Int32) :=
  Option.bind (f_J1_canEncode_9a6ad σ a1) (fun q1 => (if q1.2 = 0 then some (q1.1, (-1)) else cr_let (if a2 < 0 then 0 else a2) (fun v3 => cr_let (if 4 < a3 then 4 else a3) (fun v5 => (if v3 < v5 then Option.bind (f_J1_indexOfChar_4cfef_201 q1.1 a1 v3 v5) (fun q7 => some (q7.1, q7.2)) else some (q1.1, (-1)))))))
set_option maxRecDepth 100000 in
set_option maxHeartbeats 4000000 in
theorem w_J1_indexOf_4cfef_201 (C : cr_C p l e R s m args below meth c sfC 97 base D cA cJ1_indexOf_4cfef 4 RJ1) (hr : meth.sig.returnType = some .int) (hR : 1 ≤ R.frames ∧ 25 ≤ R.locals) {res : cr_S × Int32} (σ : cr_S) (a1 : Int32) (a2 : Int32) (a3 : Int32) (h : f_J1_indexOf_4cfef_201 σ a1 a2 a3 = some res) : cr_W p l e R s m args below meth c sfC 97 base D cA 4 (MQ below (cr_Qi sfC 97 base D cA res) args s 0 0 (cr_A 97 base)) σ 0 [(0, .ref (cA 201)), (1, .int a1), (2, .int a2), (3, .int a3)] [] := by
  unfold f_J1_indexOf_4cfef_201 at h
  refine g_iload_n (pc' := 1) C dJ1_indexOf_4cfef_0 1 rfl rfl ?_
  obtain ⟨q1, h2, h⟩ := bind_some h
  refine g_callSi (pc' := 4) (res := q1) C [.int a1] cY_J1_canEncode_9a6ad mv_J1_canEncode_9a6ad mm_J1_88 ⟨Nat.le_trans (by decide) hR.1, Nat.le_trans (by decide) hR.2⟩ rfl (Nat.le_of_ble_eq_true rfl) rfl dJ1_indexOf_4cfef_1 (c_J1_canEncode_9a6ad l base D cA σ a1 q1 h2) rfl ?_
  refine g_if_ne (pc' := 7) (tgt := 9) C dJ1_indexOf_4cfef_4 (by decide) rfl (fun hc => ?_) (fun hc => ?_)
  · rw [if_neg hc] at h
    refine g_iload_n (pc' := 10) C dJ1_indexOf_4cfef_9 2 rfl rfl ?_
    refine g_iconst (pc' := 11) (v := 0) C dJ1_indexOf_4cfef_10 (by decide) rfl ?_
    refine g_mmax (pc' := 14) C mm_J1_92 ⟨Nat.le_trans (by decide) hR.1, Nat.le_trans (by decide) hR.2⟩ (Nat.le_of_ble_eq_true rfl) dJ1_indexOf_4cfef_11 rfl ?_
    obtain ⟨v3, e4, h⟩ := let_some h
    refine g_nameI e4 ?_
    refine g_istore_n (pc' := 15) (lv' := [(2, .int v3), (0, .ref (cA 201)), (1, .int a1), (3, .int a3)]) C dJ1_indexOf_4cfef_14 rfl (by decide) rfl rfl ?_
    refine g_iload_n (pc' := 16) C dJ1_indexOf_4cfef_15 3 rfl rfl ?_
    refine g_aload_n (pc' := 17) C dJ1_indexOf_4cfef_16 1 rfl rfl ?_
    refine g_tlen (pc' := 18) C 1 (by decide) dJ1_indexOf_4cfef_17 rfl ?_
    refine g_mmin (pc' := 21) C mm_J1_38 ⟨Nat.le_trans (by decide) hR.1, Nat.le_trans (by decide) hR.2⟩ (Nat.le_of_ble_eq_true rfl) dJ1_indexOf_4cfef_18 rfl ?_
    obtain ⟨v5, e6, h⟩ := let_some h
    refine g_nameI e6 ?_
    refine g_istore_n (pc' := 22) (lv' := [(3, .int v5), (2, .int v3), (0, .ref (cA 201)), (1, .int a1)]) C dJ1_indexOf_4cfef_21 rfl (by decide) rfl rfl ?_
    refine g_iload_n (pc' := 23) C dJ1_indexOf_4cfef_22 1 rfl rfl ?_
    refine g_iload_n (pc' := 24) C dJ1_indexOf_4cfef_23 0 rfl rfl ?_
    refine g_icmp_lt (pc' := 27) (tgt := 29) C dJ1_indexOf_4cfef_24 (by decide) rfl (fun hc => ?_) (fun hc => ?_)
    · rw [if_pos hc] at h
      refine g_aload_n (pc' := 30) C dJ1_indexOf_4cfef_29 2 rfl rfl ?_
      refine g_iload_n (pc' := 31) C dJ1_indexOf_4cfef_30 3 rfl rfl ?_
      refine g_iload_n (pc' := 32) C dJ1_indexOf_4cfef_31 1 rfl rfl ?_
      refine g_iload_n (pc' := 33) C dJ1_indexOf_4cfef_32 0 rfl rfl ?_
      obtain ⟨q7, h8, h⟩ := bind_some h
      refine g_callSi (pc' := 36) (res := q7) C [.ref (cA 201), .int a1, .int v3, .int v5] cY_J1_indexOfChar_4cfef mv_J1_indexOfChar_4cfef mm_J1_95 ⟨Nat.le_trans (by decide) hR.1, Nat.le_trans (by decide) hR.2⟩ rfl (Nat.le_of_ble_eq_true rfl) rfl dJ1_indexOf_4cfef_33 (c_J1_indexOfChar_4cfef_201 l base D cA q1.1 a1 v3 v5 q7 h8) rfl ?_
      exact g_iret C hr dJ1_indexOf_4cfef_36 h
    · rw [if_neg hc] at h
      refine g_iconst (pc' := 28) (v := (-1)) C dJ1_indexOf_4cfef_27 (by decide) rfl ?_
      exact g_iret C hr dJ1_indexOf_4cfef_28 h
  · rw [if_pos hc] at h
    refine g_iconst (pc' := 8) (v := (-1)) C dJ1_indexOf_4cfef_7 (by decide) rfl ?_
    exact g_iret C hr dJ1_indexOf_4cfef_8 h
theorem c_J1_indexOf_4cfef_201 (l : Launch) (base : Nat) (D : va_G) (cA : Nat → ClassId) (σ : cr_S) (a1 : Int32) (a2 : Int32) (a3 : Int32) (res : cr_S × Int32) (h : f_J1_indexOf_4cfef_201 σ a1 a2 a3 = some res) : cr_M l yJ1_indexOf_4cfef cJ1_indexOf_4cfef 4 (some .int) 1 25 sfC 97 base D cA [.ref (cA 201), .int a1, .int a2, .int a3] σ (cr_Qi sfC 97 base D cA res) := by
  refine cr_enter [.ref (cA 201), .int a1, .int a2, .int a3] [(0, .ref (cA 201)), (1, .int a1), (2, .int a2), (3, .int a3)] (by decide) (Nat.le_of_ble_eq_true rfl) rfl ?_
  intro p e R s m below meth c C hr hR
  exact w_J1_indexOf_4cfef_201 C hr hR σ a1 a2 a3 h
noncomputable def f_J0_indexOf_7cf53_101 (σ : cr_S) (a1 : Int32) (a2 : Int32) : Option (cr_S × Int32) :=
  Option.bind (f_J0_isLatin1_aae02_101 σ) (fun q1 => (if q1.2 = 0 then Option.bind (f_J0_length_8abf5_101 q1.1) (fun q3 => none) else Option.bind (f_J0_length_8abf5_101 q1.1) (fun q5 => Option.bind (f_J1_indexOf_4cfef_201 q5.1 a1 a2 q5.2) (fun q7 => some (q7.1, q7.2)))))
set_option maxRecDepth 100000 in
set_option maxHeartbeats 4000000 in
theorem w_J0_indexOf_7cf53_101 (C : cr_C p l e R s m args below meth c sfC 97 base D cA cJ0_indexOf_7cf53 3 RJ0) (hr : meth.sig.returnType = some .int) (hR : 2 ≤ R.frames ∧ 48 ≤ R.locals) {res : cr_S × Int32} (σ : cr_S) (a1 : Int32) (a2 : Int32) (h : f_J0_indexOf_7cf53_101 σ a1 a2 = some res) : cr_W p l e R s m args below meth c sfC 97 base D cA 3 (MQ below (cr_Qi sfC 97 base D cA res) args s 0 0 (cr_A 97 base)) σ 0 [(0, .ref (cA 101)), (1, .int a1), (2, .int a2)] [] := by
  unfold f_J0_indexOf_7cf53_101 at h
  refine g_aload_n (pc' := 1) C dJ0_indexOf_7cf53_0 0 rfl rfl ?_
  obtain ⟨q1, h2, h⟩ := bind_some h
  refine g_callTi (pc' := 4) (res := q1) C [] 1 (by decide) cY_J0_isLatin1_aae02 mv_J0_isLatin1_aae02 mm_J0_492 ⟨Nat.le_trans (by decide) hR.1, Nat.le_trans (by decide) hR.2⟩ rfl (Nat.le_of_ble_eq_true rfl) rfl dJ0_indexOf_7cf53_1 (c_J0_isLatin1_aae02_101 l base D cA σ q1 h2) rfl ?_
  refine g_if_eq (pc' := 7) (tgt := 23) C dJ0_indexOf_7cf53_4 (by decide) rfl (fun hc => ?_) (fun hc => ?_)
  · rw [if_pos hc] at h
    refine g_aload_n (pc' := 24) C dJ0_indexOf_7cf53_23 0 rfl rfl ?_
    refine g_strV (pc' := 27) C 1 (by decide) mf_J0_9 dJ0_indexOf_7cf53_24 rfl ?_
    refine g_iload_n (pc' := 28) C dJ0_indexOf_7cf53_27 1 rfl rfl ?_
    refine g_iload_n (pc' := 29) C dJ0_indexOf_7cf53_28 2 rfl rfl ?_
    refine g_aload_n (pc' := 30) C dJ0_indexOf_7cf53_29 0 rfl rfl ?_
    obtain ⟨q3, h4, h⟩ := bind_some h
    refine g_callTi (pc' := 33) (res := q3) C [] 1 (by decide) cY_J0_length_8abf5 mv_J0_length_8abf5 mm_J0_505 ⟨Nat.le_trans (by decide) hR.1, Nat.le_trans (by decide) hR.2⟩ rfl (Nat.le_of_ble_eq_true rfl) rfl dJ0_indexOf_7cf53_30 (c_J0_length_8abf5_101 l base D cA q1.1 q3 h4) rfl ?_
    cases h
  · rw [if_neg hc] at h
    refine g_aload_n (pc' := 8) C dJ0_indexOf_7cf53_7 0 rfl rfl ?_
    refine g_strV (pc' := 11) C 1 (by decide) mf_J0_9 dJ0_indexOf_7cf53_8 rfl ?_
    refine g_iload_n (pc' := 12) C dJ0_indexOf_7cf53_11 1 rfl rfl ?_
    refine g_iload_n (pc' := 13) C dJ0_indexOf_7cf53_12 2 rfl rfl ?_
    refine g_aload_n (pc' := 14) C dJ0_indexOf_7cf53_13 0 rfl rfl ?_
    obtain ⟨q5, h6, h⟩ := bind_some h
    refine g_callTi (pc' := 17) (res := q5) C [] 1 (by decide) cY_J0_length_8abf5 mv_J0_length_8abf5 mm_J0_505 ⟨Nat.le_trans (by decide) hR.1, Nat.le_trans (by decide) hR.2⟩ rfl (Nat.le_of_ble_eq_true rfl) rfl dJ0_indexOf_7cf53_14 (c_J0_length_8abf5_101 l base D cA q1.1 q5 h6) rfl ?_
    obtain ⟨q7, h8, h⟩ := bind_some h
    refine g_callSi (pc' := 20) (res := q7) C [.ref (cA 201), .int a1, .int a2, .int q5.2] cY_J1_indexOf_4cfef mv_J1_indexOf_4cfef mm_J0_637 ⟨Nat.le_trans (by decide) hR.1, Nat.le_trans (by decide) hR.2⟩ rfl (Nat.le_of_ble_eq_true rfl) rfl dJ0_indexOf_7cf53_17 (c_J1_indexOf_4cfef_201 l base D cA q5.1 a1 a2 q5.2 q7 h8) rfl ?_
    refine g_goto (tgt := 36) C dJ0_indexOf_7cf53_20 (by decide) ?_
    exact g_iret C hr dJ0_indexOf_7cf53_36 h
theorem c_J0_indexOf_7cf53_101 (l : Launch) (base : Nat) (D : va_G) (cA : Nat → ClassId) (σ : cr_S) (a1 : Int32) (a2 : Int32) (res : cr_S × Int32) (h : f_J0_indexOf_7cf53_101 σ a1 a2 = some res) : cr_M l yJ0_indexOf_7cf53 cJ0_indexOf_7cf53 3 (some .int) 2 48 sfC 97 base D cA [.ref (cA 101), .int a1, .int a2] σ (cr_Qi sfC 97 base D cA res) := by
  refine cr_enter [.ref (cA 101), .int a1, .int a2] [(0, .ref (cA 101)), (1, .int a1), (2, .int a2)] (by decide) (Nat.le_of_ble_eq_true rfl) rfl ?_
  intro p e R s m below meth c C hr hR
  exact w_J0_indexOf_7cf53_101 C hr hR σ a1 a2 h
noncomputable def f_J0_indexOf_0f7a4_101 (σ : cr_S) (a1 : Int32) : Option (cr_S × Int32) :=
  Option.bind (f_J0_indexOf_7cf53_101 σ a1 0) (fun q1 => some (q1.1, q1.2))
set_option maxRecDepth 100000 in
set_option maxHeartbeats 4000000 in
theorem w_J0_indexOf_0f7a4_101 (C : cr_C p l e R s m args below meth c sfC 97 base D cA cJ0_indexOf_0f7a4 2 RJ0) (hr : meth.sig.returnType = some .int) (hR : 3 ≤ R.frames ∧ 70 ≤ R.locals) {res : cr_S × Int32} (σ : cr_S) (a1 : Int32) (h : f_J0_indexOf_0f7a4_101 σ a1 = some res) : cr_W p l e R s m args below meth c sfC 97 base D cA 2 (MQ below (cr_Qi sfC 97 base D cA res) args s 0 0 (cr_A 97 base)) σ 0 [(0, .ref (cA 101)), (1, .int a1)] [] := by
  unfold f_J0_indexOf_0f7a4_101 at h
  refine g_aload_n (pc' := 1) C dJ0_indexOf_0f7a4_0 0 rfl rfl ?_
  refine g_iload_n (pc' := 2) C dJ0_indexOf_0f7a4_1 1 rfl rfl ?_
  refine g_iconst (pc' := 3) (v := 0) C dJ0_indexOf_0f7a4_2 (by decide) rfl ?_
  obtain ⟨q1, h2, h⟩ := bind_some h
  refine g_callTi (pc' := 6) (res := q1) C [.int a1, .int 0] 1 (by decide) cY_J0_indexOf_7cf53 mv_J0_indexOf_7cf53 mm_J0_633 ⟨Nat.le_trans (by decide) hR.1, Nat.le_trans (by decide) hR.2⟩ rfl (Nat.le_of_ble_eq_true rfl) rfl dJ0_indexOf_0f7a4_3 (c_J0_indexOf_7cf53_101 l base D cA σ a1 0 q1 h2) rfl ?_
  exact g_iret C hr dJ0_indexOf_0f7a4_6 h
theorem c_J0_indexOf_0f7a4_101 (l : Launch) (base : Nat) (D : va_G) (cA : Nat → ClassId) (σ : cr_S) (a1 : Int32) (res : cr_S × Int32) (h : f_J0_indexOf_0f7a4_101 σ a1 = some res) : cr_M l yJ0_indexOf_0f7a4 cJ0_indexOf_0f7a4 2 (some .int) 3 70 sfC 97 base D cA [.ref (cA 101), .int a1] σ (cr_Qi sfC 97 base D cA res) := by
  refine cr_enter [.ref (cA 101), .int a1] [(0, .ref (cA 101)), (1, .int a1)] (by decide) (Nat.le_of_ble_eq_true rfl) rfl ?_
  intro p e R s m below meth c C hr hR
  exact w_J0_indexOf_0f7a4_101 C hr hR σ a1 h
noncomputable def f_X7_kindRead_55_101_B23  (σ : cr_S) (x2 : Int32) (t0 : Int32) (t1 : Int32) : Option (cr_S × Int32) :=
  cr_let (sF σ 55 6 (t1 + t0)) (fun s7 => some (s7, x2))
set_option maxRecDepth 100000 in
set_option maxHeartbeats 4000000 in
theorem w_X7_kindRead_55_101_B23 (C : cr_C p l e R s m args below meth c sfC 97 base D cA cX7_kindRead 3 RX7) (hr : meth.sig.returnType = some .int) (hR : 4 ≤ R.frames ∧ 91 ≤ R.locals) {res : cr_S × Int32}  (σ : cr_S) (x2 : Int32) (t0 : Int32) (t1 : Int32) (h : f_X7_kindRead_55_101_B23 σ x2 t0 t1 = some res) : cr_W p l e R s m args below meth c sfC 97 base D cA 3 (MQ below (cr_Qi sfC 97 base D cA res) args s 0 0 (cr_A 97 base)) σ 23 [(2, .int x2)] [.int t0, .int t1, .ref (base + 55)] := by
  unfold f_X7_kindRead_55_101_B23 at h
  refine g_iadd (pc' := 24) C dX7_kindRead_23 rfl ?_
  obtain ⟨s7, e8, h⟩ := let_some h
  refine gp_X7_33 (pc' := 27) (o := 55) C rfl dX7_kindRead_24 rfl e8 ?_
  refine g_iload_n (pc' := 28) C dX7_kindRead_27 0 rfl rfl ?_
  exact g_iret C hr dX7_kindRead_28 h
noncomputable def f_X7_kindRead_55_101 (σ : cr_S) : Option (cr_S × Int32) :=
  Option.bind (f_X7_letterHere_55 σ) (fun q1 => Option.bind (f_J0_indexOf_0f7a4_101 q1.1 q1.2) (fun q3 => cr_let q3.2 (fun v5 => f_X7_kindRead_55_101_B23 q3.1 v5 (if 0 ≤ v5 then 1 else 0) (rF q3.1 55 6))))
set_option maxRecDepth 100000 in
set_option maxHeartbeats 4000000 in
theorem w_X7_kindRead_55_101 (C : cr_C p l e R s m args below meth c sfC 97 base D cA cX7_kindRead 3 RX7) (hr : meth.sig.returnType = some .int) (hR : 4 ≤ R.frames ∧ 91 ≤ R.locals) {res : cr_S × Int32} (σ : cr_S) (h : f_X7_kindRead_55_101 σ = some res) : cr_W p l e R s m args below meth c sfC 97 base D cA 3 (MQ below (cr_Qi sfC 97 base D cA res) args s 0 0 (cr_A 97 base)) σ 0 [(0, .ref (base + 55)), (1, .ref (cA 101))] [] := by
  unfold f_X7_kindRead_55_101 at h
  refine g_aload_n (pc' := 1) C dX7_kindRead_0 1 rfl rfl ?_
  refine g_aload_n (pc' := 2) C dX7_kindRead_1 0 rfl rfl ?_
  obtain ⟨q1, h2, h⟩ := bind_some h
  refine g_callVi (pc' := 5) (res := q1) C [] cY_X7_letterHere rfl (o := 55) (by decide) rfl mv_X7_letterHere mm_X7_54 ⟨Nat.le_trans (by decide) hR.1, Nat.le_trans (by decide) hR.2⟩ rfl (Nat.le_of_ble_eq_true rfl) rfl dX7_kindRead_2 (c_X7_letterHere_55 l base D cA σ q1 h2) rfl ?_
  obtain ⟨q3, h4, h⟩ := bind_some h
  refine g_callTi (pc' := 8) (res := q3) C [.int q1.2] 1 (by decide) cY_J0_indexOf_0f7a4 mv_J0_indexOf_0f7a4 mm_X7_88 ⟨Nat.le_trans (by decide) hR.1, Nat.le_trans (by decide) hR.2⟩ rfl (Nat.le_of_ble_eq_true rfl) rfl dX7_kindRead_5 (c_J0_indexOf_0f7a4_101 l base D cA q1.1 q1.2 q3 h4) rfl ?_
  obtain ⟨v5, e6, h⟩ := let_some h
  refine g_nameI e6 ?_
  refine g_istore_n (pc' := 9) (lv' := [(2, .int v5), (0, .ref (base + 55)), (1, .ref (cA 101))]) C dX7_kindRead_8 rfl (by decide) rfl rfl ?_
  refine g_aload_n (pc' := 10) C dX7_kindRead_9 1 rfl rfl ?_
  refine g_dup (pc' := 11) C dX7_kindRead_10 rfl rfl ?_
  refine gg_X7_33 (pc' := 14) (o := 55) C rfl dX7_kindRead_11 rfl ?_
  refine g_iload_n (pc' := 15) C dX7_kindRead_14 0 rfl rfl ?_
  refine g_iteI (σ := q3.1) (pj := 23) (lv := [(2, .int v5), (0, .ref (base + 55)), (1, .ref (cA 101))]) (st := [.int (rF q3.1 55 6), .ref (base + 55)]) (cd := 0 ≤ v5) (a := 1) (b := 0) C ?_ (fun kt kf => ?_)
  · exact g_sub C [0] rfl (w_X7_kindRead_55_101_B23 C hr hR _ _ _ _ h)
  · refine g_if_ge (pc' := 18) (tgt := 22) C dX7_kindRead_15 (by decide) rfl (fun hc => ?_) (fun hc => ?_)
    · refine g_iconst (pc' := 23) (v := 1) C dX7_kindRead_22 (by decide) rfl ?_
      exact kt hc
    · refine g_iconst (pc' := 19) (v := 0) C dX7_kindRead_18 (by decide) rfl ?_
      refine g_goto (tgt := 23) C dX7_kindRead_19 (by decide) ?_
      exact kf hc
theorem c_X7_kindRead_55_101 (l : Launch) (base : Nat) (D : va_G) (cA : Nat → ClassId) (σ : cr_S) (res : cr_S × Int32) (h : f_X7_kindRead_55_101 σ = some res) : cr_M l yX7_kindRead cX7_kindRead 3 (some .int) 4 91 sfC 97 base D cA [.ref (base + 55), .ref (cA 101)] σ (cr_Qi sfC 97 base D cA res) := by
  refine cr_enter [.ref (base + 55), .ref (cA 101)] [(0, .ref (base + 55)), (1, .ref (cA 101))] (by decide) (Nat.le_of_ble_eq_true rfl) rfl ?_
  intro p e R s m below meth c C hr hR
  exact w_X7_kindRead_55_101 C hr hR σ h
noncomputable def f_X7_digitRead_55 (σ : cr_S) (a1 : Int32) : Option (cr_S × Int32) :=
  Option.bind (f_X7_letterHere_55 σ) (fun q1 => cr_let (q1.2 - 48) (fun v3 => Option.bind (f_X10_isWithin q1.1 v3 1 a1) (fun q5 => (if q5.2 = 0 then some (q5.1, (-1)) else cr_let (sF q5.1 55 6 ((rF q5.1 55 6) + 1)) (fun s7 => some (s7, v3))))))
set_option maxRecDepth 100000 in
set_option maxHeartbeats 4000000 in
theorem w_X7_digitRead_55 (C : cr_C p l e R s m args below meth c sfC 97 base D cA cX7_digitRead 3 RX7) (hr : meth.sig.returnType = some .int) (hR : 1 ≤ R.frames ∧ 22 ≤ R.locals) {res : cr_S × Int32} (σ : cr_S) (a1 : Int32) (h : f_X7_digitRead_55 σ a1 = some res) : cr_W p l e R s m args below meth c sfC 97 base D cA 3 (MQ below (cr_Qi sfC 97 base D cA res) args s 0 0 (cr_A 97 base)) σ 0 [(0, .ref (base + 55)), (1, .int a1)] [] := by
  unfold f_X7_digitRead_55 at h
  refine g_aload_n (pc' := 1) C dX7_digitRead_0 0 rfl rfl ?_
  obtain ⟨q1, h2, h⟩ := bind_some h
  refine g_callVi (pc' := 4) (res := q1) C [] cY_X7_letterHere rfl (o := 55) (by decide) rfl mv_X7_letterHere mm_X7_54 ⟨Nat.le_trans (by decide) hR.1, Nat.le_trans (by decide) hR.2⟩ rfl (Nat.le_of_ble_eq_true rfl) rfl dX7_digitRead_1 (c_X7_letterHere_55 l base D cA σ q1 h2) rfl ?_
  refine g_bipush (pc' := 6) (v := 48) C dX7_digitRead_4 (by decide) rfl ?_
  refine g_isub (pc' := 7) C dX7_digitRead_6 rfl ?_
  obtain ⟨v3, e4, h⟩ := let_some h
  refine g_nameI e4 ?_
  refine g_istore_n (pc' := 8) (lv' := [(2, .int v3), (0, .ref (base + 55)), (1, .int a1)]) C dX7_digitRead_7 rfl (by decide) rfl rfl ?_
  refine g_iload_n (pc' := 9) C dX7_digitRead_8 0 rfl rfl ?_
  refine g_iconst (pc' := 10) (v := 1) C dX7_digitRead_9 (by decide) rfl ?_
  refine g_iload_n (pc' := 11) C dX7_digitRead_10 2 rfl rfl ?_
  obtain ⟨q5, h6, h⟩ := bind_some h
  refine g_callNi (pc' := 14) (res := q5) C [.int v3, .int 1, .int a1] cY_X10_isWithin mv_X10_isWithin mn_X7_93 ⟨Nat.le_trans (by decide) hR.1, Nat.le_trans (by decide) hR.2⟩ rfl (Nat.le_of_ble_eq_true rfl) rfl dX7_digitRead_11 (c_X10_isWithin l base D cA q1.1 v3 1 a1 q5 h6) rfl ?_
  refine g_if_ne (pc' := 17) (tgt := 19) C dX7_digitRead_14 (by decide) rfl (fun hc => ?_) (fun hc => ?_)
  · rw [if_neg hc] at h
    refine g_aload_n (pc' := 20) C dX7_digitRead_19 1 rfl rfl ?_
    refine g_dup (pc' := 21) C dX7_digitRead_20 rfl rfl ?_
    refine gg_X7_33 (pc' := 24) (o := 55) C rfl dX7_digitRead_21 rfl ?_
    refine g_iconst (pc' := 25) (v := 1) C dX7_digitRead_24 (by decide) rfl ?_
    refine g_iadd (pc' := 26) C dX7_digitRead_25 rfl ?_
    obtain ⟨s7, e8, h⟩ := let_some h
    refine gp_X7_33 (pc' := 29) (o := 55) C rfl dX7_digitRead_26 rfl e8 ?_
    refine g_iload_n (pc' := 30) C dX7_digitRead_29 0 rfl rfl ?_
    exact g_iret C hr dX7_digitRead_30 h
  · rw [if_pos hc] at h
    refine g_iconst (pc' := 18) (v := (-1)) C dX7_digitRead_17 (by decide) rfl ?_
    exact g_iret C hr dX7_digitRead_18 h
theorem c_X7_digitRead_55 (l : Launch) (base : Nat) (D : va_G) (cA : Nat → ClassId) (σ : cr_S) (a1 : Int32) (res : cr_S × Int32) (h : f_X7_digitRead_55 σ a1 = some res) : cr_M l yX7_digitRead cX7_digitRead 3 (some .int) 1 22 sfC 97 base D cA [.ref (base + 55), .int a1] σ (cr_Qi sfC 97 base D cA res) := by
  refine cr_enter [.ref (base + 55), .int a1] [(0, .ref (base + 55)), (1, .int a1)] (by decide) (Nat.le_of_ble_eq_true rfl) rfl ?_
  intro p e R s m below meth c C hr hR
  exact w_X7_digitRead_55 C hr hR σ a1 h
noncomputable def f_X7_isShipRead_55_B35  (σ : cr_S) (x1 : Nat) (x2 : Int32) (x3 : Int32) (t0 : Int32) : Option (cr_S × Int32) :=
  (if 0 ≤ t0 then Option.bind (f_X6_become σ x1 x2 x3 t0) (fun q9 => chk (kC x1 = 6) (some (q9, 1))) else some (σ, 0))
set_option maxRecDepth 100000 in
set_option maxHeartbeats 4000000 in
theorem w_X7_isShipRead_55_B35 (C : cr_C p l e R s m args below meth c sfC 97 base D cA cX7_isShipRead 5 RX7) (hr : meth.sig.returnType = some .boolean) (hR : 5 ≤ R.frames ∧ 113 ≤ R.locals) {res : cr_S × Int32}  (σ : cr_S) (x1 : Nat) (x2 : Int32) (x3 : Int32) (t0 : Int32) (h : f_X7_isShipRead_55_B35 σ x1 x2 x3 t0 = some res) : cr_W p l e R s m args below meth c sfC 97 base D cA 5 (MQ below (cr_Qi sfC 97 base D cA res) args s 0 0 (cr_A 97 base)) σ 35 [(1, .ref (base + x1)), (2, .int x2), (3, .int x3)] [.int t0] := by
  unfold f_X7_isShipRead_55_B35 at h
  refine g_istore (pc' := 37) (lv' := [(4, .int t0), (1, .ref (base + x1)), (2, .int x2), (3, .int x3)]) C dX7_isShipRead_35 (by decide) rfl rfl ?_
  refine g_iload (pc' := 39) C dX7_isShipRead_37 0 rfl rfl ?_
  refine g_if_ge (pc' := 42) (tgt := 44) C dX7_isShipRead_39 (by decide) rfl (fun hc => ?_) (fun hc => ?_)
  · rw [if_pos hc] at h
    refine g_aload_n (pc' := 45) C dX7_isShipRead_44 1 rfl rfl ?_
    refine g_iload_n (pc' := 46) C dX7_isShipRead_45 2 rfl rfl ?_
    refine g_iload_n (pc' := 47) C dX7_isShipRead_46 3 rfl rfl ?_
    refine g_iload (pc' := 49) C dX7_isShipRead_47 0 rfl rfl ?_
    obtain ⟨q9, h10, h⟩ := bind_some h
    obtain ⟨h11, h⟩ := chk_some h
    refine g_callVv (pc' := 52) (res := q9) C [.int x2, .int x3, .int t0] cY_X6_become rfl (o := x1) (kC_lt h11 (by decide)) (sfC_6 h11) mv_X6_become mm_X7_85 ⟨Nat.le_trans (by decide) hR.1, Nat.le_trans (by decide) hR.2⟩ rfl (Nat.le_of_ble_eq_true rfl) rfl dX7_isShipRead_49 (c_X6_become l base D cA σ x1 x2 x3 t0 q9 h10) rfl ?_
    refine g_iconst (pc' := 53) (v := 1) C dX7_isShipRead_52 (by decide) rfl ?_
    exact g_zret C hr rfl dX7_isShipRead_53 h
  · rw [if_neg hc] at h
    refine g_iconst (pc' := 43) (v := 0) C dX7_isShipRead_42 (by decide) rfl ?_
    exact g_zret C hr rfl dX7_isShipRead_43 h
noncomputable def f_X7_isShipRead_55_B21  (σ : cr_S) (x1 : Nat) (x2 : Int32) (t0 : Int32) : Option (cr_S × Int32) :=
  (if 0 ≤ t0 then Option.bind (f_X7_digitRead_55 σ 5) (fun q7 => f_X7_isShipRead_55_B35 q7.1 x1 x2 t0 q7.2) else f_X7_isShipRead_55_B35 σ x1 x2 t0 (-1))
set_option maxRecDepth 100000 in
set_option maxHeartbeats 4000000 in
theorem w_X7_isShipRead_55_B21 (C : cr_C p l e R s m args below meth c sfC 97 base D cA cX7_isShipRead 5 RX7) (hr : meth.sig.returnType = some .boolean) (hR : 5 ≤ R.frames ∧ 113 ≤ R.locals) {res : cr_S × Int32}  (σ : cr_S) (x1 : Nat) (x2 : Int32) (t0 : Int32) (h : f_X7_isShipRead_55_B21 σ x1 x2 t0 = some res) : cr_W p l e R s m args below meth c sfC 97 base D cA 5 (MQ below (cr_Qi sfC 97 base D cA res) args s 0 0 (cr_A 97 base)) σ 21 [(0, .ref (base + 55)), (1, .ref (base + x1)), (2, .int x2)] [.int t0] := by
  unfold f_X7_isShipRead_55_B21 at h
  refine g_istore_n (pc' := 22) (lv' := [(3, .int t0), (0, .ref (base + 55)), (1, .ref (base + x1)), (2, .int x2)]) C dX7_isShipRead_21 rfl (by decide) rfl rfl ?_
  refine g_iload_n (pc' := 23) C dX7_isShipRead_22 0 rfl rfl ?_
  refine g_if_ge (pc' := 26) (tgt := 30) C dX7_isShipRead_23 (by decide) rfl (fun hc => ?_) (fun hc => ?_)
  · rw [if_pos hc] at h
    refine g_aload_n (pc' := 31) C dX7_isShipRead_30 1 rfl rfl ?_
    refine g_iconst (pc' := 32) (v := 5) C dX7_isShipRead_31 (by decide) rfl ?_
    obtain ⟨q7, h8, h⟩ := bind_some h
    refine g_callVi (pc' := 35) (res := q7) C [.int 5] cY_X7_digitRead rfl (o := 55) (by decide) rfl mv_X7_digitRead mm_X7_81 ⟨Nat.le_trans (by decide) hR.1, Nat.le_trans (by decide) hR.2⟩ rfl (Nat.le_of_ble_eq_true rfl) rfl dX7_isShipRead_32 (c_X7_digitRead_55 l base D cA σ 5 q7 h8) rfl ?_
    exact g_sub C [2, 3, 0] rfl (w_X7_isShipRead_55_B35 C hr hR _ _ _ _ _ h)
  · rw [if_neg hc] at h
    refine g_iconst (pc' := 27) (v := (-1)) C dX7_isShipRead_26 (by decide) rfl ?_
    refine g_goto (tgt := 35) C dX7_isShipRead_27 (by decide) ?_
    exact g_sub C [2, 3, 0] rfl (w_X7_isShipRead_55_B35 C hr hR _ _ _ _ _ h)
noncomputable def f_X7_isShipRead_55 (σ : cr_S) (o1 : Nat) : Option (cr_S × Int32) :=
  Option.bind (f_X7_kindRead_55_101 σ) (fun q1 => cr_let q1.2 (fun v3 => (if 0 ≤ v3 then Option.bind (f_X7_digitRead_55 q1.1 9) (fun q5 => f_X7_isShipRead_55_B21 q5.1 o1 v3 q5.2) else f_X7_isShipRead_55_B21 q1.1 o1 v3 (-1))))
set_option maxRecDepth 100000 in
set_option maxHeartbeats 4000000 in
theorem w_X7_isShipRead_55 (C : cr_C p l e R s m args below meth c sfC 97 base D cA cX7_isShipRead 5 RX7) (hr : meth.sig.returnType = some .boolean) (hR : 5 ≤ R.frames ∧ 113 ≤ R.locals) {res : cr_S × Int32} (σ : cr_S) (o1 : Nat) (h : f_X7_isShipRead_55 σ o1 = some res) : cr_W p l e R s m args below meth c sfC 97 base D cA 5 (MQ below (cr_Qi sfC 97 base D cA res) args s 0 0 (cr_A 97 base)) σ 0 [(0, .ref (base + 55)), (1, .ref (base + o1))] [] := by
  unfold f_X7_isShipRead_55 at h
  refine g_aload_n (pc' := 1) C dX7_isShipRead_0 0 rfl rfl ?_
  refine g_ldcS (pc' := 3) C C.2.2.2.2.2.2.2.2.2.2.1 dX7_isShipRead_1 rfl ?_
  obtain ⟨q1, h2, h⟩ := bind_some h
  refine g_callVi (pc' := 6) (res := q1) C [.ref (cA 101)] cY_X7_kindRead rfl (o := 55) (by decide) rfl mv_X7_kindRead mm_X7_64 ⟨Nat.le_trans (by decide) hR.1, Nat.le_trans (by decide) hR.2⟩ rfl (Nat.le_of_ble_eq_true rfl) rfl dX7_isShipRead_3 (c_X7_kindRead_55_101 l base D cA σ q1 h2) rfl ?_
  obtain ⟨v3, e4, h⟩ := let_some h
  refine g_nameI e4 ?_
  refine g_istore_n (pc' := 7) (lv' := [(2, .int v3), (0, .ref (base + 55)), (1, .ref (base + o1))]) C dX7_isShipRead_6 rfl (by decide) rfl rfl ?_
  refine g_iload_n (pc' := 8) C dX7_isShipRead_7 0 rfl rfl ?_
  refine g_if_ge (pc' := 11) (tgt := 15) C dX7_isShipRead_8 (by decide) rfl (fun hc => ?_) (fun hc => ?_)
  · rw [if_pos hc] at h
    refine g_aload_n (pc' := 16) C dX7_isShipRead_15 1 rfl rfl ?_
    refine g_bipush (pc' := 18) (v := 9) C dX7_isShipRead_16 (by decide) rfl ?_
    obtain ⟨q5, h6, h⟩ := bind_some h
    refine g_callVi (pc' := 21) (res := q5) C [.int 9] cY_X7_digitRead rfl (o := 55) (by decide) rfl mv_X7_digitRead mm_X7_81 ⟨Nat.le_trans (by decide) hR.1, Nat.le_trans (by decide) hR.2⟩ rfl (Nat.le_of_ble_eq_true rfl) rfl dX7_isShipRead_18 (c_X7_digitRead_55 l base D cA q1.1 9 q5 h6) rfl ?_
    exact g_sub C [1, 2, 0] rfl (w_X7_isShipRead_55_B21 C hr hR _ _ _ _ h)
  · rw [if_neg hc] at h
    refine g_iconst (pc' := 12) (v := (-1)) C dX7_isShipRead_11 (by decide) rfl ?_
    refine g_goto (tgt := 21) C dX7_isShipRead_12 (by decide) ?_
    exact g_sub C [1, 2, 0] rfl (w_X7_isShipRead_55_B21 C hr hR _ _ _ _ h)
theorem c_X7_isShipRead_55 (l : Launch) (base : Nat) (D : va_G) (cA : Nat → ClassId) (σ : cr_S) (o1 : Nat) (res : cr_S × Int32) (h : f_X7_isShipRead_55 σ o1 = some res) : cr_M l yX7_isShipRead cX7_isShipRead 5 (some .boolean) 5 113 sfC 97 base D cA [.ref (base + 55), .ref (base + o1)] σ (cr_Qi sfC 97 base D cA res) := by
  refine cr_enter [.ref (base + 55), .ref (base + o1)] [(0, .ref (base + 55)), (1, .ref (base + o1))] (by decide) (Nat.le_of_ble_eq_true rfl) rfl ?_
  intro p e R s m below meth c C hr hR
  exact w_X7_isShipRead_55 C hr hR σ o1 h
noncomputable def f_X7_areShipsRead_55_B64 (r2 : cr_S → Int32 → Option (cr_S × Int32)) (σ : cr_S) (t0 : Int32) : Option (cr_S × Int32) :=
  r2 σ t0
set_option maxRecDepth 100000 in
set_option maxHeartbeats 4000000 in
theorem w_X7_areShipsRead_55_B64 (C : cr_C p l e R s m args below meth c sfC 97 base D cA cX7_areShipsRead 2 RX7) (hr : meth.sig.returnType = some .boolean) (hR : 6 ≤ R.frames ∧ 137 ≤ R.locals) {res : cr_S × Int32} (r2 : cr_S → Int32 → Option (cr_S × Int32)) (hr2 : ∀ (σ : cr_S) (x1 : Int32), r2 σ x1 = some res → cr_W p l e R s m args below meth c sfC 97 base D cA 2 (MQ below (cr_Qi sfC 97 base D cA res) args s 0 0 (cr_A 97 base)) σ 2 [(0, .ref (base + 55)), (1, .int x1)] []) (σ : cr_S) (t0 : Int32) (h : f_X7_areShipsRead_55_B64 r2 σ t0 = some res) : cr_W p l e R s m args below meth c sfC 97 base D cA 2 (MQ below (cr_Qi sfC 97 base D cA res) args s 0 0 (cr_A 97 base)) σ 64 [(0, .ref (base + 55))] [.int t0] := by
  unfold f_X7_areShipsRead_55_B64 at h
  refine g_istore_n (pc' := 65) (lv' := [(1, .int t0), (0, .ref (base + 55))]) C dX7_areShipsRead_64 rfl (by decide) rfl rfl ?_
  refine g_goto (tgt := 2) C dX7_areShipsRead_65 (by decide) ?_
  exact g_sub C [1, 0] rfl (hr2 _ _ h)
noncomputable def f_X7_areShipsRead_55_B63 (r2 : cr_S → Int32 → Option (cr_S × Int32)) (σ : cr_S) : Option (cr_S × Int32) :=
  f_X7_areShipsRead_55_B64 r2 σ 0
set_option maxRecDepth 100000 in
set_option maxHeartbeats 4000000 in
theorem w_X7_areShipsRead_55_B63 (C : cr_C p l e R s m args below meth c sfC 97 base D cA cX7_areShipsRead 2 RX7) (hr : meth.sig.returnType = some .boolean) (hR : 6 ≤ R.frames ∧ 137 ≤ R.locals) {res : cr_S × Int32} (r2 : cr_S → Int32 → Option (cr_S × Int32)) (hr2 : ∀ (σ : cr_S) (x1 : Int32), r2 σ x1 = some res → cr_W p l e R s m args below meth c sfC 97 base D cA 2 (MQ below (cr_Qi sfC 97 base D cA res) args s 0 0 (cr_A 97 base)) σ 2 [(0, .ref (base + 55)), (1, .int x1)] []) (σ : cr_S) (h : f_X7_areShipsRead_55_B63 r2 σ = some res) : cr_W p l e R s m args below meth c sfC 97 base D cA 2 (MQ below (cr_Qi sfC 97 base D cA res) args s 0 0 (cr_A 97 base)) σ 63 [(0, .ref (base + 55))] [] := by
  unfold f_X7_areShipsRead_55_B63 at h
  refine g_iconst (pc' := 64) (v := 0) C dX7_areShipsRead_63 (by decide) rfl ?_
  exact g_sub C [0] rfl (w_X7_areShipsRead_55_B64 C hr hR r2 hr2 _ _ h)
noncomputable def f_X7_areShipsRead_55_L2  : Nat → cr_S → Int32 → Option (cr_S × Int32)
  | 0, _, _ => none
  | n + 1, σ, x1 =>
    (if x1 = 0 then some (σ, 1) else (if 5 ≤ (rF σ 55 5) then some (σ, 1) else chk (inb (rF σ 55 5) 5) (Option.bind (f_X7_isShipRead_55 σ (65 + (rF σ 55 5).toNatClampNeg)) (fun q2 => (if q2.2 = 0 then some (q2.1, 0) else cr_let (sF q2.1 55 5 ((rF q2.1 55 5) + 1)) (fun s4 => (if 5 ≤ (rF s4 55 5) then f_X7_areShipsRead_55_B63 (f_X7_areShipsRead_55_L2 n) s4 else Option.bind (f_X7_isTaken_55 s4 44) (fun q6 => (if q6.2 = 0 then f_X7_areShipsRead_55_B63 (f_X7_areShipsRead_55_L2 n) q6.1 else f_X7_areShipsRead_55_B64 (f_X7_areShipsRead_55_L2 n) q6.1 1)))))))))
set_option maxRecDepth 100000 in
set_option maxHeartbeats 4000000 in
theorem w_X7_areShipsRead_55_L2 (C : cr_C p l e R s m args below meth c sfC 97 base D cA cX7_areShipsRead 2 RX7) (hr : meth.sig.returnType = some .boolean) (hR : 6 ≤ R.frames ∧ 137 ≤ R.locals) {res : cr_S × Int32}  : ∀ (n : Nat) (σ : cr_S) (x1 : Int32), f_X7_areShipsRead_55_L2 n σ x1 = some res → cr_W p l e R s m args below meth c sfC 97 base D cA 2 (MQ below (cr_Qi sfC 97 base D cA res) args s 0 0 (cr_A 97 base)) σ 2 [(0, .ref (base + 55)), (1, .int x1)] [] := by
  intro n
  induction n with
  | zero =>
    intro σ x1 h
    cases h
  | succ n ih =>
    intro σ x1 h
    rw [f_X7_areShipsRead_55_L2] at h
    refine g_iload_n (pc' := 3) C dX7_areShipsRead_2 1 rfl rfl ?_
    refine g_if_eq (pc' := 6) (tgt := 68) C dX7_areShipsRead_3 (by decide) rfl (fun hc => ?_) (fun hc => ?_)
    · rw [if_pos hc] at h
      refine g_iconst (pc' := 69) (v := 1) C dX7_areShipsRead_68 (by decide) rfl ?_
      exact g_zret C hr rfl dX7_areShipsRead_69 h
    · rw [if_neg hc] at h
      refine g_aload_n (pc' := 7) C dX7_areShipsRead_6 0 rfl rfl ?_
      refine gg_X7_39 (pc' := 10) (o := 55) C rfl dX7_areShipsRead_7 rfl ?_
      refine g_iconst (pc' := 11) (v := 5) C dX7_areShipsRead_10 (by decide) rfl ?_
      refine g_icmp_ge (pc' := 14) (tgt := 68) C dX7_areShipsRead_11 (by decide) rfl (fun hc => ?_) (fun hc => ?_)
      · rw [if_pos hc] at h
        refine g_iconst (pc' := 69) (v := 1) C dX7_areShipsRead_68 (by decide) rfl ?_
        exact g_zret C hr rfl dX7_areShipsRead_69 h
      · rw [if_neg hc] at h
        refine g_aload_n (pc' := 15) C dX7_areShipsRead_14 0 rfl rfl ?_
        refine g_aload_n (pc' := 16) C dX7_areShipsRead_15 0 rfl rfl ?_
        refine gg_X7_23 (pc' := 19) (o := 55) (r := 58) C rfl rfl dX7_areShipsRead_16 rfl ?_
        refine g_aload_n (pc' := 20) C dX7_areShipsRead_19 0 rfl rfl ?_
        refine gg_X7_39 (pc' := 23) (o := 55) C rfl dX7_areShipsRead_20 rfl ?_
        obtain ⟨h1, h⟩ := chk_some h
        refine g_aald (pc' := 24) C (o := 58) (by decide) rfl (cn := "ClashRocks$Ship") rfl (inb_d h1) dX7_areShipsRead_23 rfl ?_
        obtain ⟨q2, h3, h⟩ := bind_some h
        refine g_callVi (pc' := 27) (res := q2) C [.ref (base + (65 + (rF σ 55 5).toNatClampNeg))] cY_X7_isShipRead rfl (o := 55) (by decide) rfl mv_X7_isShipRead mm_X7_58 ⟨Nat.le_trans (by decide) hR.1, Nat.le_trans (by decide) hR.2⟩ rfl (Nat.le_of_ble_eq_true rfl) rfl dX7_areShipsRead_24 (c_X7_isShipRead_55 l base D cA σ (65 + (rF σ 55 5).toNatClampNeg) q2 h3) rfl ?_
        refine g_if_ne (pc' := 30) (tgt := 32) C dX7_areShipsRead_27 (by decide) rfl (fun hc => ?_) (fun hc => ?_)
        · rw [if_neg hc] at h
          refine g_aload_n (pc' := 33) C dX7_areShipsRead_32 0 rfl rfl ?_
          refine g_dup (pc' := 34) C dX7_areShipsRead_33 rfl rfl ?_
          refine gg_X7_39 (pc' := 37) (o := 55) C rfl dX7_areShipsRead_34 rfl ?_
          refine g_iconst (pc' := 38) (v := 1) C dX7_areShipsRead_37 (by decide) rfl ?_
          refine g_iadd (pc' := 39) C dX7_areShipsRead_38 rfl ?_
          obtain ⟨s4, e5, h⟩ := let_some h
          refine gp_X7_39 (pc' := 42) (o := 55) C rfl dX7_areShipsRead_39 rfl e5 ?_
          refine g_aload_n (pc' := 43) C dX7_areShipsRead_42 0 rfl rfl ?_
          refine gg_X7_39 (pc' := 46) (o := 55) C rfl dX7_areShipsRead_43 rfl ?_
          refine g_iconst (pc' := 47) (v := 5) C dX7_areShipsRead_46 (by decide) rfl ?_
          refine g_icmp_ge (pc' := 50) (tgt := 63) C dX7_areShipsRead_47 (by decide) rfl (fun hc => ?_) (fun hc => ?_)
          · rw [if_pos hc] at h
            exact g_sub C [0] rfl (w_X7_areShipsRead_55_B63 C hr hR (f_X7_areShipsRead_55_L2 n) ih _ h)
          · rw [if_neg hc] at h
            refine g_aload_n (pc' := 51) C dX7_areShipsRead_50 0 rfl rfl ?_
            refine g_bipush (pc' := 53) (v := 44) C dX7_areShipsRead_51 (by decide) rfl ?_
            obtain ⟨q6, h7, h⟩ := bind_some h
            refine g_callVi (pc' := 56) (res := q6) C [.int 44] cY_X7_isTaken rfl (o := 55) (by decide) rfl mv_X7_isTaken mm_X7_46 ⟨Nat.le_trans (by decide) hR.1, Nat.le_trans (by decide) hR.2⟩ rfl (Nat.le_of_ble_eq_true rfl) rfl dX7_areShipsRead_53 (c_X7_isTaken_55 l base D cA s4 44 q6 h7) rfl ?_
            refine g_if_eq (pc' := 59) (tgt := 63) C dX7_areShipsRead_56 (by decide) rfl (fun hc => ?_) (fun hc => ?_)
            · rw [if_pos hc] at h
              exact g_sub C [0] rfl (w_X7_areShipsRead_55_B63 C hr hR (f_X7_areShipsRead_55_L2 n) ih _ h)
            · rw [if_neg hc] at h
              refine g_iconst (pc' := 60) (v := 1) C dX7_areShipsRead_59 (by decide) rfl ?_
              refine g_goto (tgt := 64) C dX7_areShipsRead_60 (by decide) ?_
              exact g_sub C [0] rfl (w_X7_areShipsRead_55_B64 C hr hR (f_X7_areShipsRead_55_L2 n) ih _ _ h)
        · rw [if_pos hc] at h
          refine g_iconst (pc' := 31) (v := 0) C dX7_areShipsRead_30 (by decide) rfl ?_
          exact g_zret C hr rfl dX7_areShipsRead_31 h
noncomputable def f_X7_areShipsRead_55 (σ : cr_S) : Option (cr_S × Int32) :=
  f_X7_areShipsRead_55_L2 cr_fuel σ 1
set_option maxRecDepth 100000 in
set_option maxHeartbeats 4000000 in
theorem w_X7_areShipsRead_55 (C : cr_C p l e R s m args below meth c sfC 97 base D cA cX7_areShipsRead 2 RX7) (hr : meth.sig.returnType = some .boolean) (hR : 6 ≤ R.frames ∧ 137 ≤ R.locals) {res : cr_S × Int32} (σ : cr_S) (h : f_X7_areShipsRead_55 σ = some res) : cr_W p l e R s m args below meth c sfC 97 base D cA 2 (MQ below (cr_Qi sfC 97 base D cA res) args s 0 0 (cr_A 97 base)) σ 0 [(0, .ref (base + 55))] [] := by
  unfold f_X7_areShipsRead_55 at h
  refine g_iconst (pc' := 1) (v := 1) C dX7_areShipsRead_0 (by decide) rfl ?_
  refine g_istore_n (pc' := 2) (lv' := [(1, .int 1), (0, .ref (base + 55))]) C dX7_areShipsRead_1 rfl (by decide) rfl rfl ?_
  exact g_sub C [1, 0] rfl (w_X7_areShipsRead_55_L2 C hr hR _ _ _ h)
theorem c_X7_areShipsRead_55 (l : Launch) (base : Nat) (D : va_G) (cA : Nat → ClassId) (σ : cr_S) (res : cr_S × Int32) (h : f_X7_areShipsRead_55 σ = some res) : cr_M l yX7_areShipsRead cX7_areShipsRead 2 (some .boolean) 6 137 sfC 97 base D cA [.ref (base + 55)] σ (cr_Qi sfC 97 base D cA res) := by
  refine cr_enter [.ref (base + 55)] [(0, .ref (base + 55))] (by decide) (Nat.le_of_ble_eq_true rfl) rfl ?_
  intro p e R s m below meth c C hr hR
  exact w_X7_areShipsRead_55 C hr hR σ h
noncomputable def f_J0_isLatin1_aae02_100 (σ : cr_S) : Option (cr_S × Int32) :=
  some (σ, 1)
set_option maxRecDepth 100000 in
set_option maxHeartbeats 4000000 in
theorem w_J0_isLatin1_aae02_100 (C : cr_C p l e R s m args below meth c sfC 97 base D cA cJ0_isLatin1_aae02 1 RJ0) (hr : meth.sig.returnType = some .boolean) (hR : 0 ≤ R.frames ∧ 0 ≤ R.locals) {res : cr_S × Int32} (σ : cr_S) (h : f_J0_isLatin1_aae02_100 σ = some res) : cr_W p l e R s m args below meth c sfC 97 base D cA 1 (MQ below (cr_Qi sfC 97 base D cA res) args s 0 0 (cr_A 97 base)) σ 0 [(0, .ref (cA 100))] [] := by
  unfold f_J0_isLatin1_aae02_100 at h
  refine g_cmpS (pc' := 3) C mf_J0_38 dJ0_isLatin1_aae02_0 rfl ?_
  refine g_if_eq (pc' := 6) (tgt := 17) C dJ0_isLatin1_aae02_3 (by decide) rfl (fun hc => absurd hc (by decide)) (fun _ => ?_)
  refine g_aload_n (pc' := 7) C dJ0_isLatin1_aae02_6 0 rfl rfl ?_
  refine g_strC (pc' := 10) C 0 (by decide) mf_J0_15 dJ0_isLatin1_aae02_7 rfl ?_
  refine g_if_ne (pc' := 13) (tgt := 17) C dJ0_isLatin1_aae02_10 (by decide) rfl (fun hc => absurd hc (by decide)) (fun _ => ?_)
  refine g_iconst (pc' := 14) (v := 1) C dJ0_isLatin1_aae02_13 (by decide) rfl ?_
  refine g_goto (tgt := 18) C dJ0_isLatin1_aae02_14 (by decide) ?_
  exact g_zret C hr rfl dJ0_isLatin1_aae02_18 h
theorem c_J0_isLatin1_aae02_100 (l : Launch) (base : Nat) (D : va_G) (cA : Nat → ClassId) (σ : cr_S) (res : cr_S × Int32) (h : f_J0_isLatin1_aae02_100 σ = some res) : cr_M l yJ0_isLatin1_aae02 cJ0_isLatin1_aae02 1 (some .boolean) 0 0 sfC 97 base D cA [.ref (cA 100)] σ (cr_Qi sfC 97 base D cA res) := by
  refine cr_enter [.ref (cA 100)] [(0, .ref (cA 100))] (by decide) (Nat.le_of_ble_eq_true rfl) rfl ?_
  intro p e R s m below meth c C hr hR
  exact w_J0_isLatin1_aae02_100 C hr hR σ h
noncomputable def f_J0_coder_7d493_100 (σ : cr_S) : Option (cr_S × Int32) :=
  some (σ, 0)
set_option maxRecDepth 100000 in
set_option maxHeartbeats 4000000 in
theorem w_J0_coder_7d493_100 (C : cr_C p l e R s m args below meth c sfC 97 base D cA cJ0_coder_7d493 1 RJ0) (hr : meth.sig.returnType = some .byte) (hR : 0 ≤ R.frames ∧ 0 ≤ R.locals) {res : cr_S × Int32} (σ : cr_S) (h : f_J0_coder_7d493_100 σ = some res) : cr_W p l e R s m args below meth c sfC 97 base D cA 1 (MQ below (cr_Qi sfC 97 base D cA res) args s 0 0 (cr_A 97 base)) σ 0 [(0, .ref (cA 100))] [] := by
  unfold f_J0_coder_7d493_100 at h
  refine g_cmpS (pc' := 3) C mf_J0_38 dJ0_coder_7d493_0 rfl ?_
  refine g_if_eq (pc' := 6) (tgt := 13) C dJ0_coder_7d493_3 (by decide) rfl (fun hc => absurd hc (by decide)) (fun _ => ?_)
  refine g_aload_n (pc' := 7) C dJ0_coder_7d493_6 0 rfl rfl ?_
  refine g_strC (pc' := 10) C 0 (by decide) mf_J0_15 dJ0_coder_7d493_7 rfl ?_
  refine g_goto (tgt := 14) C dJ0_coder_7d493_10 (by decide) ?_
  exact g_bret C hr rfl dJ0_coder_7d493_14 h
theorem c_J0_coder_7d493_100 (l : Launch) (base : Nat) (D : va_G) (cA : Nat → ClassId) (σ : cr_S) (res : cr_S × Int32) (h : f_J0_coder_7d493_100 σ = some res) : cr_M l yJ0_coder_7d493 cJ0_coder_7d493 1 (some .byte) 0 0 sfC 97 base D cA [.ref (cA 100)] σ (cr_Qi sfC 97 base D cA res) := by
  refine cr_enter [.ref (cA 100)] [(0, .ref (cA 100))] (by decide) (Nat.le_of_ble_eq_true rfl) rfl ?_
  intro p e R s m below meth c C hr hR
  exact w_J0_coder_7d493_100 C hr hR σ h
noncomputable def f_J0_length_8abf5_100 (σ : cr_S) : Option (cr_S × Int32) :=
  Option.bind (f_J0_coder_7d493_100 σ) (fun q1 => some (q1.1, 4 >>> (q1.2 &&& 31)))
set_option maxRecDepth 100000 in
set_option maxHeartbeats 4000000 in
theorem w_J0_length_8abf5_100 (C : cr_C p l e R s m args below meth c sfC 97 base D cA cJ0_length_8abf5 1 RJ0) (hr : meth.sig.returnType = some .int) (hR : 1 ≤ R.frames ∧ 20 ≤ R.locals) {res : cr_S × Int32} (σ : cr_S) (h : f_J0_length_8abf5_100 σ = some res) : cr_W p l e R s m args below meth c sfC 97 base D cA 1 (MQ below (cr_Qi sfC 97 base D cA res) args s 0 0 (cr_A 97 base)) σ 0 [(0, .ref (cA 100))] [] := by
  unfold f_J0_length_8abf5_100 at h
  refine g_aload_n (pc' := 1) C dJ0_length_8abf5_0 0 rfl rfl ?_
  refine g_strV (pc' := 4) C 0 (by decide) mf_J0_9 dJ0_length_8abf5_1 rfl ?_
  refine g_tlen (pc' := 5) C 0 (by decide) dJ0_length_8abf5_4 rfl ?_
  refine g_aload_n (pc' := 6) C dJ0_length_8abf5_5 0 rfl rfl ?_
  obtain ⟨q1, h2, h⟩ := bind_some h
  refine g_callTi (pc' := 9) (res := q1) C [] 0 (by decide) cY_J0_coder_7d493 mv_J0_coder_7d493 mm_J0_335 ⟨Nat.le_trans (by decide) hR.1, Nat.le_trans (by decide) hR.2⟩ rfl (Nat.le_of_ble_eq_true rfl) rfl dJ0_length_8abf5_6 (c_J0_coder_7d493_100 l base D cA σ q1 h2) rfl ?_
  refine g_ishr (pc' := 10) C dJ0_length_8abf5_9 rfl ?_
  exact g_iret C hr dJ0_length_8abf5_10 h
theorem c_J0_length_8abf5_100 (l : Launch) (base : Nat) (D : va_G) (cA : Nat → ClassId) (σ : cr_S) (res : cr_S × Int32) (h : f_J0_length_8abf5_100 σ = some res) : cr_M l yJ0_length_8abf5 cJ0_length_8abf5 1 (some .int) 1 20 sfC 97 base D cA [.ref (cA 100)] σ (cr_Qi sfC 97 base D cA res) := by
  refine cr_enter [.ref (cA 100)] [(0, .ref (cA 100))] (by decide) (Nat.le_of_ble_eq_true rfl) rfl ?_
  intro p e R s m below meth c C hr hR
  exact w_J0_length_8abf5_100 C hr hR σ h
noncomputable def f_J1_indexOfChar_4cfef_200_L7  : Nat → cr_S → Int32 → Int32 → Int32 → Option (cr_S × Int32)
  | 0, _, _, _, _ => none
  | n + 1, σ, x3, x4, x5 =>
    (if x3 ≤ x5 then some (σ, (-1)) else chk (inb x5 4) ((if (stB 0 x5) = x4 then some (σ, x5) else cr_let (x5 + 1) (fun v4 => f_J1_indexOfChar_4cfef_200_L7 n σ x3 x4 v4))))
set_option maxRecDepth 100000 in
set_option maxHeartbeats 4000000 in
theorem w_J1_indexOfChar_4cfef_200_L7 (C : cr_C p l e R s m args below meth c sfC 97 base D cA cJ1_indexOfChar_4cfef 6 RJ1) (hr : meth.sig.returnType = some .int) (hR : 0 ≤ R.frames ∧ 0 ≤ R.locals) {res : cr_S × Int32}  : ∀ (n : Nat) (σ : cr_S) (x3 : Int32) (x4 : Int32) (x5 : Int32), f_J1_indexOfChar_4cfef_200_L7 n σ x3 x4 x5 = some res → cr_W p l e R s m args below meth c sfC 97 base D cA 6 (MQ below (cr_Qi sfC 97 base D cA res) args s 0 0 (cr_A 97 base)) σ 7 [(0, .ref (cA 200)), (3, .int x3), (4, .int x4), (5, .int x5)] [] := by
  intro n
  induction n with
  | zero =>
    intro σ x3 x4 x5 h
    cases h
  | succ n ih =>
    intro σ x3 x4 x5 h
    rw [f_J1_indexOfChar_4cfef_200_L7] at h
    refine g_iload (pc' := 9) C dJ1_indexOfChar_4cfef_7 3 rfl rfl ?_
    refine g_iload_n (pc' := 10) C dJ1_indexOfChar_4cfef_9 1 rfl rfl ?_
    refine g_icmp_ge (pc' := 13) (tgt := 31) C dJ1_indexOfChar_4cfef_10 (by decide) rfl (fun hc => ?_) (fun hc => ?_)
    · rw [if_pos hc] at h
      refine g_iconst (pc' := 32) (v := (-1)) C dJ1_indexOfChar_4cfef_31 (by decide) rfl ?_
      exact g_iret C hr dJ1_indexOfChar_4cfef_32 h
    · rw [if_neg hc] at h
      refine g_aload_n (pc' := 14) C dJ1_indexOfChar_4cfef_13 0 rfl rfl ?_
      refine g_iload (pc' := 16) C dJ1_indexOfChar_4cfef_14 3 rfl rfl ?_
      obtain ⟨h3, h⟩ := chk_some h
      refine g_tb (pc' := 17) C 0 (by decide) (inb_d h3) dJ1_indexOfChar_4cfef_16 rfl ?_
      refine g_iload (pc' := 19) C dJ1_indexOfChar_4cfef_17 2 rfl rfl ?_
      refine g_icmp_ne (pc' := 22) (tgt := 25) C dJ1_indexOfChar_4cfef_19 (by decide) rfl (fun hc => ?_) (fun hc => ?_)
      · rw [if_neg hc] at h
        obtain ⟨v4, e5, h⟩ := let_some h
        refine g_iinc (pc' := 28) (v := v4) (lv' := [(5, .int v4), (0, .ref (cA 200)), (3, .int x3), (4, .int x4)]) C dJ1_indexOfChar_4cfef_25 3 rfl (by rw [e5]; rfl) (by decide) rfl rfl ?_
        refine g_goto (tgt := 7) C dJ1_indexOfChar_4cfef_28 (by decide) ?_
        exact g_sub C [1, 2, 3, 0] rfl (ih _ _ _ _ h)
      · rw [if_pos hc] at h
        refine g_iload (pc' := 24) C dJ1_indexOfChar_4cfef_22 3 rfl rfl ?_
        exact g_iret C hr dJ1_indexOfChar_4cfef_24 h
noncomputable def f_J1_indexOfChar_4cfef_200 (σ : cr_S) (a1 : Int32) (a2 : Int32) (a3 : Int32) : Option (cr_S × Int32) :=
  cr_let ((Int32.toInt8 a1).toInt32) (fun v1 => f_J1_indexOfChar_4cfef_200_L7 cr_fuel σ a3 v1 a2)
set_option maxRecDepth 100000 in
set_option maxHeartbeats 4000000 in
theorem w_J1_indexOfChar_4cfef_200 (C : cr_C p l e R s m args below meth c sfC 97 base D cA cJ1_indexOfChar_4cfef 6 RJ1) (hr : meth.sig.returnType = some .int) (hR : 0 ≤ R.frames ∧ 0 ≤ R.locals) {res : cr_S × Int32} (σ : cr_S) (a1 : Int32) (a2 : Int32) (a3 : Int32) (h : f_J1_indexOfChar_4cfef_200 σ a1 a2 a3 = some res) : cr_W p l e R s m args below meth c sfC 97 base D cA 6 (MQ below (cr_Qi sfC 97 base D cA res) args s 0 0 (cr_A 97 base)) σ 0 [(0, .ref (cA 200)), (1, .int a1), (2, .int a2), (3, .int a3)] [] := by
  unfold f_J1_indexOfChar_4cfef_200 at h
  refine g_iload_n (pc' := 1) C dJ1_indexOfChar_4cfef_0 1 rfl rfl ?_
  refine g_i2b (pc' := 2) C dJ1_indexOfChar_4cfef_1 rfl ?_
  obtain ⟨v1, e2, h⟩ := let_some h
  refine g_nameI e2 ?_
  refine g_istore (pc' := 4) (lv' := [(4, .int v1), (0, .ref (cA 200)), (1, .int a1), (2, .int a2), (3, .int a3)]) C dJ1_indexOfChar_4cfef_2 (by decide) rfl rfl ?_
  refine g_iload_n (pc' := 5) C dJ1_indexOfChar_4cfef_4 3 rfl rfl ?_
  refine g_istore (pc' := 7) (lv' := [(5, .int a2), (4, .int v1), (0, .ref (cA 200)), (1, .int a1), (2, .int a2), (3, .int a3)]) C dJ1_indexOfChar_4cfef_5 (by decide) rfl rfl ?_
  exact g_sub C [2, 5, 1, 0] rfl (w_J1_indexOfChar_4cfef_200_L7 C hr hR _ _ _ _ _ h)
theorem c_J1_indexOfChar_4cfef_200 (l : Launch) (base : Nat) (D : va_G) (cA : Nat → ClassId) (σ : cr_S) (a1 : Int32) (a2 : Int32) (a3 : Int32) (res : cr_S × Int32) (h : f_J1_indexOfChar_4cfef_200 σ a1 a2 a3 = some res) : cr_M l yJ1_indexOfChar_4cfef cJ1_indexOfChar_4cfef 6 (some .int) 0 0 sfC 97 base D cA [.ref (cA 200), .int a1, .int a2, .int a3] σ (cr_Qi sfC 97 base D cA res) := by
  refine cr_enter [.ref (cA 200), .int a1, .int a2, .int a3] [(0, .ref (cA 200)), (1, .int a1), (2, .int a2), (3, .int a3)] (by decide) (Nat.le_of_ble_eq_true rfl) rfl ?_
  intro p e R s m below meth c C hr hR
  exact w_J1_indexOfChar_4cfef_200 C hr hR σ a1 a2 a3 h
noncomputable def f_J1_indexOf_4cfef_200 (σ : cr_S) (a1 : Int32) (a2 : Int32) (a3 : Int32) : Option (cr_S × Int32) :=
  Option.bind (f_J1_canEncode_9a6ad σ a1) (fun q1 => (if q1.2 = 0 then some (q1.1, (-1)) else cr_let (if a2 < 0 then 0 else a2) (fun v3 => cr_let (if 4 < a3 then 4 else a3) (fun v5 => (if v3 < v5 then Option.bind (f_J1_indexOfChar_4cfef_200 q1.1 a1 v3 v5) (fun q7 => some (q7.1, q7.2)) else some (q1.1, (-1)))))))
set_option maxRecDepth 100000 in
set_option maxHeartbeats 4000000 in
theorem w_J1_indexOf_4cfef_200 (C : cr_C p l e R s m args below meth c sfC 97 base D cA cJ1_indexOf_4cfef 4 RJ1) (hr : meth.sig.returnType = some .int) (hR : 1 ≤ R.frames ∧ 25 ≤ R.locals) {res : cr_S × Int32} (σ : cr_S) (a1 : Int32) (a2 : Int32) (a3 : Int32) (h : f_J1_indexOf_4cfef_200 σ a1 a2 a3 = some res) : cr_W p l e R s m args below meth c sfC 97 base D cA 4 (MQ below (cr_Qi sfC 97 base D cA res) args s 0 0 (cr_A 97 base)) σ 0 [(0, .ref (cA 200)), (1, .int a1), (2, .int a2), (3, .int a3)] [] := by
  unfold f_J1_indexOf_4cfef_200 at h
  refine g_iload_n (pc' := 1) C dJ1_indexOf_4cfef_0 1 rfl rfl ?_
  obtain ⟨q1, h2, h⟩ := bind_some h
  refine g_callSi (pc' := 4) (res := q1) C [.int a1] cY_J1_canEncode_9a6ad mv_J1_canEncode_9a6ad mm_J1_88 ⟨Nat.le_trans (by decide) hR.1, Nat.le_trans (by decide) hR.2⟩ rfl (Nat.le_of_ble_eq_true rfl) rfl dJ1_indexOf_4cfef_1 (c_J1_canEncode_9a6ad l base D cA σ a1 q1 h2) rfl ?_
  refine g_if_ne (pc' := 7) (tgt := 9) C dJ1_indexOf_4cfef_4 (by decide) rfl (fun hc => ?_) (fun hc => ?_)
  · rw [if_neg hc] at h
    refine g_iload_n (pc' := 10) C dJ1_indexOf_4cfef_9 2 rfl rfl ?_
    refine g_iconst (pc' := 11) (v := 0) C dJ1_indexOf_4cfef_10 (by decide) rfl ?_
    refine g_mmax (pc' := 14) C mm_J1_92 ⟨Nat.le_trans (by decide) hR.1, Nat.le_trans (by decide) hR.2⟩ (Nat.le_of_ble_eq_true rfl) dJ1_indexOf_4cfef_11 rfl ?_
    obtain ⟨v3, e4, h⟩ := let_some h
    refine g_nameI e4 ?_
    refine g_istore_n (pc' := 15) (lv' := [(2, .int v3), (0, .ref (cA 200)), (1, .int a1), (3, .int a3)]) C dJ1_indexOf_4cfef_14 rfl (by decide) rfl rfl ?_
    refine g_iload_n (pc' := 16) C dJ1_indexOf_4cfef_15 3 rfl rfl ?_
    refine g_aload_n (pc' := 17) C dJ1_indexOf_4cfef_16 1 rfl rfl ?_
    refine g_tlen (pc' := 18) C 0 (by decide) dJ1_indexOf_4cfef_17 rfl ?_
    refine g_mmin (pc' := 21) C mm_J1_38 ⟨Nat.le_trans (by decide) hR.1, Nat.le_trans (by decide) hR.2⟩ (Nat.le_of_ble_eq_true rfl) dJ1_indexOf_4cfef_18 rfl ?_
    obtain ⟨v5, e6, h⟩ := let_some h
    refine g_nameI e6 ?_
    refine g_istore_n (pc' := 22) (lv' := [(3, .int v5), (2, .int v3), (0, .ref (cA 200)), (1, .int a1)]) C dJ1_indexOf_4cfef_21 rfl (by decide) rfl rfl ?_
    refine g_iload_n (pc' := 23) C dJ1_indexOf_4cfef_22 1 rfl rfl ?_
    refine g_iload_n (pc' := 24) C dJ1_indexOf_4cfef_23 0 rfl rfl ?_
    refine g_icmp_lt (pc' := 27) (tgt := 29) C dJ1_indexOf_4cfef_24 (by decide) rfl (fun hc => ?_) (fun hc => ?_)
    · rw [if_pos hc] at h
      refine g_aload_n (pc' := 30) C dJ1_indexOf_4cfef_29 2 rfl rfl ?_
      refine g_iload_n (pc' := 31) C dJ1_indexOf_4cfef_30 3 rfl rfl ?_
      refine g_iload_n (pc' := 32) C dJ1_indexOf_4cfef_31 1 rfl rfl ?_
      refine g_iload_n (pc' := 33) C dJ1_indexOf_4cfef_32 0 rfl rfl ?_
      obtain ⟨q7, h8, h⟩ := bind_some h
      refine g_callSi (pc' := 36) (res := q7) C [.ref (cA 200), .int a1, .int v3, .int v5] cY_J1_indexOfChar_4cfef mv_J1_indexOfChar_4cfef mm_J1_95 ⟨Nat.le_trans (by decide) hR.1, Nat.le_trans (by decide) hR.2⟩ rfl (Nat.le_of_ble_eq_true rfl) rfl dJ1_indexOf_4cfef_33 (c_J1_indexOfChar_4cfef_200 l base D cA q1.1 a1 v3 v5 q7 h8) rfl ?_
      exact g_iret C hr dJ1_indexOf_4cfef_36 h
    · rw [if_neg hc] at h
      refine g_iconst (pc' := 28) (v := (-1)) C dJ1_indexOf_4cfef_27 (by decide) rfl ?_
      exact g_iret C hr dJ1_indexOf_4cfef_28 h
  · rw [if_pos hc] at h
    refine g_iconst (pc' := 8) (v := (-1)) C dJ1_indexOf_4cfef_7 (by decide) rfl ?_
    exact g_iret C hr dJ1_indexOf_4cfef_8 h
theorem c_J1_indexOf_4cfef_200 (l : Launch) (base : Nat) (D : va_G) (cA : Nat → ClassId) (σ : cr_S) (a1 : Int32) (a2 : Int32) (a3 : Int32) (res : cr_S × Int32) (h : f_J1_indexOf_4cfef_200 σ a1 a2 a3 = some res) : cr_M l yJ1_indexOf_4cfef cJ1_indexOf_4cfef 4 (some .int) 1 25 sfC 97 base D cA [.ref (cA 200), .int a1, .int a2, .int a3] σ (cr_Qi sfC 97 base D cA res) := by
  refine cr_enter [.ref (cA 200), .int a1, .int a2, .int a3] [(0, .ref (cA 200)), (1, .int a1), (2, .int a2), (3, .int a3)] (by decide) (Nat.le_of_ble_eq_true rfl) rfl ?_
  intro p e R s m below meth c C hr hR
  exact w_J1_indexOf_4cfef_200 C hr hR σ a1 a2 a3 h
noncomputable def f_J0_indexOf_7cf53_100 (σ : cr_S) (a1 : Int32) (a2 : Int32) : Option (cr_S × Int32) :=
  Option.bind (f_J0_isLatin1_aae02_100 σ) (fun q1 => (if q1.2 = 0 then Option.bind (f_J0_length_8abf5_100 q1.1) (fun q3 => none) else Option.bind (f_J0_length_8abf5_100 q1.1) (fun q5 => Option.bind (f_J1_indexOf_4cfef_200 q5.1 a1 a2 q5.2) (fun q7 => some (q7.1, q7.2)))))
set_option maxRecDepth 100000 in
set_option maxHeartbeats 4000000 in
theorem w_J0_indexOf_7cf53_100 (C : cr_C p l e R s m args below meth c sfC 97 base D cA cJ0_indexOf_7cf53 3 RJ0) (hr : meth.sig.returnType = some .int) (hR : 2 ≤ R.frames ∧ 48 ≤ R.locals) {res : cr_S × Int32} (σ : cr_S) (a1 : Int32) (a2 : Int32) (h : f_J0_indexOf_7cf53_100 σ a1 a2 = some res) : cr_W p l e R s m args below meth c sfC 97 base D cA 3 (MQ below (cr_Qi sfC 97 base D cA res) args s 0 0 (cr_A 97 base)) σ 0 [(0, .ref (cA 100)), (1, .int a1), (2, .int a2)] [] := by
  unfold f_J0_indexOf_7cf53_100 at h
  refine g_aload_n (pc' := 1) C dJ0_indexOf_7cf53_0 0 rfl rfl ?_
  obtain ⟨q1, h2, h⟩ := bind_some h
  refine g_callTi (pc' := 4) (res := q1) C [] 0 (by decide) cY_J0_isLatin1_aae02 mv_J0_isLatin1_aae02 mm_J0_492 ⟨Nat.le_trans (by decide) hR.1, Nat.le_trans (by decide) hR.2⟩ rfl (Nat.le_of_ble_eq_true rfl) rfl dJ0_indexOf_7cf53_1 (c_J0_isLatin1_aae02_100 l base D cA σ q1 h2) rfl ?_
  refine g_if_eq (pc' := 7) (tgt := 23) C dJ0_indexOf_7cf53_4 (by decide) rfl (fun hc => ?_) (fun hc => ?_)
  · rw [if_pos hc] at h
    refine g_aload_n (pc' := 24) C dJ0_indexOf_7cf53_23 0 rfl rfl ?_
    refine g_strV (pc' := 27) C 0 (by decide) mf_J0_9 dJ0_indexOf_7cf53_24 rfl ?_
    refine g_iload_n (pc' := 28) C dJ0_indexOf_7cf53_27 1 rfl rfl ?_
    refine g_iload_n (pc' := 29) C dJ0_indexOf_7cf53_28 2 rfl rfl ?_
    refine g_aload_n (pc' := 30) C dJ0_indexOf_7cf53_29 0 rfl rfl ?_
    obtain ⟨q3, h4, h⟩ := bind_some h
    refine g_callTi (pc' := 33) (res := q3) C [] 0 (by decide) cY_J0_length_8abf5 mv_J0_length_8abf5 mm_J0_505 ⟨Nat.le_trans (by decide) hR.1, Nat.le_trans (by decide) hR.2⟩ rfl (Nat.le_of_ble_eq_true rfl) rfl dJ0_indexOf_7cf53_30 (c_J0_length_8abf5_100 l base D cA q1.1 q3 h4) rfl ?_
    cases h
  · rw [if_neg hc] at h
    refine g_aload_n (pc' := 8) C dJ0_indexOf_7cf53_7 0 rfl rfl ?_
    refine g_strV (pc' := 11) C 0 (by decide) mf_J0_9 dJ0_indexOf_7cf53_8 rfl ?_
    refine g_iload_n (pc' := 12) C dJ0_indexOf_7cf53_11 1 rfl rfl ?_
    refine g_iload_n (pc' := 13) C dJ0_indexOf_7cf53_12 2 rfl rfl ?_
    refine g_aload_n (pc' := 14) C dJ0_indexOf_7cf53_13 0 rfl rfl ?_
    obtain ⟨q5, h6, h⟩ := bind_some h
    refine g_callTi (pc' := 17) (res := q5) C [] 0 (by decide) cY_J0_length_8abf5 mv_J0_length_8abf5 mm_J0_505 ⟨Nat.le_trans (by decide) hR.1, Nat.le_trans (by decide) hR.2⟩ rfl (Nat.le_of_ble_eq_true rfl) rfl dJ0_indexOf_7cf53_14 (c_J0_length_8abf5_100 l base D cA q1.1 q5 h6) rfl ?_
    obtain ⟨q7, h8, h⟩ := bind_some h
    refine g_callSi (pc' := 20) (res := q7) C [.ref (cA 200), .int a1, .int a2, .int q5.2] cY_J1_indexOf_4cfef mv_J1_indexOf_4cfef mm_J0_637 ⟨Nat.le_trans (by decide) hR.1, Nat.le_trans (by decide) hR.2⟩ rfl (Nat.le_of_ble_eq_true rfl) rfl dJ0_indexOf_7cf53_17 (c_J1_indexOf_4cfef_200 l base D cA q5.1 a1 a2 q5.2 q7 h8) rfl ?_
    refine g_goto (tgt := 36) C dJ0_indexOf_7cf53_20 (by decide) ?_
    exact g_iret C hr dJ0_indexOf_7cf53_36 h
theorem c_J0_indexOf_7cf53_100 (l : Launch) (base : Nat) (D : va_G) (cA : Nat → ClassId) (σ : cr_S) (a1 : Int32) (a2 : Int32) (res : cr_S × Int32) (h : f_J0_indexOf_7cf53_100 σ a1 a2 = some res) : cr_M l yJ0_indexOf_7cf53 cJ0_indexOf_7cf53 3 (some .int) 2 48 sfC 97 base D cA [.ref (cA 100), .int a1, .int a2] σ (cr_Qi sfC 97 base D cA res) := by
  refine cr_enter [.ref (cA 100), .int a1, .int a2] [(0, .ref (cA 100)), (1, .int a1), (2, .int a2)] (by decide) (Nat.le_of_ble_eq_true rfl) rfl ?_
  intro p e R s m below meth c C hr hR
  exact w_J0_indexOf_7cf53_100 C hr hR σ a1 a2 h
noncomputable def f_J0_indexOf_0f7a4_100 (σ : cr_S) (a1 : Int32) : Option (cr_S × Int32) :=
  Option.bind (f_J0_indexOf_7cf53_100 σ a1 0) (fun q1 => some (q1.1, q1.2))
set_option maxRecDepth 100000 in
set_option maxHeartbeats 4000000 in
theorem w_J0_indexOf_0f7a4_100 (C : cr_C p l e R s m args below meth c sfC 97 base D cA cJ0_indexOf_0f7a4 2 RJ0) (hr : meth.sig.returnType = some .int) (hR : 3 ≤ R.frames ∧ 70 ≤ R.locals) {res : cr_S × Int32} (σ : cr_S) (a1 : Int32) (h : f_J0_indexOf_0f7a4_100 σ a1 = some res) : cr_W p l e R s m args below meth c sfC 97 base D cA 2 (MQ below (cr_Qi sfC 97 base D cA res) args s 0 0 (cr_A 97 base)) σ 0 [(0, .ref (cA 100)), (1, .int a1)] [] := by
  unfold f_J0_indexOf_0f7a4_100 at h
  refine g_aload_n (pc' := 1) C dJ0_indexOf_0f7a4_0 0 rfl rfl ?_
  refine g_iload_n (pc' := 2) C dJ0_indexOf_0f7a4_1 1 rfl rfl ?_
  refine g_iconst (pc' := 3) (v := 0) C dJ0_indexOf_0f7a4_2 (by decide) rfl ?_
  obtain ⟨q1, h2, h⟩ := bind_some h
  refine g_callTi (pc' := 6) (res := q1) C [.int a1, .int 0] 0 (by decide) cY_J0_indexOf_7cf53 mv_J0_indexOf_7cf53 mm_J0_633 ⟨Nat.le_trans (by decide) hR.1, Nat.le_trans (by decide) hR.2⟩ rfl (Nat.le_of_ble_eq_true rfl) rfl dJ0_indexOf_0f7a4_3 (c_J0_indexOf_7cf53_100 l base D cA σ a1 0 q1 h2) rfl ?_
  exact g_iret C hr dJ0_indexOf_0f7a4_6 h
theorem c_J0_indexOf_0f7a4_100 (l : Launch) (base : Nat) (D : va_G) (cA : Nat → ClassId) (σ : cr_S) (a1 : Int32) (res : cr_S × Int32) (h : f_J0_indexOf_0f7a4_100 σ a1 = some res) : cr_M l yJ0_indexOf_0f7a4 cJ0_indexOf_0f7a4 2 (some .int) 3 70 sfC 97 base D cA [.ref (cA 100), .int a1] σ (cr_Qi sfC 97 base D cA res) := by
  refine cr_enter [.ref (cA 100), .int a1] [(0, .ref (cA 100)), (1, .int a1)] (by decide) (Nat.le_of_ble_eq_true rfl) rfl ?_
  intro p e R s m below meth c C hr hR
  exact w_J0_indexOf_0f7a4_100 C hr hR σ a1 h
noncomputable def f_X7_kindRead_55_100_B23  (σ : cr_S) (x2 : Int32) (t0 : Int32) (t1 : Int32) : Option (cr_S × Int32) :=
  cr_let (sF σ 55 6 (t1 + t0)) (fun s7 => some (s7, x2))
set_option maxRecDepth 100000 in
set_option maxHeartbeats 4000000 in
theorem w_X7_kindRead_55_100_B23 (C : cr_C p l e R s m args below meth c sfC 97 base D cA cX7_kindRead 3 RX7) (hr : meth.sig.returnType = some .int) (hR : 4 ≤ R.frames ∧ 91 ≤ R.locals) {res : cr_S × Int32}  (σ : cr_S) (x2 : Int32) (t0 : Int32) (t1 : Int32) (h : f_X7_kindRead_55_100_B23 σ x2 t0 t1 = some res) : cr_W p l e R s m args below meth c sfC 97 base D cA 3 (MQ below (cr_Qi sfC 97 base D cA res) args s 0 0 (cr_A 97 base)) σ 23 [(2, .int x2)] [.int t0, .int t1, .ref (base + 55)] := by
  unfold f_X7_kindRead_55_100_B23 at h
  refine g_iadd (pc' := 24) C dX7_kindRead_23 rfl ?_
  obtain ⟨s7, e8, h⟩ := let_some h
  refine gp_X7_33 (pc' := 27) (o := 55) C rfl dX7_kindRead_24 rfl e8 ?_
  refine g_iload_n (pc' := 28) C dX7_kindRead_27 0 rfl rfl ?_
  exact g_iret C hr dX7_kindRead_28 h
noncomputable def f_X7_kindRead_55_100 (σ : cr_S) : Option (cr_S × Int32) :=
  Option.bind (f_X7_letterHere_55 σ) (fun q1 => Option.bind (f_J0_indexOf_0f7a4_100 q1.1 q1.2) (fun q3 => cr_let q3.2 (fun v5 => f_X7_kindRead_55_100_B23 q3.1 v5 (if 0 ≤ v5 then 1 else 0) (rF q3.1 55 6))))
set_option maxRecDepth 100000 in
set_option maxHeartbeats 4000000 in
theorem w_X7_kindRead_55_100 (C : cr_C p l e R s m args below meth c sfC 97 base D cA cX7_kindRead 3 RX7) (hr : meth.sig.returnType = some .int) (hR : 4 ≤ R.frames ∧ 91 ≤ R.locals) {res : cr_S × Int32} (σ : cr_S) (h : f_X7_kindRead_55_100 σ = some res) : cr_W p l e R s m args below meth c sfC 97 base D cA 3 (MQ below (cr_Qi sfC 97 base D cA res) args s 0 0 (cr_A 97 base)) σ 0 [(0, .ref (base + 55)), (1, .ref (cA 100))] [] := by
  unfold f_X7_kindRead_55_100 at h
  refine g_aload_n (pc' := 1) C dX7_kindRead_0 1 rfl rfl ?_
  refine g_aload_n (pc' := 2) C dX7_kindRead_1 0 rfl rfl ?_
  obtain ⟨q1, h2, h⟩ := bind_some h
  refine g_callVi (pc' := 5) (res := q1) C [] cY_X7_letterHere rfl (o := 55) (by decide) rfl mv_X7_letterHere mm_X7_54 ⟨Nat.le_trans (by decide) hR.1, Nat.le_trans (by decide) hR.2⟩ rfl (Nat.le_of_ble_eq_true rfl) rfl dX7_kindRead_2 (c_X7_letterHere_55 l base D cA σ q1 h2) rfl ?_
  obtain ⟨q3, h4, h⟩ := bind_some h
  refine g_callTi (pc' := 8) (res := q3) C [.int q1.2] 0 (by decide) cY_J0_indexOf_0f7a4 mv_J0_indexOf_0f7a4 mm_X7_88 ⟨Nat.le_trans (by decide) hR.1, Nat.le_trans (by decide) hR.2⟩ rfl (Nat.le_of_ble_eq_true rfl) rfl dX7_kindRead_5 (c_J0_indexOf_0f7a4_100 l base D cA q1.1 q1.2 q3 h4) rfl ?_
  obtain ⟨v5, e6, h⟩ := let_some h
  refine g_nameI e6 ?_
  refine g_istore_n (pc' := 9) (lv' := [(2, .int v5), (0, .ref (base + 55)), (1, .ref (cA 100))]) C dX7_kindRead_8 rfl (by decide) rfl rfl ?_
  refine g_aload_n (pc' := 10) C dX7_kindRead_9 1 rfl rfl ?_
  refine g_dup (pc' := 11) C dX7_kindRead_10 rfl rfl ?_
  refine gg_X7_33 (pc' := 14) (o := 55) C rfl dX7_kindRead_11 rfl ?_
  refine g_iload_n (pc' := 15) C dX7_kindRead_14 0 rfl rfl ?_
  refine g_iteI (σ := q3.1) (pj := 23) (lv := [(2, .int v5), (0, .ref (base + 55)), (1, .ref (cA 100))]) (st := [.int (rF q3.1 55 6), .ref (base + 55)]) (cd := 0 ≤ v5) (a := 1) (b := 0) C ?_ (fun kt kf => ?_)
  · exact g_sub C [0] rfl (w_X7_kindRead_55_100_B23 C hr hR _ _ _ _ h)
  · refine g_if_ge (pc' := 18) (tgt := 22) C dX7_kindRead_15 (by decide) rfl (fun hc => ?_) (fun hc => ?_)
    · refine g_iconst (pc' := 23) (v := 1) C dX7_kindRead_22 (by decide) rfl ?_
      exact kt hc
    · refine g_iconst (pc' := 19) (v := 0) C dX7_kindRead_18 (by decide) rfl ?_
      refine g_goto (tgt := 23) C dX7_kindRead_19 (by decide) ?_
      exact kf hc
theorem c_X7_kindRead_55_100 (l : Launch) (base : Nat) (D : va_G) (cA : Nat → ClassId) (σ : cr_S) (res : cr_S × Int32) (h : f_X7_kindRead_55_100 σ = some res) : cr_M l yX7_kindRead cX7_kindRead 3 (some .int) 4 91 sfC 97 base D cA [.ref (base + 55), .ref (cA 100)] σ (cr_Qi sfC 97 base D cA res) := by
  refine cr_enter [.ref (base + 55), .ref (cA 100)] [(0, .ref (base + 55)), (1, .ref (cA 100))] (by decide) (Nat.le_of_ble_eq_true rfl) rfl ?_
  intro p e R s m below meth c C hr hR
  exact w_X7_kindRead_55_100 C hr hR σ h
noncomputable def f_X7_numberRead_55_B100  (σ : cr_S) (x3 : Int32) : Option (cr_S × Int32) :=
  cr_let (sF σ 55 6 x3) (fun s5 => some (s5, (-1)))
set_option maxRecDepth 100000 in
set_option maxHeartbeats 4000000 in
theorem w_X7_numberRead_55_B100 (C : cr_C p l e R s m args below meth c sfC 97 base D cA cX7_numberRead 5 RX7) (hr : meth.sig.returnType = some .int) (hR : 1 ≤ R.frames ∧ 22 ≤ R.locals) {res : cr_S × Int32}  (σ : cr_S) (x3 : Int32) (h : f_X7_numberRead_55_B100 σ x3 = some res) : cr_W p l e R s m args below meth c sfC 97 base D cA 5 (MQ below (cr_Qi sfC 97 base D cA res) args s 0 0 (cr_A 97 base)) σ 100 [(0, .ref (base + 55)), (3, .int x3)] [] := by
  unfold f_X7_numberRead_55_B100 at h
  refine g_aload_n (pc' := 101) C dX7_numberRead_100 0 rfl rfl ?_
  refine g_iload_n (pc' := 102) C dX7_numberRead_101 1 rfl rfl ?_
  obtain ⟨s5, e6, h⟩ := let_some h
  refine gp_X7_33 (pc' := 105) (o := 55) C rfl dX7_numberRead_102 rfl e6 ?_
  refine g_iconst (pc' := 106) (v := (-1)) C dX7_numberRead_105 (by decide) rfl ?_
  exact g_iret C hr dX7_numberRead_106 h
noncomputable def f_X7_numberRead_55_B82  (σ : cr_S) (x1 : Int32) (x2 : Int32) (x3 : Int32) (x4 : Int32) : Option (cr_S × Int32) :=
  (if (rF σ 55 6) = x3 then f_X7_numberRead_55_B100 σ x3 else Option.bind (f_X10_isWithin σ x4 x1 x2) (fun q7 => (if q7.2 = 0 then f_X7_numberRead_55_B100 q7.1 x3 else some (q7.1, x4))))
set_option maxRecDepth 100000 in
set_option maxHeartbeats 4000000 in
theorem w_X7_numberRead_55_B82 (C : cr_C p l e R s m args below meth c sfC 97 base D cA cX7_numberRead 5 RX7) (hr : meth.sig.returnType = some .int) (hR : 1 ≤ R.frames ∧ 22 ≤ R.locals) {res : cr_S × Int32}  (σ : cr_S) (x1 : Int32) (x2 : Int32) (x3 : Int32) (x4 : Int32) (h : f_X7_numberRead_55_B82 σ x1 x2 x3 x4 = some res) : cr_W p l e R s m args below meth c sfC 97 base D cA 5 (MQ below (cr_Qi sfC 97 base D cA res) args s 0 0 (cr_A 97 base)) σ 82 [(0, .ref (base + 55)), (1, .int x1), (2, .int x2), (3, .int x3), (4, .int x4)] [] := by
  unfold f_X7_numberRead_55_B82 at h
  refine g_aload_n (pc' := 83) C dX7_numberRead_82 0 rfl rfl ?_
  refine gg_X7_33 (pc' := 86) (o := 55) C rfl dX7_numberRead_83 rfl ?_
  refine g_iload_n (pc' := 87) C dX7_numberRead_86 3 rfl rfl ?_
  refine g_icmp_eq (pc' := 90) (tgt := 100) C dX7_numberRead_87 (by decide) rfl (fun hc => ?_) (fun hc => ?_)
  · rw [if_pos hc] at h
    exact g_sub C [0, 3] rfl (w_X7_numberRead_55_B100 C hr hR _ _ h)
  · rw [if_neg hc] at h
    refine g_iload (pc' := 92) C dX7_numberRead_90 4 rfl rfl ?_
    refine g_iload_n (pc' := 93) C dX7_numberRead_92 1 rfl rfl ?_
    refine g_iload_n (pc' := 94) C dX7_numberRead_93 2 rfl rfl ?_
    obtain ⟨q7, h8, h⟩ := bind_some h
    refine g_callNi (pc' := 97) (res := q7) C [.int x4, .int x1, .int x2] cY_X10_isWithin mv_X10_isWithin mn_X7_93 ⟨Nat.le_trans (by decide) hR.1, Nat.le_trans (by decide) hR.2⟩ rfl (Nat.le_of_ble_eq_true rfl) rfl dX7_numberRead_94 (c_X10_isWithin l base D cA σ x4 x1 x2 q7 h8) rfl ?_
    refine g_if_ne (pc' := 100) (tgt := 107) C dX7_numberRead_97 (by decide) rfl (fun hc => ?_) (fun hc => ?_)
    · rw [if_neg hc] at h
      refine g_iload (pc' := 109) C dX7_numberRead_107 4 rfl rfl ?_
      exact g_iret C hr dX7_numberRead_109 h
    · rw [if_pos hc] at h
      exact g_sub C [0, 3] rfl (w_X7_numberRead_55_B100 C hr hR _ _ h)
noncomputable def f_X7_numberRead_55_L13  : Nat → cr_S → Int32 → Int32 → Int32 → Int32 → Option (cr_S × Int32)
  | 0, _, _, _, _, _ => none
  | n + 1, σ, x1, x2, x3, x4 =>
    (if (rF σ 55 3) ≤ (rF σ 55 6) then f_X7_numberRead_55_B82 σ x1 x2 x3 x4 else chk (inb (rF σ 55 6) 100) (Option.bind (f_X10_isWithin σ (rA σ 56 (rF σ 55 6)) 48 57) (fun q10 => (if q10.2 = 0 then f_X7_numberRead_55_B82 q10.1 x1 x2 x3 x4 else chk (inb (rF q10.1 55 6) 100) (cr_let (if 9999 < (((x4 * 10) + (rA q10.1 56 (rF q10.1 55 6))) - 48) then 9999 else ((x4 * 10) + (rA q10.1 56 (rF q10.1 55 6))) - 48) (fun v13 => cr_let (sF q10.1 55 6 ((rF q10.1 55 6) + 1)) (fun s15 => f_X7_numberRead_55_L13 n s15 x1 x2 x3 v13)))))))
set_option maxRecDepth 100000 in
set_option maxHeartbeats 4000000 in
theorem w_X7_numberRead_55_L13 (C : cr_C p l e R s m args below meth c sfC 97 base D cA cX7_numberRead 5 RX7) (hr : meth.sig.returnType = some .int) (hR : 1 ≤ R.frames ∧ 22 ≤ R.locals) {res : cr_S × Int32}  : ∀ (n : Nat) (σ : cr_S) (x1 : Int32) (x2 : Int32) (x3 : Int32) (x4 : Int32), f_X7_numberRead_55_L13 n σ x1 x2 x3 x4 = some res → cr_W p l e R s m args below meth c sfC 97 base D cA 5 (MQ below (cr_Qi sfC 97 base D cA res) args s 0 0 (cr_A 97 base)) σ 13 [(0, .ref (base + 55)), (1, .int x1), (2, .int x2), (3, .int x3), (4, .int x4)] [] := by
  intro n
  induction n with
  | zero =>
    intro σ x1 x2 x3 x4 h
    cases h
  | succ n ih =>
    intro σ x1 x2 x3 x4 h
    rw [f_X7_numberRead_55_L13] at h
    refine g_aload_n (pc' := 14) C dX7_numberRead_13 0 rfl rfl ?_
    refine gg_X7_33 (pc' := 17) (o := 55) C rfl dX7_numberRead_14 rfl ?_
    refine g_aload_n (pc' := 18) C dX7_numberRead_17 0 rfl rfl ?_
    refine gg_X7_29 (pc' := 21) (o := 55) C rfl dX7_numberRead_18 rfl ?_
    refine g_icmp_ge (pc' := 24) (tgt := 82) C dX7_numberRead_21 (by decide) rfl (fun hc => ?_) (fun hc => ?_)
    · rw [if_pos hc] at h
      exact g_sub C [0, 1, 2, 3, 4] rfl (w_X7_numberRead_55_B82 C hr hR _ _ _ _ _ h)
    · rw [if_neg hc] at h
      refine g_aload_n (pc' := 25) C dX7_numberRead_24 0 rfl rfl ?_
      refine gg_X7_9 (pc' := 28) (o := 55) (r := 56) C rfl rfl dX7_numberRead_25 rfl ?_
      refine g_aload_n (pc' := 29) C dX7_numberRead_28 0 rfl rfl ?_
      refine gg_X7_33 (pc' := 32) (o := 55) C rfl dX7_numberRead_29 rfl ?_
      obtain ⟨h9, h⟩ := chk_some h
      refine g_cald (pc' := 33) C (o := 56) (by decide) rfl (inb_d h9) dX7_numberRead_32 rfl ?_
      refine g_bipush (pc' := 35) (v := 48) C dX7_numberRead_33 (by decide) rfl ?_
      refine g_bipush (pc' := 37) (v := 57) C dX7_numberRead_35 (by decide) rfl ?_
      obtain ⟨q10, h11, h⟩ := bind_some h
      refine g_callNi (pc' := 40) (res := q10) C [.int (rA σ 56 (rF σ 55 6)), .int 48, .int 57] cY_X10_isWithin mv_X10_isWithin mn_X7_93 ⟨Nat.le_trans (by decide) hR.1, Nat.le_trans (by decide) hR.2⟩ rfl (Nat.le_of_ble_eq_true rfl) rfl dX7_numberRead_37 (c_X10_isWithin l base D cA σ (rA σ 56 (rF σ 55 6)) 48 57 q10 h11) rfl ?_
      refine g_if_eq (pc' := 43) (tgt := 82) C dX7_numberRead_40 (by decide) rfl (fun hc => ?_) (fun hc => ?_)
      · rw [if_pos hc] at h
        exact g_sub C [0, 1, 2, 3, 4] rfl (w_X7_numberRead_55_B82 C hr hR _ _ _ _ _ h)
      · rw [if_neg hc] at h
        refine g_iload (pc' := 45) C dX7_numberRead_43 4 rfl rfl ?_
        refine g_bipush (pc' := 47) (v := 10) C dX7_numberRead_45 (by decide) rfl ?_
        refine g_imul (pc' := 48) C dX7_numberRead_47 rfl ?_
        refine g_aload_n (pc' := 49) C dX7_numberRead_48 0 rfl rfl ?_
        refine gg_X7_9 (pc' := 52) (o := 55) (r := 56) C rfl rfl dX7_numberRead_49 rfl ?_
        refine g_aload_n (pc' := 53) C dX7_numberRead_52 0 rfl rfl ?_
        refine gg_X7_33 (pc' := 56) (o := 55) C rfl dX7_numberRead_53 rfl ?_
        obtain ⟨h12, h⟩ := chk_some h
        refine g_cald (pc' := 57) C (o := 56) (by decide) rfl (inb_d h12) dX7_numberRead_56 rfl ?_
        refine g_iadd (pc' := 58) C dX7_numberRead_57 rfl ?_
        refine g_bipush (pc' := 60) (v := 48) C dX7_numberRead_58 (by decide) rfl ?_
        refine g_isub (pc' := 61) C dX7_numberRead_60 rfl ?_
        refine g_sipush (pc' := 64) (v := 9999) C dX7_numberRead_61 (by decide) rfl ?_
        refine g_mmin (pc' := 67) C mm_X7_97 ⟨Nat.le_trans (by decide) hR.1, Nat.le_trans (by decide) hR.2⟩ (Nat.le_of_ble_eq_true rfl) dX7_numberRead_64 rfl ?_
        obtain ⟨v13, e14, h⟩ := let_some h
        refine g_nameI e14 ?_
        refine g_istore (pc' := 69) (lv' := [(4, .int v13), (0, .ref (base + 55)), (1, .int x1), (2, .int x2), (3, .int x3)]) C dX7_numberRead_67 (by decide) rfl rfl ?_
        refine g_aload_n (pc' := 70) C dX7_numberRead_69 1 rfl rfl ?_
        refine g_dup (pc' := 71) C dX7_numberRead_70 rfl rfl ?_
        refine gg_X7_33 (pc' := 74) (o := 55) C rfl dX7_numberRead_71 rfl ?_
        refine g_iconst (pc' := 75) (v := 1) C dX7_numberRead_74 (by decide) rfl ?_
        refine g_iadd (pc' := 76) C dX7_numberRead_75 rfl ?_
        obtain ⟨s15, e16, h⟩ := let_some h
        refine gp_X7_33 (pc' := 79) (o := 55) C rfl dX7_numberRead_76 rfl e16 ?_
        refine g_goto (tgt := 13) C dX7_numberRead_79 (by decide) ?_
        exact g_sub C [1, 2, 3, 4, 0] rfl (ih _ _ _ _ _ h)
noncomputable def f_X7_numberRead_55 (σ : cr_S) (a1 : Int32) (a2 : Int32) : Option (cr_S × Int32) :=
  Option.bind (f_X7_letterHere_55 σ) (fun q1 => cr_let (rF q1.1 55 6) (fun v3 => f_X7_numberRead_55_L13 cr_fuel q1.1 a1 a2 v3 0))
set_option maxRecDepth 100000 in
set_option maxHeartbeats 4000000 in
theorem w_X7_numberRead_55 (C : cr_C p l e R s m args below meth c sfC 97 base D cA cX7_numberRead 5 RX7) (hr : meth.sig.returnType = some .int) (hR : 1 ≤ R.frames ∧ 22 ≤ R.locals) {res : cr_S × Int32} (σ : cr_S) (a1 : Int32) (a2 : Int32) (h : f_X7_numberRead_55 σ a1 a2 = some res) : cr_W p l e R s m args below meth c sfC 97 base D cA 5 (MQ below (cr_Qi sfC 97 base D cA res) args s 0 0 (cr_A 97 base)) σ 0 [(0, .ref (base + 55)), (1, .int a1), (2, .int a2)] [] := by
  unfold f_X7_numberRead_55 at h
  refine g_aload_n (pc' := 1) C dX7_numberRead_0 0 rfl rfl ?_
  obtain ⟨q1, h2, h⟩ := bind_some h
  refine g_callVi (pc' := 4) (res := q1) C [] cY_X7_letterHere rfl (o := 55) (by decide) rfl mv_X7_letterHere mm_X7_54 ⟨Nat.le_trans (by decide) hR.1, Nat.le_trans (by decide) hR.2⟩ rfl (Nat.le_of_ble_eq_true rfl) rfl dX7_numberRead_1 (c_X7_letterHere_55 l base D cA σ q1 h2) rfl ?_
  refine g_pop (pc' := 5) C dX7_numberRead_4 rfl rfl ?_
  refine g_aload_n (pc' := 6) C dX7_numberRead_5 0 rfl rfl ?_
  refine gg_X7_33 (pc' := 9) (o := 55) C rfl dX7_numberRead_6 rfl ?_
  obtain ⟨v3, e4, h⟩ := let_some h
  refine g_nameI e4 ?_
  refine g_istore_n (pc' := 10) (lv' := [(3, .int v3), (0, .ref (base + 55)), (1, .int a1), (2, .int a2)]) C dX7_numberRead_9 rfl (by decide) rfl rfl ?_
  refine g_iconst (pc' := 11) (v := 0) C dX7_numberRead_10 (by decide) rfl ?_
  refine g_istore (pc' := 13) (lv' := [(4, .int 0), (3, .int v3), (0, .ref (base + 55)), (1, .int a1), (2, .int a2)]) C dX7_numberRead_11 (by decide) rfl rfl ?_
  exact g_sub C [2, 3, 4, 1, 0] rfl (w_X7_numberRead_55_L13 C hr hR _ _ _ _ _ _ h)
theorem c_X7_numberRead_55 (l : Launch) (base : Nat) (D : va_G) (cA : Nat → ClassId) (σ : cr_S) (a1 : Int32) (a2 : Int32) (res : cr_S × Int32) (h : f_X7_numberRead_55 σ a1 a2 = some res) : cr_M l yX7_numberRead cX7_numberRead 5 (some .int) 1 22 sfC 97 base D cA [.ref (base + 55), .int a1, .int a2] σ (cr_Qi sfC 97 base D cA res) := by
  refine cr_enter [.ref (base + 55), .int a1, .int a2] [(0, .ref (base + 55)), (1, .int a1), (2, .int a2)] (by decide) (Nat.le_of_ble_eq_true rfl) rfl ?_
  intro p e R s m below meth c C hr hR
  exact w_X7_numberRead_55 C hr hR σ a1 a2 h
end

section
variable {p : Program} {l : Launch} {e : Env} {R : Room} {s : State} {m : MethodId} {args : Array Value} {below : List Frame} {meth : Method} {c : Code} {base : Nat} {D : va_G} {cA : Nat → ClassId}
def f_X7_letterHere_55_B38  (σ : cr_S) : Option (cr_S × Int32) :=
  (if (rF σ 55 3) ≤ (rF σ 55 6) then chk (isC 0) (some (σ, 0)) else chk (inb (rF σ 55 6) 100) (chk (isC (rA σ 56 (rF σ 55 6))) (some (σ, rA σ 56 (rF σ 55 6)))))
set_option maxRecDepth 100000 in
set_option maxHeartbeats 4000000 in
theorem w_X7_letterHere_55_B38 (C : cr_C p l e R s m args below meth c sfC 97 base D cA cX7_letterHere 1 RX7) (hr : meth.sig.returnType = some .char) (hR : 0 ≤ R.frames ∧ 0 ≤ R.locals) {res : cr_S × Int32}  (σ : cr_S) (h : f_X7_letterHere_55_B38 σ = some res) : cr_W p l e R s m args below meth c sfC 97 base D cA 1 (MQ below (cr_Qi sfC 97 base D cA res) args s 0 0 (cr_A 97 base)) σ 38 [(0, .ref (base + 55))] [] := by
  unfold f_X7_letterHere_55_B38 at h
  refine g_aload_n (pc' := 39) C dX7_letterHere_38 0 rfl rfl ?_
  refine gg_X7_33 (pc' := 42) (o := 55) C rfl dX7_letterHere_39 rfl ?_
  refine g_aload_n (pc' := 43) C dX7_letterHere_42 0 rfl rfl ?_
  refine gg_X7_29 (pc' := 46) (o := 55) C rfl dX7_letterHere_43 rfl ?_
  refine g_icmp_ge (pc' := 49) (tgt := 61) C dX7_letterHere_46 (by decide) rfl (fun hc => ?_) (fun hc => ?_)
  · rw [if_pos hc] at h
    refine g_iconst (pc' := 62) (v := 0) C dX7_letterHere_61 (by decide) rfl ?_
    obtain ⟨h1, h⟩ := chk_some h
    exact g_cret C hr (isC_n h1) dX7_letterHere_62 h
  · rw [if_neg hc] at h
    refine g_aload_n (pc' := 50) C dX7_letterHere_49 0 rfl rfl ?_
    refine gg_X7_9 (pc' := 53) (o := 55) (r := 56) C rfl rfl dX7_letterHere_50 rfl ?_
    refine g_aload_n (pc' := 54) C dX7_letterHere_53 0 rfl rfl ?_
    refine gg_X7_33 (pc' := 57) (o := 55) C rfl dX7_letterHere_54 rfl ?_
    obtain ⟨h2, h⟩ := chk_some h
    refine g_cald (pc' := 58) C (o := 56) (by decide) rfl h2 dX7_letterHere_57 rfl ?_
    refine g_goto (tgt := 62) C dX7_letterHere_58 (by decide) ?_
    obtain ⟨h3, h⟩ := chk_some h
    exact g_cret C hr (isC_n h3) dX7_letterHere_62 h
def f_X7_letterHere_55_L0  : Nat → cr_S → Option (cr_S × Int32)
  | 0, _ => none
  | n + 1, σ =>
    (if (rF σ 55 3) ≤ (rF σ 55 6) then f_X7_letterHere_55_B38 σ else chk (inb (rF σ 55 6) 100) ((if (rA σ 56 (rF σ 55 6)) = 32 then cr_let (sF σ 55 6 ((rF σ 55 6) + 1)) (fun s5 => f_X7_letterHere_55_L0 n s5) else f_X7_letterHere_55_B38 σ)))
set_option maxRecDepth 100000 in
set_option maxHeartbeats 4000000 in
theorem w_X7_letterHere_55_L0 (C : cr_C p l e R s m args below meth c sfC 97 base D cA cX7_letterHere 1 RX7) (hr : meth.sig.returnType = some .char) (hR : 0 ≤ R.frames ∧ 0 ≤ R.locals) {res : cr_S × Int32}  : ∀ (n : Nat) (σ : cr_S), f_X7_letterHere_55_L0 n σ = some res → cr_W p l e R s m args below meth c sfC 97 base D cA 1 (MQ below (cr_Qi sfC 97 base D cA res) args s 0 0 (cr_A 97 base)) σ 0 [(0, .ref (base + 55))] [] := by
  intro n
  induction n with
  | zero =>
    intro σ h
    cases h
  | succ n ih =>
    intro σ h
    rw [f_X7_letterHere_55_L0] at h
    refine g_aload_n (pc' := 1) C dX7_letterHere_0 0 rfl rfl ?_
    refine gg_X7_33 (pc' := 4) (o := 55) C rfl dX7_letterHere_1 rfl ?_
    refine g_aload_n (pc' := 5) C dX7_letterHere_4 0 rfl rfl ?_
    refine gg_X7_29 (pc' := 8) (o := 55) C rfl dX7_letterHere_5 rfl ?_
    refine g_icmp_ge (pc' := 11) (tgt := 38) C dX7_letterHere_8 (by decide) rfl (fun hc => ?_) (fun hc => ?_)
    · rw [if_pos hc] at h
      exact g_sub C [0] rfl (w_X7_letterHere_55_B38 C hr hR _ h)
    · rw [if_neg hc] at h
      refine g_aload_n (pc' := 12) C dX7_letterHere_11 0 rfl rfl ?_
      refine gg_X7_9 (pc' := 15) (o := 55) (r := 56) C rfl rfl dX7_letterHere_12 rfl ?_
      refine g_aload_n (pc' := 16) C dX7_letterHere_15 0 rfl rfl ?_
      refine gg_X7_33 (pc' := 19) (o := 55) C rfl dX7_letterHere_16 rfl ?_
      obtain ⟨h4, h⟩ := chk_some h
      refine g_cald (pc' := 20) C (o := 56) (by decide) rfl h4 dX7_letterHere_19 rfl ?_
      refine g_bipush (pc' := 22) (v := 32) C dX7_letterHere_20 (by decide) rfl ?_
      refine g_icmp_ne (pc' := 25) (tgt := 38) C dX7_letterHere_22 (by decide) rfl (fun hc => ?_) (fun hc => ?_)
      · rw [if_neg hc] at h
        exact g_sub C [0] rfl (w_X7_letterHere_55_B38 C hr hR _ h)
      · rw [if_pos hc] at h
        refine g_aload_n (pc' := 26) C dX7_letterHere_25 0 rfl rfl ?_
        refine g_dup (pc' := 27) C dX7_letterHere_26 rfl rfl ?_
        refine gg_X7_33 (pc' := 30) (o := 55) C rfl dX7_letterHere_27 rfl ?_
        refine g_iconst (pc' := 31) (v := 1) C dX7_letterHere_30 (by decide) rfl ?_
        refine g_iadd (pc' := 32) C dX7_letterHere_31 rfl ?_
        obtain ⟨s5, e6, h⟩ := let_some h
        refine gp_X7_33 (pc' := 35) (o := 55) C rfl dX7_letterHere_32 rfl e6 ?_
        refine g_goto (tgt := 0) C dX7_letterHere_35 (by decide) ?_
        exact g_sub C [0] rfl (ih _ h)
def f_X7_letterHere_55 (σ : cr_S) : Option (cr_S × Int32) :=
  f_X7_letterHere_55_L0 cr_fuel σ
set_option maxRecDepth 100000 in
set_option maxHeartbeats 4000000 in
theorem w_X7_letterHere_55 (C : cr_C p l e R s m args below meth c sfC 97 base D cA cX7_letterHere 1 RX7) (hr : meth.sig.returnType = some .char) (hR : 0 ≤ R.frames ∧ 0 ≤ R.locals) {res : cr_S × Int32} (σ : cr_S) (h : f_X7_letterHere_55 σ = some res) : cr_W p l e R s m args below meth c sfC 97 base D cA 1 (MQ below (cr_Qi sfC 97 base D cA res) args s 0 0 (cr_A 97 base)) σ 0 [(0, .ref (base + 55))] [] := by
  unfold f_X7_letterHere_55 at h
  exact g_sub C [0] rfl (w_X7_letterHere_55_L0 C hr hR _ _ h)
theorem c_X7_letterHere_55 (l : Launch) (base : Nat) (D : va_G) (cA : Nat → ClassId) (σ : cr_S) (res : cr_S × Int32) (h : f_X7_letterHere_55 σ = some res) : cr_M l yX7_letterHere cX7_letterHere 1 (some .char) 0 0 sfC 97 base D cA [.ref (base + 55)] σ (cr_Qi sfC 97 base D cA res) := by
  refine cr_enter [.ref (base + 55)] [(0, .ref (base + 55))] (by decide) (Nat.le_of_ble_eq_true rfl) rfl ?_
  intro p e R s m below meth c C hr hR
  exact w_X7_letterHere_55 C hr hR σ h
def f_X7_isTaken_55 (σ : cr_S) (a1 : Int32) : Option (cr_S × Int32) :=
  Option.bind (f_X7_letterHere_55 σ) (fun q1 => (if q1.2 = a1 then cr_let (sF q1.1 55 6 ((rF q1.1 55 6) + 1)) (fun s3 => some (s3, 1)) else some (q1.1, 0)))
set_option maxRecDepth 100000 in
set_option maxHeartbeats 4000000 in
theorem w_X7_isTaken_55 (C : cr_C p l e R s m args below meth c sfC 97 base D cA cX7_isTaken 2 RX7) (hr : meth.sig.returnType = some .boolean) (hR : 1 ≤ R.frames ∧ 20 ≤ R.locals) {res : cr_S × Int32} (σ : cr_S) (a1 : Int32) (h : f_X7_isTaken_55 σ a1 = some res) : cr_W p l e R s m args below meth c sfC 97 base D cA 2 (MQ below (cr_Qi sfC 97 base D cA res) args s 0 0 (cr_A 97 base)) σ 0 [(0, .ref (base + 55)), (1, .int a1)] [] := by
  unfold f_X7_isTaken_55 at h
  refine g_aload_n (pc' := 1) C dX7_isTaken_0 0 rfl rfl ?_
  obtain ⟨q1, h2, h⟩ := bind_some h
  refine g_callVi (pc' := 4) (res := q1) C [] cY_X7_letterHere rfl (o := 55) (by decide) rfl mv_X7_letterHere mm_X7_54 ⟨Nat.le_trans (by decide) hR.1, Nat.le_trans (by decide) hR.2⟩ rfl (Nat.le_of_ble_eq_true rfl) rfl dX7_isTaken_1 (c_X7_letterHere_55 l base D cA σ q1 h2) rfl ?_
  refine g_iload_n (pc' := 5) C dX7_isTaken_4 1 rfl rfl ?_
  refine g_icmp_eq (pc' := 8) (tgt := 10) C dX7_isTaken_5 (by decide) rfl (fun hc => ?_) (fun hc => ?_)
  · rw [if_pos hc] at h
    refine g_aload_n (pc' := 11) C dX7_isTaken_10 0 rfl rfl ?_
    refine g_dup (pc' := 12) C dX7_isTaken_11 rfl rfl ?_
    refine gg_X7_33 (pc' := 15) (o := 55) C rfl dX7_isTaken_12 rfl ?_
    refine g_iconst (pc' := 16) (v := 1) C dX7_isTaken_15 (by decide) rfl ?_
    refine g_iadd (pc' := 17) C dX7_isTaken_16 rfl ?_
    obtain ⟨s3, e4, h⟩ := let_some h
    refine gp_X7_33 (pc' := 20) (o := 55) C rfl dX7_isTaken_17 rfl e4 ?_
    refine g_iconst (pc' := 21) (v := 1) C dX7_isTaken_20 (by decide) rfl ?_
    exact g_zret C hr rfl dX7_isTaken_21 h
  · rw [if_neg hc] at h
    refine g_iconst (pc' := 9) (v := 0) C dX7_isTaken_8 (by decide) rfl ?_
    exact g_zret C hr rfl dX7_isTaken_9 h
theorem c_X7_isTaken_55 (l : Launch) (base : Nat) (D : va_G) (cA : Nat → ClassId) (σ : cr_S) (a1 : Int32) (res : cr_S × Int32) (h : f_X7_isTaken_55 σ a1 = some res) : cr_M l yX7_isTaken cX7_isTaken 2 (some .boolean) 1 20 sfC 97 base D cA [.ref (base + 55), .int a1] σ (cr_Qi sfC 97 base D cA res) := by
  refine cr_enter [.ref (base + 55), .int a1] [(0, .ref (base + 55)), (1, .int a1)] (by decide) (Nat.le_of_ble_eq_true rfl) rfl ?_
  intro p e R s m below meth c C hr hR
  exact w_X7_isTaken_55 C hr hR σ a1 h
def f_X10_count (σ : cr_S) (a1 : Int32) : Option (cr_S × Int32) :=
  (if a1 = 0 then some (σ, rF σ 1 5) else (if a1 = 1 then some (σ, rF σ 1 6) else (if a1 = 2 then some (σ, rF σ 4 0) else (if a1 = 3 then some (σ, if (rF σ 4 1) = (-1) then (-4) else rF σ 4 1) else (if a1 = 4 then some (σ, rF σ 4 2) else (if a1 = 5 then some (σ, rF σ 4 3) else (if a1 = 6 then some (σ, rF σ 1 7) else (if a1 = 7 then some (σ, rF σ 6 2) else some (σ, (-1))))))))))
set_option maxRecDepth 100000 in
set_option maxHeartbeats 4000000 in
theorem w_X10_count (C : cr_C p l e R s m args below meth c sfC 97 base D cA cX10_count 2 RX10) (hr : meth.sig.returnType = some .int) (hR : 0 ≤ R.frames ∧ 0 ≤ R.locals) {res : cr_S × Int32} (σ : cr_S) (a1 : Int32) (h : f_X10_count σ a1 = some res) : cr_W p l e R s m args below meth c sfC 97 base D cA 2 (MQ below (cr_Qi sfC 97 base D cA res) args s 0 0 (cr_A 97 base)) σ 0 [(0, .ref (base + 0)), (1, .int a1)] [] := by
  unfold f_X10_count at h
  refine g_iload_n (pc' := 1) C dX10_count_0 1 rfl rfl ?_
  by_cases hc0 : a1 = 0
  · rw [if_pos hc0] at h
    refine g_tableIn (off := 47) (tgt := 48) C dX10_count_1 (by rw [hc0]; decide) (by rw [hc0]; decide) (by rw [hc0]; decide) (by decide) ?_
    refine g_aload_n (pc' := 49) C dX10_count_48 0 rfl rfl ?_
    refine gg_X10_12 (pc' := 52) (o := 0) (r := 1) C rfl rfl dX10_count_49 rfl ?_
    refine gg_X10_58 (pc' := 55) (o := 1) C rfl dX10_count_52 rfl ?_
    exact g_iret C hr dX10_count_55 h
  rw [if_neg hc0] at h
  by_cases hc1 : a1 = 1
  · rw [if_pos hc1] at h
    refine g_tableIn (off := 55) (tgt := 56) C dX10_count_1 (by rw [hc1]; decide) (by rw [hc1]; decide) (by rw [hc1]; decide) (by decide) ?_
    refine g_aload_n (pc' := 57) C dX10_count_56 0 rfl rfl ?_
    refine gg_X10_12 (pc' := 60) (o := 0) (r := 1) C rfl rfl dX10_count_57 rfl ?_
    refine gg_X10_82 (pc' := 63) (o := 1) C rfl dX10_count_60 rfl ?_
    exact g_iret C hr dX10_count_63 h
  rw [if_neg hc1] at h
  by_cases hc2 : a1 = 2
  · rw [if_pos hc2] at h
    refine g_tableIn (off := 63) (tgt := 64) C dX10_count_1 (by rw [hc2]; decide) (by rw [hc2]; decide) (by rw [hc2]; decide) (by decide) ?_
    refine g_aload_n (pc' := 65) C dX10_count_64 0 rfl rfl ?_
    refine gg_X10_12 (pc' := 68) (o := 0) (r := 1) C rfl rfl dX10_count_65 rfl ?_
    refine gg_X10_149 (pc' := 71) (o := 1) (r := 4) C rfl rfl dX10_count_68 rfl ?_
    refine gg_X10_153 (pc' := 74) (o := 4) C rfl dX10_count_71 rfl ?_
    exact g_iret C hr dX10_count_74 h
  rw [if_neg hc2] at h
  by_cases hc3 : a1 = 3
  · rw [if_pos hc3] at h
    refine g_tableIn (off := 74) (tgt := 75) C dX10_count_1 (by rw [hc3]; decide) (by rw [hc3]; decide) (by rw [hc3]; decide) (by decide) ?_
    refine g_aload_n (pc' := 76) C dX10_count_75 0 rfl rfl ?_
    refine gg_X10_12 (pc' := 79) (o := 0) (r := 1) C rfl rfl dX10_count_76 rfl ?_
    refine gg_X10_149 (pc' := 82) (o := 1) (r := 4) C rfl rfl dX10_count_79 rfl ?_
    refine gg_X10_158 (pc' := 85) (o := 4) C rfl dX10_count_82 rfl ?_
    refine g_iconst (pc' := 86) (v := (-1)) C dX10_count_85 (by decide) rfl ?_
    refine g_iteI (σ := σ) (pj := 104) (lv := [(0, .ref (base + 0)), (1, .int a1)]) (st := []) (cd := (rF σ 4 1) = (-1)) (a := (-4)) (b := rF σ 4 1) C ?_ (fun kt kf => ?_)
    · exact g_iret C hr dX10_count_104 h
    · refine g_icmp_ne (pc' := 89) (tgt := 94) C dX10_count_86 (by decide) rfl (fun hc => ?_) (fun hc => ?_)
      · refine g_aload_n (pc' := 95) C dX10_count_94 0 rfl rfl ?_
        refine gg_X10_12 (pc' := 98) (o := 0) (r := 1) C rfl rfl dX10_count_95 rfl ?_
        refine gg_X10_149 (pc' := 101) (o := 1) (r := 4) C rfl rfl dX10_count_98 rfl ?_
        refine gg_X10_158 (pc' := 104) (o := 4) C rfl dX10_count_101 rfl ?_
        exact kf hc
      · refine g_bipush (pc' := 91) (v := (-4)) C dX10_count_89 (by decide) rfl ?_
        refine g_goto (tgt := 104) C dX10_count_91 (by decide) ?_
        exact kt hc
  rw [if_neg hc3] at h
  by_cases hc4 : a1 = 4
  · rw [if_pos hc4] at h
    refine g_tableIn (off := 104) (tgt := 105) C dX10_count_1 (by rw [hc4]; decide) (by rw [hc4]; decide) (by rw [hc4]; decide) (by decide) ?_
    refine g_aload_n (pc' := 106) C dX10_count_105 0 rfl rfl ?_
    refine gg_X10_12 (pc' := 109) (o := 0) (r := 1) C rfl rfl dX10_count_106 rfl ?_
    refine gg_X10_149 (pc' := 112) (o := 1) (r := 4) C rfl rfl dX10_count_109 rfl ?_
    refine gg_X10_161 (pc' := 115) (o := 4) C rfl dX10_count_112 rfl ?_
    exact g_iret C hr dX10_count_115 h
  rw [if_neg hc4] at h
  by_cases hc5 : a1 = 5
  · rw [if_pos hc5] at h
    refine g_tableIn (off := 115) (tgt := 116) C dX10_count_1 (by rw [hc5]; decide) (by rw [hc5]; decide) (by rw [hc5]; decide) (by decide) ?_
    refine g_aload_n (pc' := 117) C dX10_count_116 0 rfl rfl ?_
    refine gg_X10_12 (pc' := 120) (o := 0) (r := 1) C rfl rfl dX10_count_117 rfl ?_
    refine gg_X10_149 (pc' := 123) (o := 1) (r := 4) C rfl rfl dX10_count_120 rfl ?_
    refine gg_X10_164 (pc' := 126) (o := 4) C rfl dX10_count_123 rfl ?_
    exact g_iret C hr dX10_count_126 h
  rw [if_neg hc5] at h
  by_cases hc6 : a1 = 6
  · rw [if_pos hc6] at h
    refine g_tableIn (off := 126) (tgt := 127) C dX10_count_1 (by rw [hc6]; decide) (by rw [hc6]; decide) (by rw [hc6]; decide) (by decide) ?_
    refine g_aload_n (pc' := 128) C dX10_count_127 0 rfl rfl ?_
    refine gg_X10_12 (pc' := 131) (o := 0) (r := 1) C rfl rfl dX10_count_128 rfl ?_
    refine gg_X10_167 (pc' := 134) (o := 1) C rfl dX10_count_131 rfl ?_
    exact g_iret C hr dX10_count_134 h
  rw [if_neg hc6] at h
  by_cases hc7 : a1 = 7
  · rw [if_pos hc7] at h
    refine g_tableIn (off := 134) (tgt := 135) C dX10_count_1 (by rw [hc7]; decide) (by rw [hc7]; decide) (by rw [hc7]; decide) (by decide) ?_
    refine g_aload_n (pc' := 136) C dX10_count_135 0 rfl rfl ?_
    refine gg_X10_12 (pc' := 139) (o := 0) (r := 1) C rfl rfl dX10_count_136 rfl ?_
    refine gg_X10_170 (pc' := 142) (o := 1) (r := 6) C rfl rfl dX10_count_139 rfl ?_
    refine gg_X10_174 (pc' := 145) (o := 6) C rfl dX10_count_142 rfl ?_
    exact g_iret C hr dX10_count_145 h
  rw [if_neg hc7] at h
  refine g_tableOut (tgt := 146) C dX10_count_1 (by have q0 : a1.toInt ≠ 0 := ne_toInt hc0; have q1 : a1.toInt ≠ 1 := ne_toInt hc1; have q2 : a1.toInt ≠ 2 := ne_toInt hc2; have q3 : a1.toInt ≠ 3 := ne_toInt hc3; have q4 : a1.toInt ≠ 4 := ne_toInt hc4; have q5 : a1.toInt ≠ 5 := ne_toInt hc5; have q6 : a1.toInt ≠ 6 := ne_toInt hc6; have q7 : a1.toInt ≠ 7 := ne_toInt hc7; omega) (by decide) ?_
  refine g_iconst (pc' := 147) (v := (-1)) C dX10_count_146 (by decide) rfl ?_
  exact g_iret C hr dX10_count_147 h
theorem c_X10_count (l : Launch) (base : Nat) (D : va_G) (cA : Nat → ClassId) (σ : cr_S) (a1 : Int32) (res : cr_S × Int32) (h : f_X10_count σ a1 = some res) : cr_M l yX10_count cX10_count 2 (some .int) 0 0 sfC 97 base D cA [.ref (base + 0), .int a1] σ (cr_Qi sfC 97 base D cA res) := by
  refine cr_enter [.ref (base + 0), .int a1] [(0, .ref (base + 0)), (1, .int a1)] (by decide) (Nat.le_of_ble_eq_true rfl) rfl ?_
  intro p e R s m below meth c C hr hR
  exact w_X10_count C hr hR σ a1 h
def f_X8_take (σ : cr_S) (o0 : Nat) (o1 : Nat) : Option (cr_S) :=
  chk (kC o1 = 8) (chk (kC o0 = 8) (cr_let (sF σ o0 0 (rF σ o1 0)) (fun s3 => chk (kC o1 = 8) (chk (kC o0 = 8) (cr_let (sF s3 o0 1 (rF s3 o1 1)) (fun s7 => chk (kC o1 = 8) (chk (kC o0 = 8) (cr_let (sF s7 o0 2 (rF s7 o1 2)) (fun s11 => chk (kC o1 = 8) (chk (kC o0 = 8) (cr_let (sF s11 o0 3 (rF s11 o1 3)) (fun s15 => some s15))))))))))))
set_option maxRecDepth 100000 in
set_option maxHeartbeats 4000000 in
theorem w_X8_take (C : cr_C p l e R s m args below meth c sfC 97 base D cA cX8_take 2 RX8) (hr : meth.sig.returnType = none) (hR : 0 ≤ R.frames ∧ 0 ≤ R.locals) {res : cr_S} (σ : cr_S) (o0 : Nat) (o1 : Nat) (h : f_X8_take σ o0 o1 = some res) : cr_W p l e R s m args below meth c sfC 97 base D cA 2 (MQ below (cr_Qv sfC 97 base D cA res) args s 0 0 (cr_A 97 base)) σ 0 [(0, .ref (base + o0)), (1, .ref (base + o1))] [] := by
  unfold f_X8_take at h
  refine g_aload_n (pc' := 1) C dX8_take_0 0 rfl rfl ?_
  refine g_aload_n (pc' := 2) C dX8_take_1 1 rfl rfl ?_
  obtain ⟨h1, h⟩ := chk_some h
  refine gg_X8_15 (pc' := 5) (o := o1) C h1 dX8_take_2 rfl ?_
  obtain ⟨h2, h⟩ := chk_some h
  obtain ⟨s3, e4, h⟩ := let_some h
  refine gp_X8_15 (pc' := 8) (o := o0) C h2 dX8_take_5 rfl e4 ?_
  refine g_aload_n (pc' := 9) C dX8_take_8 0 rfl rfl ?_
  refine g_aload_n (pc' := 10) C dX8_take_9 1 rfl rfl ?_
  obtain ⟨h5, h⟩ := chk_some h
  refine gg_X8_9 (pc' := 13) (o := o1) C h5 dX8_take_10 rfl ?_
  obtain ⟨h6, h⟩ := chk_some h
  obtain ⟨s7, e8, h⟩ := let_some h
  refine gp_X8_9 (pc' := 16) (o := o0) C h6 dX8_take_13 rfl e8 ?_
  refine g_aload_n (pc' := 17) C dX8_take_16 0 rfl rfl ?_
  refine g_aload_n (pc' := 18) C dX8_take_17 1 rfl rfl ?_
  obtain ⟨h9, h⟩ := chk_some h
  refine gg_X8_18 (pc' := 21) (o := o1) C h9 dX8_take_18 rfl ?_
  obtain ⟨h10, h⟩ := chk_some h
  obtain ⟨s11, e12, h⟩ := let_some h
  refine gp_X8_18 (pc' := 24) (o := o0) C h10 dX8_take_21 rfl e12 ?_
  refine g_aload_n (pc' := 25) C dX8_take_24 0 rfl rfl ?_
  refine g_aload_n (pc' := 26) C dX8_take_25 1 rfl rfl ?_
  obtain ⟨h13, h⟩ := chk_some h
  refine gg_X8_21 (pc' := 29) (o := o1) C h13 dX8_take_26 rfl ?_
  obtain ⟨h14, h⟩ := chk_some h
  obtain ⟨s15, e16, h⟩ := let_some h
  refine gp_X8_21 (pc' := 32) (o := o0) C h14 dX8_take_29 rfl e16 ?_
  exact g_vret C hr dX8_take_32 h
theorem c_X8_take (l : Launch) (base : Nat) (D : va_G) (cA : Nat → ClassId) (σ : cr_S) (o0 : Nat) (o1 : Nat) (res : cr_S) (h : f_X8_take σ o0 o1 = some res) : cr_M l yX8_take cX8_take 2 none 0 0 sfC 97 base D cA [.ref (base + o0), .ref (base + o1)] σ (cr_Qv sfC 97 base D cA res) := by
  refine cr_enter [.ref (base + o0), .ref (base + o1)] [(0, .ref (base + o0)), (1, .ref (base + o1))] (by decide) (Nat.le_of_ble_eq_true rfl) rfl ?_
  intro p e R s m below meth c C hr hR
  exact w_X8_take C hr hR σ o0 o1 h
def f_X9_remember_1_B46  (σ : cr_S) : Option (cr_S) :=
  chk (inb (rF σ 1 7) 8) (Option.bind (f_X8_take σ (20 + (rF σ 1 7).toNatClampNeg) 4) (fun q2 => chk (kC (20 + (rF σ 1 7).toNatClampNeg) = 8) (cr_let (sF q2 1 7 ((rF q2 1 7) + 1)) (fun s5 => some s5))))
set_option maxRecDepth 100000 in
set_option maxHeartbeats 4000000 in
theorem w_X9_remember_1_B46 (C : cr_C p l e R s m args below meth c sfC 97 base D cA cX9_remember 2 RX9) (hr : meth.sig.returnType = none) (hR : 1 ≤ R.frames ∧ 21 ≤ R.locals) {res : cr_S}  (σ : cr_S) (h : f_X9_remember_1_B46 σ = some res) : cr_W p l e R s m args below meth c sfC 97 base D cA 2 (MQ below (cr_Qv sfC 97 base D cA res) args s 0 0 (cr_A 97 base)) σ 46 [(0, .ref (base + 1))] [] := by
  unfold f_X9_remember_1_B46 at h
  refine g_aload_n (pc' := 47) C dX9_remember_46 0 rfl rfl ?_
  refine gg_X9_30 (pc' := 50) (o := 1) (r := 5) C rfl rfl dX9_remember_47 rfl ?_
  refine g_aload_n (pc' := 51) C dX9_remember_50 0 rfl rfl ?_
  refine gg_X9_61 (pc' := 54) (o := 1) C rfl dX9_remember_51 rfl ?_
  obtain ⟨h1, h⟩ := chk_some h
  refine g_aald (pc' := 55) C (o := 5) (by decide) rfl (cn := "ClashRocks$Voyage") rfl h1 dX9_remember_54 rfl ?_
  refine g_aload_n (pc' := 56) C dX9_remember_55 0 rfl rfl ?_
  refine gg_X9_26 (pc' := 59) (o := 1) (r := 4) C rfl rfl dX9_remember_56 rfl ?_
  obtain ⟨q2, h3, h⟩ := bind_some h
  obtain ⟨h4, h⟩ := chk_some h
  refine g_callVv (pc' := 62) (res := q2) C [.ref (base + 4)] cY_X8_take rfl (o := 20 + (rF σ 1 7).toNatClampNeg) (kC_lt h4 (by decide)) (sfC_8 h4) mv_X8_take mm_X9_57 ⟨Nat.le_trans (by decide) hR.1, Nat.le_trans (by decide) hR.2⟩ rfl (Nat.le_of_ble_eq_true rfl) rfl dX9_remember_59 (c_X8_take l base D cA σ (20 + (rF σ 1 7).toNatClampNeg) 4 q2 h3) rfl ?_
  refine g_aload_n (pc' := 63) C dX9_remember_62 0 rfl rfl ?_
  refine g_dup (pc' := 64) C dX9_remember_63 rfl rfl ?_
  refine gg_X9_61 (pc' := 67) (o := 1) C rfl dX9_remember_64 rfl ?_
  refine g_iconst (pc' := 68) (v := 1) C dX9_remember_67 (by decide) rfl ?_
  refine g_iadd (pc' := 69) C dX9_remember_68 rfl ?_
  obtain ⟨s5, e6, h⟩ := let_some h
  refine gp_X9_61 (pc' := 72) (o := 1) C rfl dX9_remember_69 rfl e6 ?_
  exact g_vret C hr dX9_remember_72 h
def f_X9_remember_1_B40  (σ : cr_S) : Option (cr_S) :=
  cr_let (sF σ 1 7 7) (fun s7 => f_X9_remember_1_B46 s7)
set_option maxRecDepth 100000 in
set_option maxHeartbeats 4000000 in
theorem w_X9_remember_1_B40 (C : cr_C p l e R s m args below meth c sfC 97 base D cA cX9_remember 2 RX9) (hr : meth.sig.returnType = none) (hR : 1 ≤ R.frames ∧ 21 ≤ R.locals) {res : cr_S}  (σ : cr_S) (h : f_X9_remember_1_B40 σ = some res) : cr_W p l e R s m args below meth c sfC 97 base D cA 2 (MQ below (cr_Qv sfC 97 base D cA res) args s 0 0 (cr_A 97 base)) σ 40 [(0, .ref (base + 1))] [] := by
  unfold f_X9_remember_1_B40 at h
  refine g_aload_n (pc' := 41) C dX9_remember_40 0 rfl rfl ?_
  refine g_bipush (pc' := 43) (v := 7) C dX9_remember_41 (by decide) rfl ?_
  obtain ⟨s7, e8, h⟩ := let_some h
  refine gp_X9_61 (pc' := 46) (o := 1) C rfl dX9_remember_43 rfl e8 ?_
  exact g_sub C [0] rfl (w_X9_remember_1_B46 C hr hR _ h)
def f_X9_remember_1_L11  : Nat → cr_S → Int32 → Option (cr_S)
  | 0, _, _ => none
  | n + 1, σ, x1 =>
    (if 8 ≤ x1 then f_X9_remember_1_B40 σ else chk (inb (x1 - 1) 8) (chk (inb x1 8) (Option.bind (f_X8_take σ (20 + (x1 - 1).toNatClampNeg) (20 + x1.toNatClampNeg)) (fun q11 => chk (kC (20 + (x1 - 1).toNatClampNeg) = 8) (cr_let (x1 + 1) (fun v14 => f_X9_remember_1_L11 n q11 v14))))))
set_option maxRecDepth 100000 in
set_option maxHeartbeats 4000000 in
theorem w_X9_remember_1_L11 (C : cr_C p l e R s m args below meth c sfC 97 base D cA cX9_remember 2 RX9) (hr : meth.sig.returnType = none) (hR : 1 ≤ R.frames ∧ 21 ≤ R.locals) {res : cr_S}  : ∀ (n : Nat) (σ : cr_S) (x1 : Int32), f_X9_remember_1_L11 n σ x1 = some res → cr_W p l e R s m args below meth c sfC 97 base D cA 2 (MQ below (cr_Qv sfC 97 base D cA res) args s 0 0 (cr_A 97 base)) σ 11 [(0, .ref (base + 1)), (1, .int x1)] [] := by
  intro n
  induction n with
  | zero =>
    intro σ x1 h
    cases h
  | succ n ih =>
    intro σ x1 h
    rw [f_X9_remember_1_L11] at h
    refine g_iload_n (pc' := 12) C dX9_remember_11 1 rfl rfl ?_
    refine g_bipush (pc' := 14) (v := 8) C dX9_remember_12 (by decide) rfl ?_
    refine g_icmp_ge (pc' := 17) (tgt := 40) C dX9_remember_14 (by decide) rfl (fun hc => ?_) (fun hc => ?_)
    · rw [if_pos hc] at h
      exact g_sub C [0] rfl (w_X9_remember_1_B40 C hr hR _ h)
    · rw [if_neg hc] at h
      refine g_aload_n (pc' := 18) C dX9_remember_17 0 rfl rfl ?_
      refine gg_X9_30 (pc' := 21) (o := 1) (r := 5) C rfl rfl dX9_remember_18 rfl ?_
      refine g_iload_n (pc' := 22) C dX9_remember_21 1 rfl rfl ?_
      refine g_iconst (pc' := 23) (v := 1) C dX9_remember_22 (by decide) rfl ?_
      refine g_isub (pc' := 24) C dX9_remember_23 rfl ?_
      obtain ⟨h9, h⟩ := chk_some h
      refine g_aald (pc' := 25) C (o := 5) (by decide) rfl (cn := "ClashRocks$Voyage") rfl h9 dX9_remember_24 rfl ?_
      refine g_aload_n (pc' := 26) C dX9_remember_25 0 rfl rfl ?_
      refine gg_X9_30 (pc' := 29) (o := 1) (r := 5) C rfl rfl dX9_remember_26 rfl ?_
      refine g_iload_n (pc' := 30) C dX9_remember_29 1 rfl rfl ?_
      obtain ⟨h10, h⟩ := chk_some h
      refine g_aald (pc' := 31) C (o := 5) (by decide) rfl (cn := "ClashRocks$Voyage") rfl h10 dX9_remember_30 rfl ?_
      obtain ⟨q11, h12, h⟩ := bind_some h
      obtain ⟨h13, h⟩ := chk_some h
      refine g_callVv (pc' := 34) (res := q11) C [.ref (base + (20 + x1.toNatClampNeg))] cY_X8_take rfl (o := 20 + (x1 - 1).toNatClampNeg) (kC_lt h13 (by decide)) (sfC_8 h13) mv_X8_take mm_X9_57 ⟨Nat.le_trans (by decide) hR.1, Nat.le_trans (by decide) hR.2⟩ rfl (Nat.le_of_ble_eq_true rfl) rfl dX9_remember_31 (c_X8_take l base D cA σ (20 + (x1 - 1).toNatClampNeg) (20 + x1.toNatClampNeg) q11 h12) rfl ?_
      obtain ⟨v14, e15, h⟩ := let_some h
      refine g_iinc (pc' := 37) (v := v14) (lv' := [(1, .int v14), (0, .ref (base + 1))]) C dX9_remember_34 1 rfl (by rw [e15]; rfl) (by decide) rfl rfl ?_
      refine g_goto (tgt := 11) C dX9_remember_37 (by decide) ?_
      exact g_sub C [1, 0] rfl (ih _ _ h)
def f_X9_remember_1 (σ : cr_S) : Option (cr_S) :=
  (if (rF σ 1 7) < 8 then f_X9_remember_1_B46 σ else f_X9_remember_1_L11 cr_fuel σ 1)
set_option maxRecDepth 100000 in
set_option maxHeartbeats 4000000 in
theorem w_X9_remember_1 (C : cr_C p l e R s m args below meth c sfC 97 base D cA cX9_remember 2 RX9) (hr : meth.sig.returnType = none) (hR : 1 ≤ R.frames ∧ 21 ≤ R.locals) {res : cr_S} (σ : cr_S) (h : f_X9_remember_1 σ = some res) : cr_W p l e R s m args below meth c sfC 97 base D cA 2 (MQ below (cr_Qv sfC 97 base D cA res) args s 0 0 (cr_A 97 base)) σ 0 [(0, .ref (base + 1))] [] := by
  unfold f_X9_remember_1 at h
  refine g_aload_n (pc' := 1) C dX9_remember_0 0 rfl rfl ?_
  refine gg_X9_61 (pc' := 4) (o := 1) C rfl dX9_remember_1 rfl ?_
  refine g_bipush (pc' := 6) (v := 8) C dX9_remember_4 (by decide) rfl ?_
  refine g_icmp_lt (pc' := 9) (tgt := 46) C dX9_remember_6 (by decide) rfl (fun hc => ?_) (fun hc => ?_)
  · rw [if_pos hc] at h
    exact g_sub C [0] rfl (w_X9_remember_1_B46 C hr hR _ h)
  · rw [if_neg hc] at h
    refine g_iconst (pc' := 10) (v := 1) C dX9_remember_9 (by decide) rfl ?_
    refine g_istore_n (pc' := 11) (lv' := [(1, .int 1), (0, .ref (base + 1))]) C dX9_remember_10 rfl (by decide) rfl rfl ?_
    exact g_sub C [1, 0] rfl (w_X9_remember_1_L11 C hr hR _ _ _ h)
theorem c_X9_remember_1 (l : Launch) (base : Nat) (D : va_G) (cA : Nat → ClassId) (σ : cr_S) (res : cr_S) (h : f_X9_remember_1 σ = some res) : cr_M l yX9_remember cX9_remember 2 none 1 21 sfC 97 base D cA [.ref (base + 1)] σ (cr_Qv sfC 97 base D cA res) := by
  refine cr_enter [.ref (base + 1)] [(0, .ref (base + 1))] (by decide) (Nat.le_of_ble_eq_true rfl) rfl ?_
  intro p e R s m below meth c C hr hR
  exact w_X9_remember_1 C hr hR σ h
def f_X10_setOut_B43  (σ : cr_S) (x1 : Int32) : Option (cr_S × Int32) :=
  Option.bind (f_X9_remember_1 σ) (fun q3 => cr_let (sF q3 4 1 x1) (fun s5 => cr_let (sF s5 4 2 0) (fun s7 => cr_let (sF s7 4 3 0) (fun s9 => some (s9, rF s9 1 5)))))
set_option maxRecDepth 100000 in
set_option maxHeartbeats 4000000 in
theorem w_X10_setOut_B43 (C : cr_C p l e R s m args below meth c sfC 97 base D cA cX10_setOut 3 RX10) (hr : meth.sig.returnType = some .int) (hR : 2 ≤ R.frames ∧ 43 ≤ R.locals) {res : cr_S × Int32}  (σ : cr_S) (x1 : Int32) (h : f_X10_setOut_B43 σ x1 = some res) : cr_W p l e R s m args below meth c sfC 97 base D cA 3 (MQ below (cr_Qi sfC 97 base D cA res) args s 0 0 (cr_A 97 base)) σ 43 [(0, .ref (base + 0)), (1, .int x1), (2, .ref (base + 4))] [] := by
  unfold f_X10_setOut_B43 at h
  refine g_aload_n (pc' := 44) C dX10_setOut_43 0 rfl rfl ?_
  refine gg_X10_12 (pc' := 47) (o := 0) (r := 1) C rfl rfl dX10_setOut_44 rfl ?_
  obtain ⟨q3, h4, h⟩ := bind_some h
  refine g_callVv (pc' := 50) (res := q3) C [] cY_X9_remember rfl (o := 1) (by decide) rfl mv_X9_remember mm_X10_177 ⟨Nat.le_trans (by decide) hR.1, Nat.le_trans (by decide) hR.2⟩ rfl (Nat.le_of_ble_eq_true rfl) rfl dX10_setOut_47 (c_X9_remember_1 l base D cA σ q3 h4) rfl ?_
  refine g_aload_n (pc' := 51) C dX10_setOut_50 2 rfl rfl ?_
  refine g_iload_n (pc' := 52) C dX10_setOut_51 1 rfl rfl ?_
  obtain ⟨s5, e6, h⟩ := let_some h
  refine gp_X10_158 (pc' := 55) (o := 4) C rfl dX10_setOut_52 rfl e6 ?_
  refine g_aload_n (pc' := 56) C dX10_setOut_55 2 rfl rfl ?_
  refine g_iconst (pc' := 57) (v := 0) C dX10_setOut_56 (by decide) rfl ?_
  obtain ⟨s7, e8, h⟩ := let_some h
  refine gp_X10_161 (pc' := 60) (o := 4) C rfl dX10_setOut_57 rfl e8 ?_
  refine g_aload_n (pc' := 61) C dX10_setOut_60 2 rfl rfl ?_
  refine g_iconst (pc' := 62) (v := 0) C dX10_setOut_61 (by decide) rfl ?_
  obtain ⟨s9, e10, h⟩ := let_some h
  refine gp_X10_164 (pc' := 65) (o := 4) C rfl dX10_setOut_62 rfl e10 ?_
  refine g_aload_n (pc' := 66) C dX10_setOut_65 0 rfl rfl ?_
  refine gg_X10_12 (pc' := 69) (o := 0) (r := 1) C rfl rfl dX10_setOut_66 rfl ?_
  refine gg_X10_58 (pc' := 72) (o := 1) C rfl dX10_setOut_69 rfl ?_
  exact g_iret C hr dX10_setOut_72 h
def f_X10_setOut (σ : cr_S) (a1 : Int32) : Option (cr_S × Int32) :=
  Option.bind (f_X10_isShip σ a1) (fun q1 => (if q1.2 = 0 then some (q1.1, (-1)) else (if (rF q1.1 4 1) = (-1) then f_X10_setOut_B43 q1.1 a1 else (if (rF q1.1 1 5) ≤ (rF q1.1 4 2) then f_X10_setOut_B43 q1.1 a1 else some (q1.1, (-2))))))
set_option maxRecDepth 100000 in
set_option maxHeartbeats 4000000 in
theorem w_X10_setOut (C : cr_C p l e R s m args below meth c sfC 97 base D cA cX10_setOut 3 RX10) (hr : meth.sig.returnType = some .int) (hR : 2 ≤ R.frames ∧ 43 ≤ R.locals) {res : cr_S × Int32} (σ : cr_S) (a1 : Int32) (h : f_X10_setOut σ a1 = some res) : cr_W p l e R s m args below meth c sfC 97 base D cA 3 (MQ below (cr_Qi sfC 97 base D cA res) args s 0 0 (cr_A 97 base)) σ 0 [(0, .ref (base + 0)), (1, .int a1)] [] := by
  unfold f_X10_setOut at h
  refine g_aload_n (pc' := 1) C dX10_setOut_0 0 rfl rfl ?_
  refine g_iload_n (pc' := 2) C dX10_setOut_1 1 rfl rfl ?_
  obtain ⟨q1, h2, h⟩ := bind_some h
  refine g_callVi (pc' := 5) (res := q1) C [.int a1] cY_X10_isShip rfl (o := 0) (by decide) rfl mv_X10_isShip mm_X10_103 ⟨Nat.le_trans (by decide) hR.1, Nat.le_trans (by decide) hR.2⟩ rfl (Nat.le_of_ble_eq_true rfl) rfl dX10_setOut_2 (c_X10_isShip l base D cA σ a1 q1 h2) rfl ?_
  refine g_if_ne (pc' := 8) (tgt := 10) C dX10_setOut_5 (by decide) rfl (fun hc => ?_) (fun hc => ?_)
  · rw [if_neg hc] at h
    refine g_aload_n (pc' := 11) C dX10_setOut_10 0 rfl rfl ?_
    refine gg_X10_12 (pc' := 14) (o := 0) (r := 1) C rfl rfl dX10_setOut_11 rfl ?_
    refine gg_X10_149 (pc' := 17) (o := 1) (r := 4) C rfl rfl dX10_setOut_14 rfl ?_
    refine g_astore_n (pc' := 18) (lv' := [(2, .ref (base + 4)), (0, .ref (base + 0)), (1, .int a1)]) C dX10_setOut_17 rfl (by decide) rfl rfl ?_
    refine g_aload_n (pc' := 19) C dX10_setOut_18 0 rfl rfl ?_
    refine gg_X10_158 (pc' := 22) (o := 4) C rfl dX10_setOut_19 rfl ?_
    refine g_iconst (pc' := 23) (v := (-1)) C dX10_setOut_22 (by decide) rfl ?_
    refine g_icmp_eq (pc' := 26) (tgt := 43) C dX10_setOut_23 (by decide) rfl (fun hc => ?_) (fun hc => ?_)
    · rw [if_pos hc] at h
      exact g_sub C [1, 2, 0] rfl (w_X10_setOut_B43 C hr hR _ _ h)
    · rw [if_neg hc] at h
      refine g_aload_n (pc' := 27) C dX10_setOut_26 0 rfl rfl ?_
      refine gg_X10_161 (pc' := 30) (o := 4) C rfl dX10_setOut_27 rfl ?_
      refine g_aload_n (pc' := 31) C dX10_setOut_30 1 rfl rfl ?_
      refine gg_X10_12 (pc' := 34) (o := 0) (r := 1) C rfl rfl dX10_setOut_31 rfl ?_
      refine gg_X10_58 (pc' := 37) (o := 1) C rfl dX10_setOut_34 rfl ?_
      refine g_icmp_ge (pc' := 40) (tgt := 43) C dX10_setOut_37 (by decide) rfl (fun hc => ?_) (fun hc => ?_)
      · rw [if_pos hc] at h
        exact g_sub C [1, 2, 0] rfl (w_X10_setOut_B43 C hr hR _ _ h)
      · rw [if_neg hc] at h
        refine g_bipush (pc' := 42) (v := (-2)) C dX10_setOut_40 (by decide) rfl ?_
        exact g_iret C hr dX10_setOut_42 h
  · rw [if_pos hc] at h
    refine g_iconst (pc' := 9) (v := (-1)) C dX10_setOut_8 (by decide) rfl ?_
    exact g_iret C hr dX10_setOut_9 h
theorem c_X10_setOut (l : Launch) (base : Nat) (D : va_G) (cA : Nat → ClassId) (σ : cr_S) (a1 : Int32) (res : cr_S × Int32) (h : f_X10_setOut σ a1 = some res) : cr_M l yX10_setOut cX10_setOut 3 (some .int) 2 43 sfC 97 base D cA [.ref (base + 0), .int a1] σ (cr_Qi sfC 97 base D cA res) := by
  refine cr_enter [.ref (base + 0), .int a1] [(0, .ref (base + 0)), (1, .int a1)] (by decide) (Nat.le_of_ble_eq_true rfl) rfl ?_
  intro p e R s m below meth c C hr hR
  exact w_X10_setOut C hr hR σ a1 h
def f_X10_idle (σ : cr_S) (a1 : Int32) : Option (cr_S × Int32) :=
  Option.bind (f_X10_isWithin σ a1 1 99) (fun q1 => (if q1.2 = 0 then some (q1.1, (-1)) else (if ((rF q1.1 4 0) + a1) ≤ 9999 then Option.bind (f_X9_remember_1 q1.1) (fun q3 => cr_let (sF q3 4 0 ((rF q3 4 0) + a1)) (fun s5 => some (s5, rF s5 4 0))) else some (q1.1, (-3)))))
set_option maxRecDepth 100000 in
set_option maxHeartbeats 4000000 in
theorem w_X10_idle (C : cr_C p l e R s m args below meth c sfC 97 base D cA cX10_idle 2 RX10) (hr : meth.sig.returnType = some .int) (hR : 2 ≤ R.frames ∧ 42 ≤ R.locals) {res : cr_S × Int32} (σ : cr_S) (a1 : Int32) (h : f_X10_idle σ a1 = some res) : cr_W p l e R s m args below meth c sfC 97 base D cA 2 (MQ below (cr_Qi sfC 97 base D cA res) args s 0 0 (cr_A 97 base)) σ 0 [(0, .ref (base + 0)), (1, .int a1)] [] := by
  unfold f_X10_idle at h
  refine g_iload_n (pc' := 1) C dX10_idle_0 1 rfl rfl ?_
  refine g_iconst (pc' := 2) (v := 1) C dX10_idle_1 (by decide) rfl ?_
  refine g_bipush (pc' := 4) (v := 99) C dX10_idle_2 (by decide) rfl ?_
  obtain ⟨q1, h2, h⟩ := bind_some h
  refine g_callSi (pc' := 7) (res := q1) C [.int a1, .int 1, .int 99] cY_X10_isWithin mv_X10_isWithin mm_X10_54 ⟨Nat.le_trans (by decide) hR.1, Nat.le_trans (by decide) hR.2⟩ rfl (Nat.le_of_ble_eq_true rfl) rfl dX10_idle_4 (c_X10_isWithin l base D cA σ a1 1 99 q1 h2) rfl ?_
  refine g_if_ne (pc' := 10) (tgt := 12) C dX10_idle_7 (by decide) rfl (fun hc => ?_) (fun hc => ?_)
  · rw [if_neg hc] at h
    refine g_aload_n (pc' := 13) C dX10_idle_12 0 rfl rfl ?_
    refine gg_X10_12 (pc' := 16) (o := 0) (r := 1) C rfl rfl dX10_idle_13 rfl ?_
    refine gg_X10_149 (pc' := 19) (o := 1) (r := 4) C rfl rfl dX10_idle_16 rfl ?_
    refine gg_X10_153 (pc' := 22) (o := 4) C rfl dX10_idle_19 rfl ?_
    refine g_iload_n (pc' := 23) C dX10_idle_22 1 rfl rfl ?_
    refine g_iadd (pc' := 24) C dX10_idle_23 rfl ?_
    refine g_sipush (pc' := 27) (v := 9999) C dX10_idle_24 (by decide) rfl ?_
    refine g_icmp_le (pc' := 30) (tgt := 33) C dX10_idle_27 (by decide) rfl (fun hc => ?_) (fun hc => ?_)
    · rw [if_pos hc] at h
      refine g_aload_n (pc' := 34) C dX10_idle_33 0 rfl rfl ?_
      refine gg_X10_12 (pc' := 37) (o := 0) (r := 1) C rfl rfl dX10_idle_34 rfl ?_
      obtain ⟨q3, h4, h⟩ := bind_some h
      refine g_callVv (pc' := 40) (res := q3) C [] cY_X9_remember rfl (o := 1) (by decide) rfl mv_X9_remember mm_X10_177 ⟨Nat.le_trans (by decide) hR.1, Nat.le_trans (by decide) hR.2⟩ rfl (Nat.le_of_ble_eq_true rfl) rfl dX10_idle_37 (c_X9_remember_1 l base D cA q1.1 q3 h4) rfl ?_
      refine g_aload_n (pc' := 41) C dX10_idle_40 0 rfl rfl ?_
      refine gg_X10_12 (pc' := 44) (o := 0) (r := 1) C rfl rfl dX10_idle_41 rfl ?_
      refine gg_X10_149 (pc' := 47) (o := 1) (r := 4) C rfl rfl dX10_idle_44 rfl ?_
      refine g_dup (pc' := 48) C dX10_idle_47 rfl rfl ?_
      refine gg_X10_153 (pc' := 51) (o := 4) C rfl dX10_idle_48 rfl ?_
      refine g_iload_n (pc' := 52) C dX10_idle_51 1 rfl rfl ?_
      refine g_iadd (pc' := 53) C dX10_idle_52 rfl ?_
      obtain ⟨s5, e6, h⟩ := let_some h
      refine gp_X10_153 (pc' := 56) (o := 4) C rfl dX10_idle_53 rfl e6 ?_
      refine g_aload_n (pc' := 57) C dX10_idle_56 0 rfl rfl ?_
      refine gg_X10_12 (pc' := 60) (o := 0) (r := 1) C rfl rfl dX10_idle_57 rfl ?_
      refine gg_X10_149 (pc' := 63) (o := 1) (r := 4) C rfl rfl dX10_idle_60 rfl ?_
      refine gg_X10_153 (pc' := 66) (o := 4) C rfl dX10_idle_63 rfl ?_
      exact g_iret C hr dX10_idle_66 h
    · rw [if_neg hc] at h
      refine g_bipush (pc' := 32) (v := (-3)) C dX10_idle_30 (by decide) rfl ?_
      exact g_iret C hr dX10_idle_32 h
  · rw [if_pos hc] at h
    refine g_iconst (pc' := 11) (v := (-1)) C dX10_idle_10 (by decide) rfl ?_
    exact g_iret C hr dX10_idle_11 h
theorem c_X10_idle (l : Launch) (base : Nat) (D : va_G) (cA : Nat → ClassId) (σ : cr_S) (a1 : Int32) (res : cr_S × Int32) (h : f_X10_idle σ a1 = some res) : cr_M l yX10_idle cX10_idle 2 (some .int) 2 42 sfC 97 base D cA [.ref (base + 0), .int a1] σ (cr_Qi sfC 97 base D cA res) := by
  refine cr_enter [.ref (base + 0), .int a1] [(0, .ref (base + 0)), (1, .int a1)] (by decide) (Nat.le_of_ble_eq_true rfl) rfl ?_
  intro p e R s m below meth c C hr hR
  exact w_X10_idle C hr hR σ a1 h
def f_X10_secondsFor (σ : cr_S) (a0 : Int32) (a1 : Int32) : Option (cr_S × Int32) :=
  (if 1 ≤ a1 then chk (¬ a1 = 0) (some (σ, ((a0 + a1) - 1) / a1)) else some (σ, a0))
set_option maxRecDepth 100000 in
set_option maxHeartbeats 4000000 in
theorem w_X10_secondsFor (C : cr_C p l e R s m args below meth c sfC 97 base D cA cX10_secondsFor 2 RX10) (hr : meth.sig.returnType = some .int) (hR : 0 ≤ R.frames ∧ 0 ≤ R.locals) {res : cr_S × Int32} (σ : cr_S) (a0 : Int32) (a1 : Int32) (h : f_X10_secondsFor σ a0 a1 = some res) : cr_W p l e R s m args below meth c sfC 97 base D cA 2 (MQ below (cr_Qi sfC 97 base D cA res) args s 0 0 (cr_A 97 base)) σ 0 [(0, .int a0), (1, .int a1)] [] := by
  unfold f_X10_secondsFor at h
  refine g_iload_n (pc' := 1) C dX10_secondsFor_0 1 rfl rfl ?_
  refine g_iconst (pc' := 2) (v := 1) C dX10_secondsFor_1 (by decide) rfl ?_
  refine g_icmp_ge (pc' := 5) (tgt := 9) C dX10_secondsFor_2 (by decide) rfl (fun hc => ?_) (fun hc => ?_)
  · rw [if_pos hc] at h
    refine g_iload_n (pc' := 10) C dX10_secondsFor_9 0 rfl rfl ?_
    refine g_iload_n (pc' := 11) C dX10_secondsFor_10 1 rfl rfl ?_
    refine g_iadd (pc' := 12) C dX10_secondsFor_11 rfl ?_
    refine g_iconst (pc' := 13) (v := 1) C dX10_secondsFor_12 (by decide) rfl ?_
    refine g_isub (pc' := 14) C dX10_secondsFor_13 rfl ?_
    refine g_iload_n (pc' := 15) C dX10_secondsFor_14 1 rfl rfl ?_
    obtain ⟨h1, h⟩ := chk_some h
    refine g_idiv (pc' := 16) C dX10_secondsFor_15 h1 rfl ?_
    exact g_iret C hr dX10_secondsFor_16 h
  · rw [if_neg hc] at h
    refine g_iload_n (pc' := 6) C dX10_secondsFor_5 0 rfl rfl ?_
    refine g_goto (tgt := 16) C dX10_secondsFor_6 (by decide) ?_
    exact g_iret C hr dX10_secondsFor_16 h
theorem c_X10_secondsFor (l : Launch) (base : Nat) (D : va_G) (cA : Nat → ClassId) (σ : cr_S) (a0 : Int32) (a1 : Int32) (res : cr_S × Int32) (h : f_X10_secondsFor σ a0 a1 = some res) : cr_M l yX10_secondsFor cX10_secondsFor 2 (some .int) 0 0 sfC 97 base D cA [.int a0, .int a1] σ (cr_Qi sfC 97 base D cA res) := by
  refine cr_enter [.int a0, .int a1] [(0, .int a0), (1, .int a1)] (by decide) (Nat.le_of_ble_eq_true rfl) rfl ?_
  intro p e R s m below meth c C hr hR
  exact w_X10_secondsFor C hr hR σ a0 a1 h
def f_X3_firstShut_L3  : Nat → cr_S → Nat → Int32 → Int32 → Int32 → Option (cr_S × Int32)
  | 0, _, _, _, _, _ => none
  | n + 1, σ, x0, x2, x3, x4 =>
    (if x2 ≤ x4 then some (σ, x2) else Option.bind (f_X3_isOpenAt σ x0 x4 x3) (fun q1 => chk (kC x0 = 3) ((if q1.2 = 0 then some (q1.1, x4) else cr_let (x4 + 1) (fun v4 => f_X3_firstShut_L3 n q1.1 x0 x2 x3 v4)))))
set_option maxRecDepth 100000 in
set_option maxHeartbeats 4000000 in
theorem w_X3_firstShut_L3 (C : cr_C p l e R s m args below meth c sfC 97 base D cA cX3_firstShut 5 RX3) (hr : meth.sig.returnType = some .int) (hR : 2 ≤ R.frames ∧ 44 ≤ R.locals) {res : cr_S × Int32}  : ∀ (n : Nat) (σ : cr_S) (x0 : Nat) (x2 : Int32) (x3 : Int32) (x4 : Int32), f_X3_firstShut_L3 n σ x0 x2 x3 x4 = some res → cr_W p l e R s m args below meth c sfC 97 base D cA 5 (MQ below (cr_Qi sfC 97 base D cA res) args s 0 0 (cr_A 97 base)) σ 3 [(0, .ref (base + x0)), (2, .int x2), (3, .int x3), (4, .int x4)] [] := by
  intro n
  induction n with
  | zero =>
    intro σ x0 x2 x3 x4 h
    cases h
  | succ n ih =>
    intro σ x0 x2 x3 x4 h
    rw [f_X3_firstShut_L3] at h
    refine g_iload (pc' := 5) C dX3_firstShut_3 3 rfl rfl ?_
    refine g_iload_n (pc' := 6) C dX3_firstShut_5 1 rfl rfl ?_
    refine g_icmp_ge (pc' := 9) (tgt := 28) C dX3_firstShut_6 (by decide) rfl (fun hc => ?_) (fun hc => ?_)
    · rw [if_pos hc] at h
      refine g_iload_n (pc' := 29) C dX3_firstShut_28 1 rfl rfl ?_
      exact g_iret C hr dX3_firstShut_29 h
    · rw [if_neg hc] at h
      refine g_aload_n (pc' := 10) C dX3_firstShut_9 0 rfl rfl ?_
      refine g_iload (pc' := 12) C dX3_firstShut_10 3 rfl rfl ?_
      refine g_iload_n (pc' := 13) C dX3_firstShut_12 2 rfl rfl ?_
      obtain ⟨q1, h2, h⟩ := bind_some h
      obtain ⟨h3, h⟩ := chk_some h
      refine g_callVi (pc' := 16) (res := q1) C [.int x4, .int x3] cY_X3_isOpenAt rfl (o := x0) (kC_lt h3 (by decide)) (sfC_3 h3) mv_X3_isOpenAt mm_X3_31 ⟨Nat.le_trans (by decide) hR.1, Nat.le_trans (by decide) hR.2⟩ rfl (Nat.le_of_ble_eq_true rfl) rfl dX3_firstShut_13 (c_X3_isOpenAt l base D cA σ x0 x4 x3 q1 h2) rfl ?_
      refine g_if_ne (pc' := 19) (tgt := 22) C dX3_firstShut_16 (by decide) rfl (fun hc => ?_) (fun hc => ?_)
      · rw [if_neg hc] at h
        obtain ⟨v4, e5, h⟩ := let_some h
        refine g_iinc (pc' := 25) (v := v4) (lv' := [(4, .int v4), (0, .ref (base + x0)), (2, .int x2), (3, .int x3)]) C dX3_firstShut_22 3 rfl (by rw [e5]; rfl) (by decide) rfl rfl ?_
        refine g_goto (tgt := 3) C dX3_firstShut_25 (by decide) ?_
        exact g_sub C [1, 2, 3, 0] rfl (ih _ _ _ _ _ h)
      · rw [if_pos hc] at h
        refine g_iload (pc' := 21) C dX3_firstShut_19 3 rfl rfl ?_
        exact g_iret C hr dX3_firstShut_21 h
def f_X3_firstShut (σ : cr_S) (o0 : Nat) (a1 : Int32) (a2 : Int32) (a3 : Int32) : Option (cr_S × Int32) :=
  f_X3_firstShut_L3 cr_fuel σ o0 a2 a3 a1
set_option maxRecDepth 100000 in
set_option maxHeartbeats 4000000 in
theorem w_X3_firstShut (C : cr_C p l e R s m args below meth c sfC 97 base D cA cX3_firstShut 5 RX3) (hr : meth.sig.returnType = some .int) (hR : 2 ≤ R.frames ∧ 44 ≤ R.locals) {res : cr_S × Int32} (σ : cr_S) (o0 : Nat) (a1 : Int32) (a2 : Int32) (a3 : Int32) (h : f_X3_firstShut σ o0 a1 a2 a3 = some res) : cr_W p l e R s m args below meth c sfC 97 base D cA 5 (MQ below (cr_Qi sfC 97 base D cA res) args s 0 0 (cr_A 97 base)) σ 0 [(0, .ref (base + o0)), (1, .int a1), (2, .int a2), (3, .int a3)] [] := by
  unfold f_X3_firstShut at h
  refine g_iload_n (pc' := 1) C dX3_firstShut_0 1 rfl rfl ?_
  refine g_istore (pc' := 3) (lv' := [(4, .int a1), (0, .ref (base + o0)), (1, .int a1), (2, .int a2), (3, .int a3)]) C dX3_firstShut_1 (by decide) rfl rfl ?_
  exact g_sub C [1, 3, 4, 0] rfl (w_X3_firstShut_L3 C hr hR _ _ _ _ _ _ h)
theorem c_X3_firstShut (l : Launch) (base : Nat) (D : va_G) (cA : Nat → ClassId) (σ : cr_S) (o0 : Nat) (a1 : Int32) (a2 : Int32) (a3 : Int32) (res : cr_S × Int32) (h : f_X3_firstShut σ o0 a1 a2 a3 = some res) : cr_M l yX3_firstShut cX3_firstShut 5 (some .int) 2 44 sfC 97 base D cA [.ref (base + o0), .int a1, .int a2, .int a3] σ (cr_Qi sfC 97 base D cA res) := by
  refine cr_enter [.ref (base + o0), .int a1, .int a2, .int a3] [(0, .ref (base + o0)), (1, .int a1), (2, .int a2), (3, .int a3)] (by decide) (Nat.le_of_ble_eq_true rfl) rfl ?_
  intro p e R s m below meth c C hr hR
  exact w_X3_firstShut C hr hR σ o0 a1 a2 a3 h
def f_X0_goBetween_70 (σ : cr_S) (o1 : Nat) (o2 : Nat) (a3 : Int32) (a4 : Int32) : Option (cr_S × Int32) :=
  chk (kC o1 = 3) (Option.bind (f_X10_secondsFor σ (rF σ o1 1) a4) (fun q2 => cr_let (a3 + q2.2) (fun v4 => Option.bind (f_X6_span q2.1 o2) (fun q6 => chk (kC o2 = 6) (Option.bind (f_X10_secondsFor q6.1 q6.2 a4) (fun q9 => cr_let (v4 + q9.2) (fun v11 => chk (kC o1 = 3) (Option.bind (f_X3_firstShut q9.1 o1 v4 v11 (rF q9.1 o1 4)) (fun q14 => chk (kC o1 = 3) (cr_let q14.2 (fun v17 => (if (v11 - 1) ≤ v17 then cr_let (sF q14.1 70 5 v11) (fun s19 => some (s19, if v17 = v11 then 0 else 1)) else cr_let (sF q14.1 70 5 v17) (fun s21 => some (s21, 2))))))))))))))
set_option maxRecDepth 100000 in
set_option maxHeartbeats 4000000 in
theorem w_X0_goBetween_70 (C : cr_C p l e R s m args below meth c sfC 97 base D cA cX0_goBetween 8 RX0) (hr : meth.sig.returnType = some .int) (hR : 3 ≤ R.frames ∧ 68 ≤ R.locals) {res : cr_S × Int32} (σ : cr_S) (o1 : Nat) (o2 : Nat) (a3 : Int32) (a4 : Int32) (h : f_X0_goBetween_70 σ o1 o2 a3 a4 = some res) : cr_W p l e R s m args below meth c sfC 97 base D cA 8 (MQ below (cr_Qi sfC 97 base D cA res) args s 0 0 (cr_A 97 base)) σ 0 [(0, .ref (base + 70)), (1, .ref (base + o1)), (2, .ref (base + o2)), (3, .int a3), (4, .int a4)] [] := by
  unfold f_X0_goBetween_70 at h
  refine g_iload_n (pc' := 1) C dX0_goBetween_0 3 rfl rfl ?_
  refine g_aload_n (pc' := 2) C dX0_goBetween_1 1 rfl rfl ?_
  obtain ⟨h1, h⟩ := chk_some h
  refine gg_X0_25 (pc' := 5) (o := o1) C h1 dX0_goBetween_2 rfl ?_
  refine g_iload (pc' := 7) C dX0_goBetween_5 4 rfl rfl ?_
  obtain ⟨q2, h3, h⟩ := bind_some h
  refine g_callNi (pc' := 10) (res := q2) C [.int (rF σ o1 1), .int a4] cY_X10_secondsFor mv_X10_secondsFor mn_X0_30 ⟨Nat.le_trans (by decide) hR.1, Nat.le_trans (by decide) hR.2⟩ rfl (Nat.le_of_ble_eq_true rfl) rfl dX0_goBetween_7 (c_X10_secondsFor l base D cA σ (rF σ o1 1) a4 q2 h3) rfl ?_
  refine g_iadd (pc' := 11) C dX0_goBetween_10 rfl ?_
  obtain ⟨v4, e5, h⟩ := let_some h
  refine g_nameI e5 ?_
  refine g_istore (pc' := 13) (lv' := [(5, .int v4), (0, .ref (base + 70)), (1, .ref (base + o1)), (2, .ref (base + o2)), (3, .int a3), (4, .int a4)]) C dX0_goBetween_11 (by decide) rfl rfl ?_
  refine g_iload (pc' := 15) C dX0_goBetween_13 0 rfl rfl ?_
  refine g_aload_n (pc' := 16) C dX0_goBetween_15 3 rfl rfl ?_
  obtain ⟨q6, h7, h⟩ := bind_some h
  obtain ⟨h8, h⟩ := chk_some h
  refine g_callVi (pc' := 19) (res := q6) C [] cY_X6_span rfl (o := o2) (kC_lt h8 (by decide)) (sfC_6 h8) mv_X6_span mm_X0_34 ⟨Nat.le_trans (by decide) hR.1, Nat.le_trans (by decide) hR.2⟩ rfl (Nat.le_of_ble_eq_true rfl) rfl dX0_goBetween_16 (c_X6_span l base D cA q2.1 o2 q6 h7) rfl ?_
  refine g_iload (pc' := 21) C dX0_goBetween_19 5 rfl rfl ?_
  obtain ⟨q9, h10, h⟩ := bind_some h
  refine g_callNi (pc' := 24) (res := q9) C [.int q6.2, .int a4] cY_X10_secondsFor mv_X10_secondsFor mn_X0_30 ⟨Nat.le_trans (by decide) hR.1, Nat.le_trans (by decide) hR.2⟩ rfl (Nat.le_of_ble_eq_true rfl) rfl dX0_goBetween_21 (c_X10_secondsFor l base D cA q6.1 q6.2 a4 q9 h10) rfl ?_
  refine g_iadd (pc' := 25) C dX0_goBetween_24 rfl ?_
  obtain ⟨v11, e12, h⟩ := let_some h
  refine g_nameI e12 ?_
  refine g_istore (pc' := 27) (lv' := [(6, .int v11), (5, .int v4), (0, .ref (base + 70)), (1, .ref (base + o1)), (2, .ref (base + o2)), (3, .int a3), (4, .int a4)]) C dX0_goBetween_25 (by decide) rfl rfl ?_
  refine g_aload_n (pc' := 28) C dX0_goBetween_27 3 rfl rfl ?_
  refine g_iload (pc' := 30) C dX0_goBetween_28 1 rfl rfl ?_
  refine g_iload (pc' := 32) C dX0_goBetween_30 0 rfl rfl ?_
  refine g_aload_n (pc' := 33) C dX0_goBetween_32 3 rfl rfl ?_
  obtain ⟨h13, h⟩ := chk_some h
  refine gg_X0_40 (pc' := 36) (o := o1) C h13 dX0_goBetween_33 rfl ?_
  obtain ⟨q14, h15, h⟩ := bind_some h
  obtain ⟨h16, h⟩ := chk_some h
  refine g_callVi (pc' := 39) (res := q14) C [.int v4, .int v11, .int (rF q9.1 o1 4)] cY_X3_firstShut rfl (o := o1) (kC_lt h16 (by decide)) (sfC_3 h16) mv_X3_firstShut mm_X0_43 ⟨Nat.le_trans (by decide) hR.1, Nat.le_trans (by decide) hR.2⟩ rfl (Nat.le_of_ble_eq_true rfl) rfl dX0_goBetween_36 (c_X3_firstShut l base D cA q9.1 o1 v4 v11 (rF q9.1 o1 4) q14 h15) rfl ?_
  obtain ⟨v17, e18, h⟩ := let_some h
  refine g_nameI e18 ?_
  refine g_istore (pc' := 41) (lv' := [(7, .int v17), (6, .int v11), (5, .int v4), (0, .ref (base + 70)), (1, .ref (base + o1)), (2, .ref (base + o2)), (3, .int a3), (4, .int a4)]) C dX0_goBetween_39 (by decide) rfl rfl ?_
  refine g_iload (pc' := 43) C dX0_goBetween_41 0 rfl rfl ?_
  refine g_iload (pc' := 45) C dX0_goBetween_43 1 rfl rfl ?_
  refine g_iconst (pc' := 46) (v := 1) C dX0_goBetween_45 (by decide) rfl ?_
  refine g_isub (pc' := 47) C dX0_goBetween_46 rfl ?_
  refine g_icmp_ge (pc' := 50) (tgt := 58) C dX0_goBetween_47 (by decide) rfl (fun hc => ?_) (fun hc => ?_)
  · rw [if_pos hc] at h
    refine g_aload_n (pc' := 59) C dX0_goBetween_58 3 rfl rfl ?_
    refine g_iload (pc' := 61) C dX0_goBetween_59 1 rfl rfl ?_
    obtain ⟨s19, e20, h⟩ := let_some h
    refine gp_X0_47 (pc' := 64) (o := 70) C rfl dX0_goBetween_61 rfl e20 ?_
    refine g_iload (pc' := 66) C dX0_goBetween_64 0 rfl rfl ?_
    refine g_iload (pc' := 68) C dX0_goBetween_66 1 rfl rfl ?_
    refine g_iteI (σ := s19) (pj := 76) (lv := [(7, .int v17), (6, .int v11), (5, .int v4), (0, .ref (base + 70)), (1, .ref (base + o1)), (2, .ref (base + o2)), (3, .int a3), (4, .int a4)]) (st := []) (cd := v17 = v11) (a := 0) (b := 1) C ?_ (fun kt kf => ?_)
    · exact g_iret C hr dX0_goBetween_76 h
    · refine g_icmp_ne (pc' := 71) (tgt := 75) C dX0_goBetween_68 (by decide) rfl (fun hc => ?_) (fun hc => ?_)
      · refine g_iconst (pc' := 76) (v := 1) C dX0_goBetween_75 (by decide) rfl ?_
        exact kf hc
      · refine g_iconst (pc' := 72) (v := 0) C dX0_goBetween_71 (by decide) rfl ?_
        refine g_goto (tgt := 76) C dX0_goBetween_72 (by decide) ?_
        exact kt hc
  · rw [if_neg hc] at h
    refine g_aload_n (pc' := 51) C dX0_goBetween_50 3 rfl rfl ?_
    refine g_iload (pc' := 53) C dX0_goBetween_51 0 rfl rfl ?_
    obtain ⟨s21, e22, h⟩ := let_some h
    refine gp_X0_47 (pc' := 56) (o := 70) C rfl dX0_goBetween_53 rfl e22 ?_
    refine g_iconst (pc' := 57) (v := 2) C dX0_goBetween_56 (by decide) rfl ?_
    exact g_iret C hr dX0_goBetween_57 h
theorem c_X0_goBetween_70 (l : Launch) (base : Nat) (D : va_G) (cA : Nat → ClassId) (σ : cr_S) (o1 : Nat) (o2 : Nat) (a3 : Int32) (a4 : Int32) (res : cr_S × Int32) (h : f_X0_goBetween_70 σ o1 o2 a3 a4 = some res) : cr_M l yX0_goBetween cX0_goBetween 8 (some .int) 3 68 sfC 97 base D cA [.ref (base + 70), .ref (base + o1), .ref (base + o2), .int a3, .int a4] σ (cr_Qi sfC 97 base D cA res) := by
  refine cr_enter [.ref (base + 70), .ref (base + o1), .ref (base + o2), .int a3, .int a4] [(0, .ref (base + 70)), (1, .ref (base + o1)), (2, .ref (base + o2)), (3, .int a3), (4, .int a4)] (by decide) (Nat.le_of_ble_eq_true rfl) rfl ?_
  intro p e R s m below meth c C hr hR
  exact w_X0_goBetween_70 C hr hR σ o1 o2 a3 a4 h
def f_X10_pass_B164  (σ : cr_S) (x4 : Int32) (t0 : Int32) (t1 : Int32) : Option (cr_S × Int32) :=
  cr_let (sF σ 4 3 (t1 + t0)) (fun s25 => some (s25, x4))
set_option maxRecDepth 100000 in
set_option maxHeartbeats 4000000 in
theorem w_X10_pass_B164 (C : cr_C p l e R s m args below meth c sfC 97 base D cA cX10_pass 5 RX10) (hr : meth.sig.returnType = some .int) (hR : 4 ≤ R.frames ∧ 95 ≤ R.locals) {res : cr_S × Int32}  (σ : cr_S) (x4 : Int32) (t0 : Int32) (t1 : Int32) (h : f_X10_pass_B164 σ x4 t0 t1 = some res) : cr_W p l e R s m args below meth c sfC 97 base D cA 5 (MQ below (cr_Qi sfC 97 base D cA res) args s 0 0 (cr_A 97 base)) σ 164 [(4, .int x4)] [.int t0, .int t1, .ref (base + 4)] := by
  unfold f_X10_pass_B164 at h
  refine g_iadd (pc' := 165) C dX10_pass_164 rfl ?_
  obtain ⟨s25, e26, h⟩ := let_some h
  refine gp_X10_164 (pc' := 168) (o := 4) C rfl dX10_pass_165 rfl e26 ?_
  refine g_iload (pc' := 170) C dX10_pass_168 0 rfl rfl ?_
  exact g_iret C hr dX10_pass_170 h
def f_X10_pass (σ : cr_S) (a1 : Int32) : Option (cr_S × Int32) :=
  Option.bind (f_X10_isShip σ (rF σ 4 1)) (fun q1 => (if q1.2 = 0 then some (q1.1, (-2)) else Option.bind (f_X10_isPair q1.1 (rF q1.1 4 2)) (fun q3 => (if q3.2 = 0 then some (q3.1, (-2)) else chk (inb (rF q3.1 4 1) 5) (Option.bind (f_X6_low q3.1 (15 + (rF q3.1 4 1).toNatClampNeg)) (fun q6 => chk (kC (15 + (rF q3.1 4 1).toNatClampNeg) = 6) (Option.bind (f_X6_high q6.1 (15 + (rF q3.1 4 1).toNatClampNeg)) (fun q9 => chk (kC (15 + (rF q3.1 4 1).toNatClampNeg) = 6) (Option.bind (f_X10_isWithin q9.1 a1 q6.2 q9.2) (fun q12 => (if q12.2 = 0 then some (q12.1, (-1)) else chk (inb (rF q12.1 4 2) 6) (Option.bind (f_X0_goBetween_70 q12.1 (9 + (rF q12.1 4 2).toNatClampNeg) (15 + (rF q3.1 4 1).toNatClampNeg) (rF q12.1 4 0) a1) (fun q15 => cr_let q15.2 (fun v17 => (if (rF q15.1 70 5) ≤ 9999 then Option.bind (f_X9_remember_1 q15.1) (fun q19 => cr_let (sF q19 4 0 (rF q19 70 5)) (fun s21 => (if v17 = 2 then cr_let (sF s21 4 1 (-1)) (fun s27 => some (s27, v17)) else cr_let (sF s21 4 2 ((rF s21 4 2) + 1)) (fun s23 => f_X10_pass_B164 s23 v17 (if v17 = 1 then 1 else 0) (rF s23 4 3))))) else some (q15.1, (-3)))))))))))))))))
set_option maxRecDepth 100000 in
set_option maxHeartbeats 4000000 in
theorem w_X10_pass (C : cr_C p l e R s m args below meth c sfC 97 base D cA cX10_pass 5 RX10) (hr : meth.sig.returnType = some .int) (hR : 4 ≤ R.frames ∧ 95 ≤ R.locals) {res : cr_S × Int32} (σ : cr_S) (a1 : Int32) (h : f_X10_pass σ a1 = some res) : cr_W p l e R s m args below meth c sfC 97 base D cA 5 (MQ below (cr_Qi sfC 97 base D cA res) args s 0 0 (cr_A 97 base)) σ 0 [(0, .ref (base + 0)), (1, .int a1)] [] := by
  unfold f_X10_pass at h
  refine g_aload_n (pc' := 1) C dX10_pass_0 0 rfl rfl ?_
  refine gg_X10_12 (pc' := 4) (o := 0) (r := 1) C rfl rfl dX10_pass_1 rfl ?_
  refine gg_X10_149 (pc' := 7) (o := 1) (r := 4) C rfl rfl dX10_pass_4 rfl ?_
  refine g_astore_n (pc' := 8) (lv' := [(2, .ref (base + 4)), (0, .ref (base + 0)), (1, .int a1)]) C dX10_pass_7 rfl (by decide) rfl rfl ?_
  refine g_aload_n (pc' := 9) C dX10_pass_8 1 rfl rfl ?_
  refine g_aload_n (pc' := 10) C dX10_pass_9 0 rfl rfl ?_
  refine gg_X10_158 (pc' := 13) (o := 4) C rfl dX10_pass_10 rfl ?_
  obtain ⟨q1, h2, h⟩ := bind_some h
  refine g_callVi (pc' := 16) (res := q1) C [.int (rF σ 4 1)] cY_X10_isShip rfl (o := 0) (by decide) rfl mv_X10_isShip mm_X10_103 ⟨Nat.le_trans (by decide) hR.1, Nat.le_trans (by decide) hR.2⟩ rfl (Nat.le_of_ble_eq_true rfl) rfl dX10_pass_13 (c_X10_isShip l base D cA σ (rF σ 4 1) q1 h2) rfl ?_
  refine g_if_eq (pc' := 19) (tgt := 30) C dX10_pass_16 (by decide) rfl (fun hc => ?_) (fun hc => ?_)
  · rw [if_pos hc] at h
    refine g_bipush (pc' := 32) (v := (-2)) C dX10_pass_30 (by decide) rfl ?_
    exact g_iret C hr dX10_pass_32 h
  · rw [if_neg hc] at h
    refine g_aload_n (pc' := 20) C dX10_pass_19 1 rfl rfl ?_
    refine g_aload_n (pc' := 21) C dX10_pass_20 0 rfl rfl ?_
    refine gg_X10_161 (pc' := 24) (o := 4) C rfl dX10_pass_21 rfl ?_
    obtain ⟨q3, h4, h⟩ := bind_some h
    refine g_callVi (pc' := 27) (res := q3) C [.int (rF q1.1 4 2)] cY_X10_isPair rfl (o := 0) (by decide) rfl mv_X10_isPair mm_X10_72 ⟨Nat.le_trans (by decide) hR.1, Nat.le_trans (by decide) hR.2⟩ rfl (Nat.le_of_ble_eq_true rfl) rfl dX10_pass_24 (c_X10_isPair l base D cA q1.1 (rF q1.1 4 2) q3 h4) rfl ?_
    refine g_if_ne (pc' := 30) (tgt := 33) C dX10_pass_27 (by decide) rfl (fun hc => ?_) (fun hc => ?_)
    · rw [if_neg hc] at h
      refine g_aload_n (pc' := 34) C dX10_pass_33 1 rfl rfl ?_
      refine gg_X10_12 (pc' := 37) (o := 0) (r := 1) C rfl rfl dX10_pass_34 rfl ?_
      refine gg_X10_85 (pc' := 40) (o := 1) (r := 3) C rfl rfl dX10_pass_37 rfl ?_
      refine g_aload_n (pc' := 41) C dX10_pass_40 0 rfl rfl ?_
      refine gg_X10_158 (pc' := 44) (o := 4) C rfl dX10_pass_41 rfl ?_
      obtain ⟨h5, h⟩ := chk_some h
      refine g_aald (pc' := 45) C (o := 3) (by decide) rfl (cn := "ClashRocks$Ship") rfl h5 dX10_pass_44 rfl ?_
      refine g_astore_n (pc' := 46) (lv' := [(3, .ref (base + (15 + (rF q3.1 4 1).toNatClampNeg))), (2, .ref (base + 4)), (0, .ref (base + 0)), (1, .int a1)]) C dX10_pass_45 rfl (by decide) rfl rfl ?_
      refine g_iload_n (pc' := 47) C dX10_pass_46 3 rfl rfl ?_
      refine g_aload_n (pc' := 48) C dX10_pass_47 0 rfl rfl ?_
      obtain ⟨q6, h7, h⟩ := bind_some h
      obtain ⟨h8, h⟩ := chk_some h
      refine g_callVi (pc' := 51) (res := q6) C [] cY_X6_low rfl (o := 15 + (rF q3.1 4 1).toNatClampNeg) (kC_lt h8 (by decide)) (sfC_6 h8) mv_X6_low mm_X10_113 ⟨Nat.le_trans (by decide) hR.1, Nat.le_trans (by decide) hR.2⟩ rfl (Nat.le_of_ble_eq_true rfl) rfl dX10_pass_48 (c_X6_low l base D cA q3.1 (15 + (rF q3.1 4 1).toNatClampNeg) q6 h7) rfl ?_
      refine g_aload_n (pc' := 52) C dX10_pass_51 0 rfl rfl ?_
      obtain ⟨q9, h10, h⟩ := bind_some h
      obtain ⟨h11, h⟩ := chk_some h
      refine g_callVi (pc' := 55) (res := q9) C [] cY_X6_high rfl (o := 15 + (rF q3.1 4 1).toNatClampNeg) (kC_lt h11 (by decide)) (sfC_6 h11) mv_X6_high mm_X10_117 ⟨Nat.le_trans (by decide) hR.1, Nat.le_trans (by decide) hR.2⟩ rfl (Nat.le_of_ble_eq_true rfl) rfl dX10_pass_52 (c_X6_high l base D cA q6.1 (15 + (rF q3.1 4 1).toNatClampNeg) q9 h10) rfl ?_
      obtain ⟨q12, h13, h⟩ := bind_some h
      refine g_callSi (pc' := 58) (res := q12) C [.int a1, .int q6.2, .int q9.2] cY_X10_isWithin mv_X10_isWithin mm_X10_54 ⟨Nat.le_trans (by decide) hR.1, Nat.le_trans (by decide) hR.2⟩ rfl (Nat.le_of_ble_eq_true rfl) rfl dX10_pass_55 (c_X10_isWithin l base D cA q9.1 a1 q6.2 q9.2 q12 h13) rfl ?_
      refine g_if_ne (pc' := 61) (tgt := 63) C dX10_pass_58 (by decide) rfl (fun hc => ?_) (fun hc => ?_)
      · rw [if_neg hc] at h
        refine g_aload_n (pc' := 64) C dX10_pass_63 2 rfl rfl ?_
        refine gg_X10_29 (pc' := 67) (o := 0) (r := 70) C rfl rfl dX10_pass_64 rfl ?_
        refine g_aload_n (pc' := 68) C dX10_pass_67 2 rfl rfl ?_
        refine gg_X10_12 (pc' := 71) (o := 0) (r := 1) C rfl rfl dX10_pass_68 rfl ?_
        refine gg_X10_62 (pc' := 74) (o := 1) (r := 2) C rfl rfl dX10_pass_71 rfl ?_
        refine g_aload_n (pc' := 75) C dX10_pass_74 1 rfl rfl ?_
        refine gg_X10_161 (pc' := 78) (o := 4) C rfl dX10_pass_75 rfl ?_
        obtain ⟨h14, h⟩ := chk_some h
        refine g_aald (pc' := 79) C (o := 2) (by decide) rfl (cn := "ClashRocks$Pair") rfl h14 dX10_pass_78 rfl ?_
        refine g_aload_n (pc' := 80) C dX10_pass_79 0 rfl rfl ?_
        refine g_aload_n (pc' := 81) C dX10_pass_80 1 rfl rfl ?_
        refine gg_X10_153 (pc' := 84) (o := 4) C rfl dX10_pass_81 rfl ?_
        refine g_iload_n (pc' := 85) C dX10_pass_84 3 rfl rfl ?_
        obtain ⟨q15, h16, h⟩ := bind_some h
        refine g_callVi (pc' := 88) (res := q15) C [.ref (base + (9 + (rF q12.1 4 2).toNatClampNeg)), .ref (base + (15 + (rF q3.1 4 1).toNatClampNeg)), .int (rF q12.1 4 0), .int a1] cY_X0_goBetween rfl (o := 70) (by decide) rfl mv_X0_goBetween mm_X10_180 ⟨Nat.le_trans (by decide) hR.1, Nat.le_trans (by decide) hR.2⟩ rfl (Nat.le_of_ble_eq_true rfl) rfl dX10_pass_85 (c_X0_goBetween_70 l base D cA q12.1 (9 + (rF q12.1 4 2).toNatClampNeg) (15 + (rF q3.1 4 1).toNatClampNeg) (rF q12.1 4 0) a1 q15 h16) rfl ?_
        obtain ⟨v17, e18, h⟩ := let_some h
        refine g_nameI e18 ?_
        refine g_istore (pc' := 90) (lv' := [(4, .int v17), (3, .ref (base + (15 + (rF q3.1 4 1).toNatClampNeg))), (2, .ref (base + 4)), (0, .ref (base + 0)), (1, .int a1)]) C dX10_pass_88 (by decide) rfl rfl ?_
        refine g_aload_n (pc' := 91) C dX10_pass_90 3 rfl rfl ?_
        refine gg_X10_29 (pc' := 94) (o := 0) (r := 70) C rfl rfl dX10_pass_91 rfl ?_
        refine gg_X10_184 (pc' := 97) (o := 70) C rfl dX10_pass_94 rfl ?_
        refine g_sipush (pc' := 100) (v := 9999) C dX10_pass_97 (by decide) rfl ?_
        refine g_icmp_le (pc' := 103) (tgt := 106) C dX10_pass_100 (by decide) rfl (fun hc => ?_) (fun hc => ?_)
        · rw [if_pos hc] at h
          refine g_aload_n (pc' := 107) C dX10_pass_106 3 rfl rfl ?_
          refine gg_X10_12 (pc' := 110) (o := 0) (r := 1) C rfl rfl dX10_pass_107 rfl ?_
          obtain ⟨q19, h20, h⟩ := bind_some h
          refine g_callVv (pc' := 113) (res := q19) C [] cY_X9_remember rfl (o := 1) (by decide) rfl mv_X9_remember mm_X10_177 ⟨Nat.le_trans (by decide) hR.1, Nat.le_trans (by decide) hR.2⟩ rfl (Nat.le_of_ble_eq_true rfl) rfl dX10_pass_110 (c_X9_remember_1 l base D cA q15.1 q19 h20) rfl ?_
          refine g_aload_n (pc' := 114) C dX10_pass_113 2 rfl rfl ?_
          refine g_aload_n (pc' := 115) C dX10_pass_114 3 rfl rfl ?_
          refine gg_X10_29 (pc' := 118) (o := 0) (r := 70) C rfl rfl dX10_pass_115 rfl ?_
          refine gg_X10_184 (pc' := 121) (o := 70) C rfl dX10_pass_118 rfl ?_
          obtain ⟨s21, e22, h⟩ := let_some h
          refine gp_X10_153 (pc' := 124) (o := 4) C rfl dX10_pass_121 rfl e22 ?_
          refine g_iload (pc' := 126) C dX10_pass_124 0 rfl rfl ?_
          refine g_iconst (pc' := 127) (v := 2) C dX10_pass_126 (by decide) rfl ?_
          refine g_icmp_ne (pc' := 130) (tgt := 138) C dX10_pass_127 (by decide) rfl (fun hc => ?_) (fun hc => ?_)
          · rw [if_neg hc] at h
            refine g_aload_n (pc' := 139) C dX10_pass_138 2 rfl rfl ?_
            refine g_dup (pc' := 140) C dX10_pass_139 rfl rfl ?_
            refine gg_X10_161 (pc' := 143) (o := 4) C rfl dX10_pass_140 rfl ?_
            refine g_iconst (pc' := 144) (v := 1) C dX10_pass_143 (by decide) rfl ?_
            refine g_iadd (pc' := 145) C dX10_pass_144 rfl ?_
            obtain ⟨s23, e24, h⟩ := let_some h
            refine gp_X10_161 (pc' := 148) (o := 4) C rfl dX10_pass_145 rfl e24 ?_
            refine g_aload_n (pc' := 149) C dX10_pass_148 2 rfl rfl ?_
            refine g_dup (pc' := 150) C dX10_pass_149 rfl rfl ?_
            refine gg_X10_164 (pc' := 153) (o := 4) C rfl dX10_pass_150 rfl ?_
            refine g_iload (pc' := 155) C dX10_pass_153 0 rfl rfl ?_
            refine g_iconst (pc' := 156) (v := 1) C dX10_pass_155 (by decide) rfl ?_
            refine g_iteI (σ := s23) (pj := 164) (lv := [(4, .int v17), (3, .ref (base + (15 + (rF q3.1 4 1).toNatClampNeg))), (2, .ref (base + 4)), (0, .ref (base + 0)), (1, .int a1)]) (st := [.int (rF s23 4 3), .ref (base + 4)]) (cd := v17 = 1) (a := 1) (b := 0) C ?_ (fun kt kf => ?_)
            · exact g_sub C [0] rfl (w_X10_pass_B164 C hr hR _ _ _ _ h)
            · refine g_icmp_ne (pc' := 159) (tgt := 163) C dX10_pass_156 (by decide) rfl (fun hc => ?_) (fun hc => ?_)
              · refine g_iconst (pc' := 164) (v := 0) C dX10_pass_163 (by decide) rfl ?_
                exact kf hc
              · refine g_iconst (pc' := 160) (v := 1) C dX10_pass_159 (by decide) rfl ?_
                refine g_goto (tgt := 164) C dX10_pass_160 (by decide) ?_
                exact kt hc
          · rw [if_pos hc] at h
            refine g_aload_n (pc' := 131) C dX10_pass_130 2 rfl rfl ?_
            refine g_iconst (pc' := 132) (v := (-1)) C dX10_pass_131 (by decide) rfl ?_
            obtain ⟨s27, e28, h⟩ := let_some h
            refine gp_X10_158 (pc' := 135) (o := 4) C rfl dX10_pass_132 rfl e28 ?_
            refine g_goto (tgt := 168) C dX10_pass_135 (by decide) ?_
            refine g_iload (pc' := 170) C dX10_pass_168 0 rfl rfl ?_
            exact g_iret C hr dX10_pass_170 h
        · rw [if_neg hc] at h
          refine g_bipush (pc' := 105) (v := (-3)) C dX10_pass_103 (by decide) rfl ?_
          exact g_iret C hr dX10_pass_105 h
      · rw [if_pos hc] at h
        refine g_iconst (pc' := 62) (v := (-1)) C dX10_pass_61 (by decide) rfl ?_
        exact g_iret C hr dX10_pass_62 h
    · rw [if_pos hc] at h
      refine g_bipush (pc' := 32) (v := (-2)) C dX10_pass_30 (by decide) rfl ?_
      exact g_iret C hr dX10_pass_32 h
theorem c_X10_pass (l : Launch) (base : Nat) (D : va_G) (cA : Nat → ClassId) (σ : cr_S) (a1 : Int32) (res : cr_S × Int32) (h : f_X10_pass σ a1 = some res) : cr_M l yX10_pass cX10_pass 5 (some .int) 4 95 sfC 97 base D cA [.ref (base + 0), .int a1] σ (cr_Qi sfC 97 base D cA res) := by
  refine cr_enter [.ref (base + 0), .int a1] [(0, .ref (base + 0)), (1, .int a1)] (by decide) (Nat.le_of_ble_eq_true rfl) rfl ?_
  intro p e R s m below meth c C hr hR
  exact w_X10_pass C hr hR σ a1 h
def f_X9_recall_1 (σ : cr_S) : Option (cr_S × Int32) :=
  (if 0 < (rF σ 1 7) then cr_let (sF σ 1 7 ((rF σ 1 7) - 1)) (fun s1 => chk (inb (rF s1 1 7) 8) (Option.bind (f_X8_take s1 4 (20 + (rF s1 1 7).toNatClampNeg)) (fun q4 => some (q4, 1)))) else some (σ, 0))
set_option maxRecDepth 100000 in
set_option maxHeartbeats 4000000 in
theorem w_X9_recall_1 (C : cr_C p l e R s m args below meth c sfC 97 base D cA cX9_recall 1 RX9) (hr : meth.sig.returnType = some .boolean) (hR : 1 ≤ R.frames ∧ 21 ≤ R.locals) {res : cr_S × Int32} (σ : cr_S) (h : f_X9_recall_1 σ = some res) : cr_W p l e R s m args below meth c sfC 97 base D cA 1 (MQ below (cr_Qi sfC 97 base D cA res) args s 0 0 (cr_A 97 base)) σ 0 [(0, .ref (base + 1))] [] := by
  unfold f_X9_recall_1 at h
  refine g_aload_n (pc' := 1) C dX9_recall_0 0 rfl rfl ?_
  refine gg_X9_61 (pc' := 4) (o := 1) C rfl dX9_recall_1 rfl ?_
  refine g_if_gt (pc' := 7) (tgt := 9) C dX9_recall_4 (by decide) rfl (fun hc => ?_) (fun hc => ?_)
  · rw [if_pos hc] at h
    refine g_aload_n (pc' := 10) C dX9_recall_9 0 rfl rfl ?_
    refine g_dup (pc' := 11) C dX9_recall_10 rfl rfl ?_
    refine gg_X9_61 (pc' := 14) (o := 1) C rfl dX9_recall_11 rfl ?_
    refine g_iconst (pc' := 15) (v := 1) C dX9_recall_14 (by decide) rfl ?_
    refine g_isub (pc' := 16) C dX9_recall_15 rfl ?_
    obtain ⟨s1, e2, h⟩ := let_some h
    refine gp_X9_61 (pc' := 19) (o := 1) C rfl dX9_recall_16 rfl e2 ?_
    refine g_aload_n (pc' := 20) C dX9_recall_19 0 rfl rfl ?_
    refine gg_X9_26 (pc' := 23) (o := 1) (r := 4) C rfl rfl dX9_recall_20 rfl ?_
    refine g_aload_n (pc' := 24) C dX9_recall_23 0 rfl rfl ?_
    refine gg_X9_30 (pc' := 27) (o := 1) (r := 5) C rfl rfl dX9_recall_24 rfl ?_
    refine g_aload_n (pc' := 28) C dX9_recall_27 0 rfl rfl ?_
    refine gg_X9_61 (pc' := 31) (o := 1) C rfl dX9_recall_28 rfl ?_
    obtain ⟨h3, h⟩ := chk_some h
    refine g_aald (pc' := 32) C (o := 5) (by decide) rfl (cn := "ClashRocks$Voyage") rfl h3 dX9_recall_31 rfl ?_
    obtain ⟨q4, h5, h⟩ := bind_some h
    refine g_callVv (pc' := 35) (res := q4) C [.ref (base + (20 + (rF s1 1 7).toNatClampNeg))] cY_X8_take rfl (o := 4) (by decide) rfl mv_X8_take mm_X9_57 ⟨Nat.le_trans (by decide) hR.1, Nat.le_trans (by decide) hR.2⟩ rfl (Nat.le_of_ble_eq_true rfl) rfl dX9_recall_32 (c_X8_take l base D cA s1 4 (20 + (rF s1 1 7).toNatClampNeg) q4 h5) rfl ?_
    refine g_iconst (pc' := 36) (v := 1) C dX9_recall_35 (by decide) rfl ?_
    exact g_zret C hr rfl dX9_recall_36 h
  · rw [if_neg hc] at h
    refine g_iconst (pc' := 8) (v := 0) C dX9_recall_7 (by decide) rfl ?_
    exact g_zret C hr rfl dX9_recall_8 h
theorem c_X9_recall_1 (l : Launch) (base : Nat) (D : va_G) (cA : Nat → ClassId) (σ : cr_S) (res : cr_S × Int32) (h : f_X9_recall_1 σ = some res) : cr_M l yX9_recall cX9_recall 1 (some .boolean) 1 21 sfC 97 base D cA [.ref (base + 1)] σ (cr_Qi sfC 97 base D cA res) := by
  refine cr_enter [.ref (base + 1)] [(0, .ref (base + 1))] (by decide) (Nat.le_of_ble_eq_true rfl) rfl ?_
  intro p e R s m below meth c C hr hR
  exact w_X9_recall_1 C hr hR σ h
def f_X10_undo (σ : cr_S) : Option (cr_S × Int32) :=
  Option.bind (f_X9_recall_1 σ) (fun q1 => some (q1.1, if q1.2 = 0 then (-4) else rF q1.1 1 7))
set_option maxRecDepth 100000 in
set_option maxHeartbeats 4000000 in
theorem w_X10_undo (C : cr_C p l e R s m args below meth c sfC 97 base D cA cX10_undo 1 RX10) (hr : meth.sig.returnType = some .int) (hR : 2 ≤ R.frames ∧ 41 ≤ R.locals) {res : cr_S × Int32} (σ : cr_S) (h : f_X10_undo σ = some res) : cr_W p l e R s m args below meth c sfC 97 base D cA 1 (MQ below (cr_Qi sfC 97 base D cA res) args s 0 0 (cr_A 97 base)) σ 0 [(0, .ref (base + 0))] [] := by
  unfold f_X10_undo at h
  refine g_aload_n (pc' := 1) C dX10_undo_0 0 rfl rfl ?_
  refine gg_X10_12 (pc' := 4) (o := 0) (r := 1) C rfl rfl dX10_undo_1 rfl ?_
  obtain ⟨q1, h2, h⟩ := bind_some h
  refine g_callVi (pc' := 7) (res := q1) C [] cY_X9_recall rfl (o := 1) (by decide) rfl mv_X9_recall mm_X10_187 ⟨Nat.le_trans (by decide) hR.1, Nat.le_trans (by decide) hR.2⟩ rfl (Nat.le_of_ble_eq_true rfl) rfl dX10_undo_4 (c_X9_recall_1 l base D cA σ q1 h2) rfl ?_
  refine g_iteI (σ := q1.1) (pj := 22) (lv := [(0, .ref (base + 0))]) (st := []) (cd := q1.2 = 0) (a := (-4)) (b := rF q1.1 1 7) C ?_ (fun kt kf => ?_)
  · exact g_iret C hr dX10_undo_22 h
  · refine g_if_eq (pc' := 10) (tgt := 20) C dX10_undo_7 (by decide) rfl (fun hc => ?_) (fun hc => ?_)
    · refine g_bipush (pc' := 22) (v := (-4)) C dX10_undo_20 (by decide) rfl ?_
      exact kt hc
    · refine g_aload_n (pc' := 11) C dX10_undo_10 0 rfl rfl ?_
      refine gg_X10_12 (pc' := 14) (o := 0) (r := 1) C rfl rfl dX10_undo_11 rfl ?_
      refine gg_X10_167 (pc' := 17) (o := 1) C rfl dX10_undo_14 rfl ?_
      refine g_goto (tgt := 22) C dX10_undo_17 (by decide) ?_
      exact kf hc
theorem c_X10_undo (l : Launch) (base : Nat) (D : va_G) (cA : Nat → ClassId) (σ : cr_S) (res : cr_S × Int32) (h : f_X10_undo σ = some res) : cr_M l yX10_undo cX10_undo 1 (some .int) 2 41 sfC 97 base D cA [.ref (base + 0)] σ (cr_Qi sfC 97 base D cA res) := by
  refine cr_enter [.ref (base + 0)] [(0, .ref (base + 0))] (by decide) (Nat.le_of_ble_eq_true rfl) rfl ?_
  intro p e R s m below meth c C hr hR
  exact w_X10_undo C hr hR σ h
def f_X10_seed (σ : cr_S) (a1 : Int32) : Option (cr_S × Int32) :=
  (if 0 ≤ a1 then cr_let (rF σ 1 8) (fun v1 => cr_let (sF σ 1 8 a1) (fun s3 => some (s3, v1))) else some (σ, (-1)))
set_option maxRecDepth 100000 in
set_option maxHeartbeats 4000000 in
theorem w_X10_seed (C : cr_C p l e R s m args below meth c sfC 97 base D cA cX10_seed 3 RX10) (hr : meth.sig.returnType = some .int) (hR : 0 ≤ R.frames ∧ 0 ≤ R.locals) {res : cr_S × Int32} (σ : cr_S) (a1 : Int32) (h : f_X10_seed σ a1 = some res) : cr_W p l e R s m args below meth c sfC 97 base D cA 3 (MQ below (cr_Qi sfC 97 base D cA res) args s 0 0 (cr_A 97 base)) σ 0 [(0, .ref (base + 0)), (1, .int a1)] [] := by
  unfold f_X10_seed at h
  refine g_iload_n (pc' := 1) C dX10_seed_0 1 rfl rfl ?_
  refine g_if_ge (pc' := 4) (tgt := 6) C dX10_seed_1 (by decide) rfl (fun hc => ?_) (fun hc => ?_)
  · rw [if_pos hc] at h
    refine g_aload_n (pc' := 7) C dX10_seed_6 0 rfl rfl ?_
    refine gg_X10_12 (pc' := 10) (o := 0) (r := 1) C rfl rfl dX10_seed_7 rfl ?_
    refine gg_X10_190 (pc' := 13) (o := 1) C rfl dX10_seed_10 rfl ?_
    obtain ⟨v1, e2, h⟩ := let_some h
    refine g_nameI e2 ?_
    refine g_istore_n (pc' := 14) (lv' := [(2, .int v1), (0, .ref (base + 0)), (1, .int a1)]) C dX10_seed_13 rfl (by decide) rfl rfl ?_
    refine g_aload_n (pc' := 15) C dX10_seed_14 1 rfl rfl ?_
    refine gg_X10_12 (pc' := 18) (o := 0) (r := 1) C rfl rfl dX10_seed_15 rfl ?_
    refine g_iload_n (pc' := 19) C dX10_seed_18 2 rfl rfl ?_
    obtain ⟨s3, e4, h⟩ := let_some h
    refine gp_X10_190 (pc' := 22) (o := 1) C rfl dX10_seed_19 rfl e4 ?_
    refine g_iload_n (pc' := 23) C dX10_seed_22 0 rfl rfl ?_
    exact g_iret C hr dX10_seed_23 h
  · rw [if_neg hc] at h
    refine g_iconst (pc' := 5) (v := (-1)) C dX10_seed_4 (by decide) rfl ?_
    exact g_iret C hr dX10_seed_5 h
theorem c_X10_seed (l : Launch) (base : Nat) (D : va_G) (cA : Nat → ClassId) (σ : cr_S) (a1 : Int32) (res : cr_S × Int32) (h : f_X10_seed σ a1 = some res) : cr_M l yX10_seed cX10_seed 3 (some .int) 0 0 sfC 97 base D cA [.ref (base + 0), .int a1] σ (cr_Qi sfC 97 base D cA res) := by
  refine cr_enter [.ref (base + 0), .int a1] [(0, .ref (base + 0)), (1, .int a1)] (by decide) (Nat.le_of_ble_eq_true rfl) rfl ?_
  intro p e R s m below meth c C hr hR
  exact w_X10_seed C hr hR σ a1 h
def f_X9_drawn_1 (σ : cr_S) : Option (cr_S × Int32) :=
  cr_let (sF σ 1 8 ((((rF σ 1 8) * 1103515245) + 12345) &&& 2147483647)) (fun s1 => some (s1, (rF s1 1 8) / 65536))
set_option maxRecDepth 100000 in
set_option maxHeartbeats 4000000 in
theorem w_X9_drawn_1 (C : cr_C p l e R s m args below meth c sfC 97 base D cA cX9_drawn 1 RX9) (hr : meth.sig.returnType = some .int) (hR : 0 ≤ R.frames ∧ 0 ≤ R.locals) {res : cr_S × Int32} (σ : cr_S) (h : f_X9_drawn_1 σ = some res) : cr_W p l e R s m args below meth c sfC 97 base D cA 1 (MQ below (cr_Qi sfC 97 base D cA res) args s 0 0 (cr_A 97 base)) σ 0 [(0, .ref (base + 1))] [] := by
  unfold f_X9_drawn_1 at h
  refine g_aload_n (pc' := 1) C dX9_drawn_0 0 rfl rfl ?_
  refine g_aload_n (pc' := 2) C dX9_drawn_1 0 rfl rfl ?_
  refine gg_X9_41 (pc' := 5) (o := 1) C rfl dX9_drawn_2 rfl ?_
  refine g_ldc (pc' := 7) (v := 1103515245) C dX9_drawn_5 mk_X9_82 rfl ?_
  refine g_imul (pc' := 8) C dX9_drawn_7 rfl ?_
  refine g_sipush (pc' := 11) (v := 12345) C dX9_drawn_8 (by decide) rfl ?_
  refine g_iadd (pc' := 12) C dX9_drawn_11 rfl ?_
  refine g_ldc (pc' := 14) (v := 2147483647) C dX9_drawn_12 mk_X9_83 rfl ?_
  refine g_iand (pc' := 15) C dX9_drawn_14 rfl ?_
  obtain ⟨s1, e2, h⟩ := let_some h
  refine gp_X9_41 (pc' := 18) (o := 1) C rfl dX9_drawn_15 rfl e2 ?_
  refine g_aload_n (pc' := 19) C dX9_drawn_18 0 rfl rfl ?_
  refine gg_X9_41 (pc' := 22) (o := 1) C rfl dX9_drawn_19 rfl ?_
  refine g_ldc (pc' := 24) (v := 65536) C dX9_drawn_22 mk_X9_84 rfl ?_
  refine g_idiv (pc' := 25) C dX9_drawn_24 (by decide) rfl ?_
  exact g_iret C hr dX9_drawn_25 h
theorem c_X9_drawn_1 (l : Launch) (base : Nat) (D : va_G) (cA : Nat → ClassId) (σ : cr_S) (res : cr_S × Int32) (h : f_X9_drawn_1 σ = some res) : cr_M l yX9_drawn cX9_drawn 1 (some .int) 0 0 sfC 97 base D cA [.ref (base + 1)] σ (cr_Qi sfC 97 base D cA res) := by
  refine cr_enter [.ref (base + 1)] [(0, .ref (base + 1))] (by decide) (Nat.le_of_ble_eq_true rfl) rfl ?_
  intro p e R s m below meth c C hr hR
  exact w_X9_drawn_1 C hr hR σ h
def f_J7_fill_53178_71_L5  : Nat → cr_S → Int32 → Int32 → Int32 → Option (cr_S)
  | 0, _, _, _, _ => none
  | n + 1, σ, x1, x2, x3 =>
    (if x3 ≤ x2 then some σ else chk (inb x2 6) (cr_let (sA σ 71 x2 x1) (fun s2 => cr_let (x2 + 1) (fun v4 => f_J7_fill_53178_71_L5 n s2 x1 v4 x3))))
set_option maxRecDepth 100000 in
set_option maxHeartbeats 4000000 in
theorem w_J7_fill_53178_71_L5 (C : cr_C p l e R s m args below meth c sfC 97 base D cA cJ7_fill_53178 4 RJ7) (hr : meth.sig.returnType = none) (hR : 0 ≤ R.frames ∧ 0 ≤ R.locals) {res : cr_S}  : ∀ (n : Nat) (σ : cr_S) (x1 : Int32) (x2 : Int32) (x3 : Int32), f_J7_fill_53178_71_L5 n σ x1 x2 x3 = some res → cr_W p l e R s m args below meth c sfC 97 base D cA 4 (MQ below (cr_Qv sfC 97 base D cA res) args s 0 0 (cr_A 97 base)) σ 5 [(0, .ref (base + 71)), (1, .int x1), (2, .int x2), (3, .int x3)] [] := by
  intro n
  induction n with
  | zero =>
    intro σ x1 x2 x3 h
    cases h
  | succ n ih =>
    intro σ x1 x2 x3 h
    rw [f_J7_fill_53178_71_L5] at h
    refine g_iload_n (pc' := 6) C dJ7_fill_53178_5 2 rfl rfl ?_
    refine g_iload_n (pc' := 7) C dJ7_fill_53178_6 3 rfl rfl ?_
    refine g_icmp_ge (pc' := 10) (tgt := 20) C dJ7_fill_53178_7 (by decide) rfl (fun hc => ?_) (fun hc => ?_)
    · rw [if_pos hc] at h
      exact g_vret C hr dJ7_fill_53178_20 h
    · rw [if_neg hc] at h
      refine g_aload_n (pc' := 11) C dJ7_fill_53178_10 0 rfl rfl ?_
      refine g_iload_n (pc' := 12) C dJ7_fill_53178_11 2 rfl rfl ?_
      refine g_iload_n (pc' := 13) C dJ7_fill_53178_12 1 rfl rfl ?_
      obtain ⟨h1, h⟩ := chk_some h
      obtain ⟨s2, e3, h⟩ := let_some h
      refine g_iast (pc' := 14) C (o := 71) (by decide) rfl h1 dJ7_fill_53178_13 rfl e3 ?_
      obtain ⟨v4, e5, h⟩ := let_some h
      refine g_iinc (pc' := 17) (v := v4) (lv' := [(2, .int v4), (0, .ref (base + 71)), (1, .int x1), (3, .int x3)]) C dJ7_fill_53178_14 2 rfl (by rw [e5]; rfl) (by decide) rfl rfl ?_
      refine g_goto (tgt := 5) C dJ7_fill_53178_17 (by decide) ?_
      exact g_sub C [1, 2, 0, 3] rfl (ih _ _ _ _ h)
def f_J7_fill_53178_71 (σ : cr_S) (a1 : Int32) : Option (cr_S) :=
  f_J7_fill_53178_71_L5 cr_fuel σ a1 0 6
set_option maxRecDepth 100000 in
set_option maxHeartbeats 4000000 in
theorem w_J7_fill_53178_71 (C : cr_C p l e R s m args below meth c sfC 97 base D cA cJ7_fill_53178 4 RJ7) (hr : meth.sig.returnType = none) (hR : 0 ≤ R.frames ∧ 0 ≤ R.locals) {res : cr_S} (σ : cr_S) (a1 : Int32) (h : f_J7_fill_53178_71 σ a1 = some res) : cr_W p l e R s m args below meth c sfC 97 base D cA 4 (MQ below (cr_Qv sfC 97 base D cA res) args s 0 0 (cr_A 97 base)) σ 0 [(0, .ref (base + 71)), (1, .int a1)] [] := by
  unfold f_J7_fill_53178_71 at h
  refine g_iconst (pc' := 1) (v := 0) C dJ7_fill_53178_0 (by decide) rfl ?_
  refine g_istore_n (pc' := 2) (lv' := [(2, .int 0), (0, .ref (base + 71)), (1, .int a1)]) C dJ7_fill_53178_1 rfl (by decide) rfl rfl ?_
  refine g_aload_n (pc' := 3) C dJ7_fill_53178_2 1 rfl rfl ?_
  refine g_alenI (pc' := 4) (v := 6) C (o := 71) (by decide) rfl rfl (by decide) dJ7_fill_53178_3 rfl ?_
  refine g_istore_n (pc' := 5) (lv' := [(3, .int 6), (2, .int 0), (0, .ref (base + 71)), (1, .int a1)]) C dJ7_fill_53178_4 rfl (by decide) rfl rfl ?_
  exact g_sub C [2, 3, 1, 0] rfl (w_J7_fill_53178_71_L5 C hr hR _ _ _ _ _ h)
theorem c_J7_fill_53178_71 (l : Launch) (base : Nat) (D : va_G) (cA : Nat → ClassId) (σ : cr_S) (a1 : Int32) (res : cr_S) (h : f_J7_fill_53178_71 σ a1 = some res) : cr_M l yJ7_fill_53178 cJ7_fill_53178 4 none 0 0 sfC 97 base D cA [.ref (base + 71), .int a1] σ (cr_Qv sfC 97 base D cA res) := by
  refine cr_enter [.ref (base + 71), .int a1] [(0, .ref (base + 71)), (1, .int a1)] (by decide) (Nat.le_of_ble_eq_true rfl) rfl ?_
  intro p e R s m below meth c C hr hR
  exact w_J7_fill_53178_71 C hr hR σ a1 h
def f_X0_go_70_1_B99 (r19 : cr_S → Nat → Int32 → Option (cr_S)) (σ : cr_S) (x2 : Nat) (x4 : Int32) (t0 : Int32) : Option (cr_S) :=
  cr_let (sF σ 70 3 t0) (fun s15 => cr_let (x4 + 1) (fun v17 => r19 s15 x2 v17))
set_option maxRecDepth 100000 in
set_option maxHeartbeats 4000000 in
theorem w_X0_go_70_1_B99 (C : cr_C p l e R s m args below meth c sfC 97 base D cA cX0_go 6 RX0) (hr : meth.sig.returnType = none) (hR : 4 ≤ R.frames ∧ 95 ≤ R.locals) {res : cr_S} (r19 : cr_S → Nat → Int32 → Option (cr_S)) (hr19 : ∀ (σ : cr_S) (x2 : Nat) (x4 : Int32), r19 σ x2 x4 = some res → cr_W p l e R s m args below meth c sfC 97 base D cA 6 (MQ below (cr_Qv sfC 97 base D cA res) args s 0 0 (cr_A 97 base)) σ 19 [(0, .ref (base + 70)), (1, .ref (base + 1)), (2, .ref (base + x2)), (4, .int x4)] []) (σ : cr_S) (x2 : Nat) (x4 : Int32) (t0 : Int32) (h : f_X0_go_70_1_B99 r19 σ x2 x4 t0 = some res) : cr_W p l e R s m args below meth c sfC 97 base D cA 6 (MQ below (cr_Qv sfC 97 base D cA res) args s 0 0 (cr_A 97 base)) σ 99 [(0, .ref (base + 70)), (1, .ref (base + 1)), (2, .ref (base + x2)), (4, .int x4)] [.int t0, .ref (base + 70)] := by
  unfold f_X0_go_70_1_B99 at h
  obtain ⟨s15, e16, h⟩ := let_some h
  refine gp_X0_21 (pc' := 102) (o := 70) C rfl dX0_go_99 rfl e16 ?_
  obtain ⟨v17, e18, h⟩ := let_some h
  refine g_iinc (pc' := 105) (v := v17) (lv' := [(4, .int v17), (0, .ref (base + 70)), (1, .ref (base + 1)), (2, .ref (base + x2))]) C dX0_go_102 3 rfl (by rw [e18]; rfl) (by decide) rfl rfl ?_
  refine g_goto (tgt := 19) C dX0_go_105 (by decide) ?_
  exact g_sub C [1, 2, 3, 0] rfl (hr19 _ _ _ h)
def f_X0_go_70_1_B81 (r19 : cr_S → Nat → Int32 → Option (cr_S)) (σ : cr_S) (x2 : Nat) (x4 : Int32) (x5 : Int32) (t0 : Int32) (t1 : Int32) : Option (cr_S) :=
  cr_let (sF σ 70 4 (t1 ||| t0)) (fun s13 => f_X0_go_70_1_B99 r19 s13 x2 x4 (if x5 = 2 then x4 else (-4)))
set_option maxRecDepth 100000 in
set_option maxHeartbeats 4000000 in
theorem w_X0_go_70_1_B81 (C : cr_C p l e R s m args below meth c sfC 97 base D cA cX0_go 6 RX0) (hr : meth.sig.returnType = none) (hR : 4 ≤ R.frames ∧ 95 ≤ R.locals) {res : cr_S} (r19 : cr_S → Nat → Int32 → Option (cr_S)) (hr19 : ∀ (σ : cr_S) (x2 : Nat) (x4 : Int32), r19 σ x2 x4 = some res → cr_W p l e R s m args below meth c sfC 97 base D cA 6 (MQ below (cr_Qv sfC 97 base D cA res) args s 0 0 (cr_A 97 base)) σ 19 [(0, .ref (base + 70)), (1, .ref (base + 1)), (2, .ref (base + x2)), (4, .int x4)] []) (σ : cr_S) (x2 : Nat) (x4 : Int32) (x5 : Int32) (t0 : Int32) (t1 : Int32) (h : f_X0_go_70_1_B81 r19 σ x2 x4 x5 t0 t1 = some res) : cr_W p l e R s m args below meth c sfC 97 base D cA 6 (MQ below (cr_Qv sfC 97 base D cA res) args s 0 0 (cr_A 97 base)) σ 81 [(0, .ref (base + 70)), (1, .ref (base + 1)), (2, .ref (base + x2)), (4, .int x4), (5, .int x5)] [.int t0, .int t1, .ref (base + 70)] := by
  unfold f_X0_go_70_1_B81 at h
  refine g_ior (pc' := 82) C dX0_go_81 rfl ?_
  obtain ⟨s13, e14, h⟩ := let_some h
  refine gp_X0_50 (pc' := 85) (o := 70) C rfl dX0_go_82 rfl e14 ?_
  refine g_aload_n (pc' := 86) C dX0_go_85 0 rfl rfl ?_
  refine g_iload (pc' := 88) C dX0_go_86 4 rfl rfl ?_
  refine g_iconst (pc' := 89) (v := 2) C dX0_go_88 (by decide) rfl ?_
  refine g_iteI (σ := s13) (pj := 99) (lv := [(0, .ref (base + 70)), (1, .ref (base + 1)), (2, .ref (base + x2)), (4, .int x4), (5, .int x5)]) (st := [.ref (base + 70)]) (cd := x5 = 2) (a := x4) (b := (-4)) C ?_ (fun kt kf => ?_)
  · exact g_sub C [0, 1, 2, 3] rfl (w_X0_go_70_1_B99 C hr hR r19 hr19 _ _ _ _ h)
  · refine g_icmp_ne (pc' := 92) (tgt := 97) C dX0_go_89 (by decide) rfl (fun hc => ?_) (fun hc => ?_)
    · refine g_bipush (pc' := 99) (v := (-4)) C dX0_go_97 (by decide) rfl ?_
      exact kf hc
    · refine g_iload (pc' := 94) C dX0_go_92 3 rfl rfl ?_
      refine g_goto (tgt := 99) C dX0_go_94 (by decide) ?_
      exact kt hc
def f_X0_go_70_1_L19  : Nat → cr_S → Nat → Int32 → Option (cr_S)
  | 0, _, _, _ => none
  | n + 1, σ, x2, x4 =>
    (if (rF σ 1 5) ≤ x4 then some σ else (if (rF σ 70 3) = (-4) then chk (inb x4 6) (chk (inb x4 6) (Option.bind (f_X0_goBetween_70 σ (9 + x4.toNatClampNeg) x2 (rF σ 70 5) (rA σ 71 x4)) (fun q9 => cr_let q9.2 (fun v11 => f_X0_go_70_1_B81 (f_X0_go_70_1_L19 n) q9.1 x2 x4 v11 (if v11 = 1 then 1 <<< (x4 &&& 31) else 0) (rF q9.1 70 4))))) else some σ))
set_option maxRecDepth 100000 in
set_option maxHeartbeats 4000000 in
theorem w_X0_go_70_1_L19 (C : cr_C p l e R s m args below meth c sfC 97 base D cA cX0_go 6 RX0) (hr : meth.sig.returnType = none) (hR : 4 ≤ R.frames ∧ 95 ≤ R.locals) {res : cr_S}  : ∀ (n : Nat) (σ : cr_S) (x2 : Nat) (x4 : Int32), f_X0_go_70_1_L19 n σ x2 x4 = some res → cr_W p l e R s m args below meth c sfC 97 base D cA 6 (MQ below (cr_Qv sfC 97 base D cA res) args s 0 0 (cr_A 97 base)) σ 19 [(0, .ref (base + 70)), (1, .ref (base + 1)), (2, .ref (base + x2)), (4, .int x4)] [] := by
  intro n
  induction n with
  | zero =>
    intro σ x2 x4 h
    cases h
  | succ n ih =>
    intro σ x2 x4 h
    rw [f_X0_go_70_1_L19] at h
    refine g_iload (pc' := 21) C dX0_go_19 3 rfl rfl ?_
    refine g_aload_n (pc' := 22) C dX0_go_21 1 rfl rfl ?_
    refine gg_X0_53 (pc' := 25) (o := 1) C rfl dX0_go_22 rfl ?_
    refine g_icmp_ge (pc' := 28) (tgt := 108) C dX0_go_25 (by decide) rfl (fun hc => ?_) (fun hc => ?_)
    · rw [if_pos hc] at h
      exact g_vret C hr dX0_go_108 h
    · rw [if_neg hc] at h
      refine g_aload_n (pc' := 29) C dX0_go_28 0 rfl rfl ?_
      refine gg_X0_21 (pc' := 32) (o := 70) C rfl dX0_go_29 rfl ?_
      refine g_bipush (pc' := 34) (v := (-4)) C dX0_go_32 (by decide) rfl ?_
      refine g_icmp_ne (pc' := 37) (tgt := 108) C dX0_go_34 (by decide) rfl (fun hc => ?_) (fun hc => ?_)
      · rw [if_neg hc] at h
        exact g_vret C hr dX0_go_108 h
      · rw [if_pos hc] at h
        refine g_aload_n (pc' := 38) C dX0_go_37 0 rfl rfl ?_
        refine g_aload_n (pc' := 39) C dX0_go_38 1 rfl rfl ?_
        refine gg_X0_58 (pc' := 42) (o := 1) (r := 2) C rfl rfl dX0_go_39 rfl ?_
        refine g_iload (pc' := 44) C dX0_go_42 3 rfl rfl ?_
        obtain ⟨h7, h⟩ := chk_some h
        refine g_aald (pc' := 45) C (o := 2) (by decide) rfl (cn := "ClashRocks$Pair") rfl h7 dX0_go_44 rfl ?_
        refine g_aload_n (pc' := 46) C dX0_go_45 2 rfl rfl ?_
        refine g_aload_n (pc' := 47) C dX0_go_46 0 rfl rfl ?_
        refine gg_X0_47 (pc' := 50) (o := 70) C rfl dX0_go_47 rfl ?_
        refine g_aload_n (pc' := 51) C dX0_go_50 0 rfl rfl ?_
        refine gg_X0_9 (pc' := 54) (o := 70) (r := 71) C rfl rfl dX0_go_51 rfl ?_
        refine g_iload (pc' := 56) C dX0_go_54 3 rfl rfl ?_
        obtain ⟨h8, h⟩ := chk_some h
        refine g_iald (pc' := 57) C (o := 71) (by decide) rfl h8 dX0_go_56 rfl ?_
        obtain ⟨q9, h10, h⟩ := bind_some h
        refine g_callVi (pc' := 60) (res := q9) C [.ref (base + (9 + x4.toNatClampNeg)), .ref (base + x2), .int (rF σ 70 5), .int (rA σ 71 x4)] cY_X0_goBetween rfl (o := 70) (by decide) rfl mv_X0_goBetween mm_X0_62 ⟨Nat.le_trans (by decide) hR.1, Nat.le_trans (by decide) hR.2⟩ rfl (Nat.le_of_ble_eq_true rfl) rfl dX0_go_57 (c_X0_goBetween_70 l base D cA σ (9 + x4.toNatClampNeg) x2 (rF σ 70 5) (rA σ 71 x4) q9 h10) rfl ?_
        obtain ⟨v11, e12, h⟩ := let_some h
        refine g_nameI e12 ?_
        refine g_istore (pc' := 62) (lv' := [(5, .int v11), (0, .ref (base + 70)), (1, .ref (base + 1)), (2, .ref (base + x2)), (4, .int x4)]) C dX0_go_60 (by decide) rfl rfl ?_
        refine g_aload_n (pc' := 63) C dX0_go_62 1 rfl rfl ?_
        refine g_dup (pc' := 64) C dX0_go_63 rfl rfl ?_
        refine gg_X0_50 (pc' := 67) (o := 70) C rfl dX0_go_64 rfl ?_
        refine g_iload (pc' := 69) C dX0_go_67 0 rfl rfl ?_
        refine g_iconst (pc' := 70) (v := 1) C dX0_go_69 (by decide) rfl ?_
        refine g_iteI (σ := q9.1) (pj := 81) (lv := [(5, .int v11), (0, .ref (base + 70)), (1, .ref (base + 1)), (2, .ref (base + x2)), (4, .int x4)]) (st := [.int (rF q9.1 70 4), .ref (base + 70)]) (cd := v11 = 1) (a := 1 <<< (x4 &&& 31)) (b := 0) C ?_ (fun kt kf => ?_)
        · exact g_sub C [1, 2, 3, 4, 0] rfl (w_X0_go_70_1_B81 C hr hR (f_X0_go_70_1_L19 n) ih _ _ _ _ _ _ h)
        · refine g_icmp_ne (pc' := 73) (tgt := 80) C dX0_go_70 (by decide) rfl (fun hc => ?_) (fun hc => ?_)
          · refine g_iconst (pc' := 81) (v := 0) C dX0_go_80 (by decide) rfl ?_
            exact kf hc
          · refine g_iconst (pc' := 74) (v := 1) C dX0_go_73 (by decide) rfl ?_
            refine g_iload (pc' := 76) C dX0_go_74 4 rfl rfl ?_
            refine g_ishl (pc' := 77) C dX0_go_76 rfl ?_
            refine g_goto (tgt := 81) C dX0_go_77 (by decide) ?_
            exact kt hc
def f_X0_go_70_1 (σ : cr_S) (o2 : Nat) (a3 : Int32) : Option (cr_S) :=
  cr_let (sF σ 70 3 (-4)) (fun s1 => cr_let (sF s1 70 4 0) (fun s3 => cr_let (sF s3 70 5 a3) (fun s5 => f_X0_go_70_1_L19 cr_fuel s5 o2 0)))
set_option maxRecDepth 100000 in
set_option maxHeartbeats 4000000 in
theorem w_X0_go_70_1 (C : cr_C p l e R s m args below meth c sfC 97 base D cA cX0_go 6 RX0) (hr : meth.sig.returnType = none) (hR : 4 ≤ R.frames ∧ 95 ≤ R.locals) {res : cr_S} (σ : cr_S) (o2 : Nat) (a3 : Int32) (h : f_X0_go_70_1 σ o2 a3 = some res) : cr_W p l e R s m args below meth c sfC 97 base D cA 6 (MQ below (cr_Qv sfC 97 base D cA res) args s 0 0 (cr_A 97 base)) σ 0 [(0, .ref (base + 70)), (1, .ref (base + 1)), (2, .ref (base + o2)), (3, .int a3)] [] := by
  unfold f_X0_go_70_1 at h
  refine g_aload_n (pc' := 1) C dX0_go_0 0 rfl rfl ?_
  refine g_bipush (pc' := 3) (v := (-4)) C dX0_go_1 (by decide) rfl ?_
  obtain ⟨s1, e2, h⟩ := let_some h
  refine gp_X0_21 (pc' := 6) (o := 70) C rfl dX0_go_3 rfl e2 ?_
  refine g_aload_n (pc' := 7) C dX0_go_6 0 rfl rfl ?_
  refine g_iconst (pc' := 8) (v := 0) C dX0_go_7 (by decide) rfl ?_
  obtain ⟨s3, e4, h⟩ := let_some h
  refine gp_X0_50 (pc' := 11) (o := 70) C rfl dX0_go_8 rfl e4 ?_
  refine g_aload_n (pc' := 12) C dX0_go_11 0 rfl rfl ?_
  refine g_iload_n (pc' := 13) C dX0_go_12 3 rfl rfl ?_
  obtain ⟨s5, e6, h⟩ := let_some h
  refine gp_X0_47 (pc' := 16) (o := 70) C rfl dX0_go_13 rfl e6 ?_
  refine g_iconst (pc' := 17) (v := 0) C dX0_go_16 (by decide) rfl ?_
  refine g_istore (pc' := 19) (lv' := [(4, .int 0), (0, .ref (base + 70)), (1, .ref (base + 1)), (2, .ref (base + o2)), (3, .int a3)]) C dX0_go_17 (by decide) rfl rfl ?_
  exact g_sub C [1, 2, 3, 0] rfl (w_X0_go_70_1_L19 C hr hR _ _ _ _ h)
theorem c_X0_go_70_1 (l : Launch) (base : Nat) (D : va_G) (cA : Nat → ClassId) (σ : cr_S) (o2 : Nat) (a3 : Int32) (res : cr_S) (h : f_X0_go_70_1 σ o2 a3 = some res) : cr_M l yX0_go cX0_go 6 none 4 95 sfC 97 base D cA [.ref (base + 70), .ref (base + 1), .ref (base + o2), .int a3] σ (cr_Qv sfC 97 base D cA res) := by
  refine cr_enter [.ref (base + 70), .ref (base + 1), .ref (base + o2), .int a3] [(0, .ref (base + 70)), (1, .ref (base + 1)), (2, .ref (base + o2)), (3, .int a3)] (by decide) (Nat.le_of_ble_eq_true rfl) rfl ?_
  intro p e R s m below meth c C hr hR
  exact w_X0_go_70_1 C hr hR σ o2 a3 h
end

section
variable {p : Program} {l : Launch} {e : Env} {R : Room} {s : State} {m : MethodId} {args : Array Value} {below : List Frame} {meth : Method} {c : Code} {base : Nat} {D : va_G} {cA : Nat → ClassId}
noncomputable def f_X11_film_L53  : Nat → cr_S → Int32 → Int32 → Int32 → Int32 → Option (cr_S × Int32)
  | 0, _, _, _, _, _ => none
  | n + 1, σ, x1, x2, x4, x6 =>
    (if (rF σ 0 0) ≤ x6 then some (σ, rF σ 0 0) else Option.bind (f_X11_open σ x6 x1) (fun q11 => Option.bind (f_X11_puts q11.1 x2 (x4 + x6) (Int32.toInt64 q11.2)) (fun q13 => cr_let (x6 + 1) (fun v15 => f_X11_film_L53 n q13 x1 x2 x4 v15))))
set_option maxRecDepth 100000 in
set_option maxHeartbeats 4000000 in
theorem w_X11_film_L53 (C : cr_C p l e R s m args below meth c sfM 17 base D cA cX11_film 7 RX11) (hr : meth.sig.returnType = some .int) (hR : 3 ≤ R.frames ∧ 68 ≤ R.locals) {res : cr_S × Int32}  : ∀ (n : Nat) (σ : cr_S) (x1 : Int32) (x2 : Int32) (x4 : Int32) (x6 : Int32), f_X11_film_L53 n σ x1 x2 x4 x6 = some res → cr_W p l e R s m args below meth c sfM 17 base D cA 7 (MQ below (cr_Qi sfM 17 base D cA res) args s 0 0 (cr_A 17 base)) σ 53 [(0, .ref (base + 0)), (1, .int x1), (2, .int x2), (4, .int x4), (6, .int x6)] [] := by
  intro n
  induction n with
  | zero =>
    intro σ x1 x2 x4 x6 h
    cases h
  | succ n ih =>
    intro σ x1 x2 x4 x6 h
    rw [f_X11_film_L53] at h
    refine g_iload (pc' := 55) C dX11_film_53 4 rfl rfl ?_
    refine g_aload_n (pc' := 56) C dX11_film_55 0 rfl rfl ?_
    refine gg_X11_63 (pc' := 59) C dX11_film_56 rfl ?_
    refine g_icmp_ge (pc' := 62) (tgt := 86) C dX11_film_59 (by decide) rfl (fun hc => ?_) (fun hc => ?_)
    · rw [if_pos hc] at h
      refine g_aload_n (pc' := 87) C dX11_film_86 0 rfl rfl ?_
      refine gg_X11_63 (pc' := 90) C dX11_film_87 rfl ?_
      exact g_iret C hr dX11_film_90 h
    · rw [if_neg hc] at h
      refine g_aload_n (pc' := 63) C dX11_film_62 0 rfl rfl ?_
      refine g_iload_n (pc' := 64) C dX11_film_63 2 rfl rfl ?_
      refine g_iload (pc' := 66) C dX11_film_64 3 rfl rfl ?_
      refine g_iload (pc' := 68) C dX11_film_66 4 rfl rfl ?_
      refine g_iadd (pc' := 69) C dX11_film_68 rfl ?_
      refine g_aload_n (pc' := 70) C dX11_film_69 0 rfl rfl ?_
      refine g_iload (pc' := 72) C dX11_film_70 4 rfl rfl ?_
      refine g_iload_n (pc' := 73) C dX11_film_72 1 rfl rfl ?_
      obtain ⟨q11, h12, h⟩ := bind_some h
      refine g_callVi (pc' := 76) (res := q11) C [.int x6, .int x1] cY_X11_open rfl (o := 0) (by decide) rfl mv_X11_open mm_X11_282 ⟨Nat.le_trans (by decide) hR.1, Nat.le_trans (by decide) hR.2⟩ rfl (Nat.le_of_ble_eq_true rfl) rfl dX11_film_73 (c_X11_open l base D cA σ x6 x1 q11 h12) rfl ?_
      refine g_i2l (pc' := 77) C dX11_film_76 rfl ?_
      obtain ⟨q13, h14, h⟩ := bind_some h
      refine g_callVv (pc' := 80) (res := q13) C [.int x2, .int (x4 + x6), .long (Int32.toInt64 q11.2)] cY_X11_puts rfl (o := 0) (by decide) rfl mv_X11_puts mm_X11_285 ⟨Nat.le_trans (by decide) hR.1, Nat.le_trans (by decide) hR.2⟩ rfl (Nat.le_of_ble_eq_true rfl) rfl dX11_film_77 (c_X11_puts l base D cA q11.1 x2 (x4 + x6) (Int32.toInt64 q11.2) q13 h14) rfl ?_
      obtain ⟨v15, e16, h⟩ := let_some h
      refine g_iinc (pc' := 83) (v := v15) (lv' := [(6, .int v15), (0, .ref (base + 0)), (1, .int x1), (2, .int x2), (4, .int x4)]) C dX11_film_80 4 rfl (by rw [e16]; rfl) (by decide) rfl rfl ?_
      refine g_goto (tgt := 53) C dX11_film_83 (by decide) ?_
      exact g_sub C [1, 2, 3, 4, 0] rfl (ih _ _ _ _ _ h)
noncomputable def f_X11_film (σ : cr_S) (a1 : Int32) (a2 : Int32) (a3 : Int32) (a4 : Int32) : Option (cr_S × Int32) :=
  Option.bind (f_X11_in σ (Int32.toInt64 a1) 0 99999) (fun q1 => (if q1.2 = 0 then some (q1.1, (-1)) else Option.bind (f_X11_isSheet q1.1 a2) (fun q3 => (if q3.2 = 0 then some (q3.1, (-1)) else Option.bind (f_X11_isLane q3.1 a3) (fun q5 => (if q5.2 = 0 then some (q5.1, (-1)) else Option.bind (f_X11_why q5.1 a2 a3 a4 (rF q5.1 0 0)) (fun q7 => cr_let q7.2 (fun v9 => (if 0 ≤ v9 then f_X11_film_L53 cr_fuel q7.1 a1 a2 a4 0 else some (q7.1, v9))))))))))
set_option maxRecDepth 100000 in
set_option maxHeartbeats 4000000 in
theorem w_X11_film (C : cr_C p l e R s m args below meth c sfM 17 base D cA cX11_film 7 RX11) (hr : meth.sig.returnType = some .int) (hR : 3 ≤ R.frames ∧ 68 ≤ R.locals) {res : cr_S × Int32} (σ : cr_S) (a1 : Int32) (a2 : Int32) (a3 : Int32) (a4 : Int32) (h : f_X11_film σ a1 a2 a3 a4 = some res) : cr_W p l e R s m args below meth c sfM 17 base D cA 7 (MQ below (cr_Qi sfM 17 base D cA res) args s 0 0 (cr_A 17 base)) σ 0 [(0, .ref (base + 0)), (1, .int a1), (2, .int a2), (3, .int a3), (4, .int a4)] [] := by
  unfold f_X11_film at h
  refine g_iload_n (pc' := 1) C dX11_film_0 1 rfl rfl ?_
  refine g_i2l (pc' := 2) C dX11_film_1 rfl ?_
  refine g_lconst (pc' := 3) (v := 0) C dX11_film_2 (by decide) rfl ?_
  refine g_ldc2 (pc' := 6) (v := 99999) C dX11_film_3 ml_X11_118 rfl ?_
  obtain ⟨q1, h2, h⟩ := bind_some h
  refine g_callSi (pc' := 9) (res := q1) C [.long (Int32.toInt64 a1), .long 0, .long 99999] cY_X11_in mv_X11_in mm_X11_66 ⟨Nat.le_trans (by decide) hR.1, Nat.le_trans (by decide) hR.2⟩ rfl (Nat.le_of_ble_eq_true rfl) rfl dX11_film_6 (c_X11_in l base D cA σ (Int32.toInt64 a1) 0 99999 q1 h2) rfl ?_
  refine g_if_eq (pc' := 12) (tgt := 26) C dX11_film_9 (by decide) rfl (fun hc => ?_) (fun hc => ?_)
  · rw [if_pos hc] at h
    refine g_iconst (pc' := 27) (v := (-1)) C dX11_film_26 (by decide) rfl ?_
    exact g_iret C hr dX11_film_27 h
  · rw [if_neg hc] at h
    refine g_iload_n (pc' := 13) C dX11_film_12 2 rfl rfl ?_
    obtain ⟨q3, h4, h⟩ := bind_some h
    refine g_callSi (pc' := 16) (res := q3) C [.int a2] cY_X11_isSheet mv_X11_isSheet mm_X11_273 ⟨Nat.le_trans (by decide) hR.1, Nat.le_trans (by decide) hR.2⟩ rfl (Nat.le_of_ble_eq_true rfl) rfl dX11_film_13 (c_X11_isSheet l base D cA q1.1 a2 q3 h4) rfl ?_
    refine g_if_eq (pc' := 19) (tgt := 26) C dX11_film_16 (by decide) rfl (fun hc => ?_) (fun hc => ?_)
    · rw [if_pos hc] at h
      refine g_iconst (pc' := 27) (v := (-1)) C dX11_film_26 (by decide) rfl ?_
      exact g_iret C hr dX11_film_27 h
    · rw [if_neg hc] at h
      refine g_iload_n (pc' := 20) C dX11_film_19 3 rfl rfl ?_
      obtain ⟨q5, h6, h⟩ := bind_some h
      refine g_callSi (pc' := 23) (res := q5) C [.int a3] cY_X11_isLane mv_X11_isLane mm_X11_276 ⟨Nat.le_trans (by decide) hR.1, Nat.le_trans (by decide) hR.2⟩ rfl (Nat.le_of_ble_eq_true rfl) rfl dX11_film_20 (c_X11_isLane l base D cA q3.1 a3 q5 h6) rfl ?_
      refine g_if_ne (pc' := 26) (tgt := 28) C dX11_film_23 (by decide) rfl (fun hc => ?_) (fun hc => ?_)
      · rw [if_neg hc] at h
        refine g_aload_n (pc' := 29) C dX11_film_28 0 rfl rfl ?_
        refine g_iload_n (pc' := 30) C dX11_film_29 2 rfl rfl ?_
        refine g_iload_n (pc' := 31) C dX11_film_30 3 rfl rfl ?_
        refine g_iload (pc' := 33) C dX11_film_31 4 rfl rfl ?_
        refine g_aload_n (pc' := 34) C dX11_film_33 0 rfl rfl ?_
        refine gg_X11_63 (pc' := 37) C dX11_film_34 rfl ?_
        obtain ⟨q7, h8, h⟩ := bind_some h
        refine g_callVi (pc' := 40) (res := q7) C [.int a2, .int a3, .int a4, .int (rF q5.1 0 0)] cY_X11_why rfl (o := 0) (by decide) rfl mv_X11_why mm_X11_279 ⟨Nat.le_trans (by decide) hR.1, Nat.le_trans (by decide) hR.2⟩ rfl (Nat.le_of_ble_eq_true rfl) rfl dX11_film_37 (c_X11_why l base D cA q5.1 a2 a3 a4 (rF q5.1 0 0) q7 h8) rfl ?_
        obtain ⟨v9, e10, h⟩ := let_some h
        refine g_nameI e10 ?_
        refine g_istore (pc' := 42) (lv' := [(5, .int v9), (0, .ref (base + 0)), (1, .int a1), (2, .int a2), (3, .int a3), (4, .int a4)]) C dX11_film_40 (by decide) rfl rfl ?_
        refine g_iload (pc' := 44) C dX11_film_42 0 rfl rfl ?_
        refine g_if_ge (pc' := 47) (tgt := 50) C dX11_film_44 (by decide) rfl (fun hc => ?_) (fun hc => ?_)
        · rw [if_pos hc] at h
          refine g_iconst (pc' := 51) (v := 0) C dX11_film_50 (by decide) rfl ?_
          refine g_istore (pc' := 53) (lv' := [(6, .int 0), (5, .int v9), (0, .ref (base + 0)), (1, .int a1), (2, .int a2), (3, .int a3), (4, .int a4)]) C dX11_film_51 (by decide) rfl rfl ?_
          exact g_sub C [2, 3, 4, 6, 0] rfl (w_X11_film_L53 C hr hR _ _ _ _ _ _ h)
        · rw [if_neg hc] at h
          refine g_iload (pc' := 49) C dX11_film_47 0 rfl rfl ?_
          exact g_iret C hr dX11_film_49 h
      · rw [if_pos hc] at h
        refine g_iconst (pc' := 27) (v := (-1)) C dX11_film_26 (by decide) rfl ?_
        exact g_iret C hr dX11_film_27 h
theorem c_X11_film (l : Launch) (base : Nat) (D : va_G) (cA : Nat → ClassId) (σ : cr_S) (a1 : Int32) (a2 : Int32) (a3 : Int32) (a4 : Int32) (res : cr_S × Int32) (h : f_X11_film σ a1 a2 a3 a4 = some res) : cr_M l yX11_film cX11_film 7 (some .int) 3 68 sfM 17 base D cA [.ref (base + 0), .int a1, .int a2, .int a3, .int a4] σ (cr_Qi sfM 17 base D cA res) := by
  refine cr_enter [.ref (base + 0), .int a1, .int a2, .int a3, .int a4] [(0, .ref (base + 0)), (1, .int a1), (2, .int a2), (3, .int a3), (4, .int a4)] (by decide) (Nat.le_of_ble_eq_true rfl) rfl ?_
  intro p e R s m below meth c C hr hR
  exact w_X11_film C hr hR σ a1 a2 a3 a4 h
noncomputable def f_X11_sheet_L46  : Nat → cr_S → Int32 → Int32 → Int32 → Option (cr_S × Int32)
  | 0, _, _, _, _ => none
  | n + 1, σ, x1, x3, x4 =>
    (if 16 ≤ x4 then some (σ, x3) else chk (inb ((16 * x1) + x4) 64) (cr_let (sL σ 15 ((16 * x1) + x4) 0) (fun s12 => cr_let (x4 + 1) (fun v14 => f_X11_sheet_L46 n s12 x1 x3 v14))))
set_option maxRecDepth 100000 in
set_option maxHeartbeats 4000000 in
theorem w_X11_sheet_L46 (C : cr_C p l e R s m args below meth c sfM 17 base D cA cX11_sheet 5 RX11) (hr : meth.sig.returnType = some .int) (hR : 2 ≤ R.frames ∧ 45 ≤ R.locals) {res : cr_S × Int32}  : ∀ (n : Nat) (σ : cr_S) (x1 : Int32) (x3 : Int32) (x4 : Int32), f_X11_sheet_L46 n σ x1 x3 x4 = some res → cr_W p l e R s m args below meth c sfM 17 base D cA 5 (MQ below (cr_Qi sfM 17 base D cA res) args s 0 0 (cr_A 17 base)) σ 46 [(0, .ref (base + 0)), (1, .int x1), (3, .int x3), (4, .int x4)] [] := by
  intro n
  induction n with
  | zero =>
    intro σ x1 x3 x4 h
    cases h
  | succ n ih =>
    intro σ x1 x3 x4 h
    rw [f_X11_sheet_L46] at h
    refine g_iload (pc' := 48) C dX11_sheet_46 3 rfl rfl ?_
    refine g_bipush (pc' := 50) (v := 16) C dX11_sheet_48 (by decide) rfl ?_
    refine g_icmp_ge (pc' := 53) (tgt := 72) C dX11_sheet_50 (by decide) rfl (fun hc => ?_) (fun hc => ?_)
    · rw [if_pos hc] at h
      refine g_iload_n (pc' := 73) C dX11_sheet_72 2 rfl rfl ?_
      exact g_iret C hr dX11_sheet_73 h
    · rw [if_neg hc] at h
      refine g_aload_n (pc' := 54) C dX11_sheet_53 0 rfl rfl ?_
      refine gg_X11_56 (pc' := 57) C dX11_sheet_54 rfl ?_
      refine g_bipush (pc' := 59) (v := 16) C dX11_sheet_57 (by decide) rfl ?_
      refine g_iload_n (pc' := 60) C dX11_sheet_59 1 rfl rfl ?_
      refine g_imul (pc' := 61) C dX11_sheet_60 rfl ?_
      refine g_iload (pc' := 63) C dX11_sheet_61 3 rfl rfl ?_
      refine g_iadd (pc' := 64) C dX11_sheet_63 rfl ?_
      refine g_lconst (pc' := 65) (v := 0) C dX11_sheet_64 (by decide) rfl ?_
      obtain ⟨h11, h⟩ := chk_some h
      obtain ⟨s12, e13, h⟩ := let_some h
      refine g_last (pc' := 66) C (o := 15) (by decide) rfl (inb_d h11) dX11_sheet_65 rfl e13 ?_
      obtain ⟨v14, e15, h⟩ := let_some h
      refine g_iinc (pc' := 69) (v := v14) (lv' := [(4, .int v14), (0, .ref (base + 0)), (1, .int x1), (3, .int x3)]) C dX11_sheet_66 3 rfl (by rw [e15]; rfl) (by decide) rfl rfl ?_
      refine g_goto (tgt := 46) C dX11_sheet_69 (by decide) ?_
      exact g_sub C [1, 2, 3, 0] rfl (ih _ _ _ _ h)
noncomputable def f_X11_sheet (σ : cr_S) (a1 : Int32) (a2 : Int32) (a3 : Int32) : Option (cr_S × Int32) :=
  Option.bind (f_X11_isSheet σ a1) (fun q1 => (if q1.2 = 0 then some (q1.1, (-1)) else Option.bind (f_X11_isLane q1.1 a2) (fun q3 => (if q3.2 = 0 then some (q3.1, (-1)) else (if a3 ≤ 16 then (if 0 ≤ a3 then chk (inb a1 4) (cr_let (sA q3.1 13 a1 a2) (fun s6 => chk (inb a1 4) (cr_let (sA s6 14 a1 a3) (fun s9 => f_X11_sheet_L46 cr_fuel s9 a1 a3 0)))) else some (q3.1, (-14))) else some (q3.1, (-1)))))))
set_option maxRecDepth 100000 in
set_option maxHeartbeats 4000000 in
theorem w_X11_sheet (C : cr_C p l e R s m args below meth c sfM 17 base D cA cX11_sheet 5 RX11) (hr : meth.sig.returnType = some .int) (hR : 2 ≤ R.frames ∧ 45 ≤ R.locals) {res : cr_S × Int32} (σ : cr_S) (a1 : Int32) (a2 : Int32) (a3 : Int32) (h : f_X11_sheet σ a1 a2 a3 = some res) : cr_W p l e R s m args below meth c sfM 17 base D cA 5 (MQ below (cr_Qi sfM 17 base D cA res) args s 0 0 (cr_A 17 base)) σ 0 [(0, .ref (base + 0)), (1, .int a1), (2, .int a2), (3, .int a3)] [] := by
  unfold f_X11_sheet at h
  refine g_iload_n (pc' := 1) C dX11_sheet_0 1 rfl rfl ?_
  obtain ⟨q1, h2, h⟩ := bind_some h
  refine g_callSi (pc' := 4) (res := q1) C [.int a1] cY_X11_isSheet mv_X11_isSheet mm_X11_273 ⟨Nat.le_trans (by decide) hR.1, Nat.le_trans (by decide) hR.2⟩ rfl (Nat.le_of_ble_eq_true rfl) rfl dX11_sheet_1 (c_X11_isSheet l base D cA σ a1 q1 h2) rfl ?_
  refine g_if_eq (pc' := 7) (tgt := 20) C dX11_sheet_4 (by decide) rfl (fun hc => ?_) (fun hc => ?_)
  · rw [if_pos hc] at h
    refine g_iconst (pc' := 21) (v := (-1)) C dX11_sheet_20 (by decide) rfl ?_
    exact g_iret C hr dX11_sheet_21 h
  · rw [if_neg hc] at h
    refine g_iload_n (pc' := 8) C dX11_sheet_7 2 rfl rfl ?_
    obtain ⟨q3, h4, h⟩ := bind_some h
    refine g_callSi (pc' := 11) (res := q3) C [.int a2] cY_X11_isLane mv_X11_isLane mm_X11_276 ⟨Nat.le_trans (by decide) hR.1, Nat.le_trans (by decide) hR.2⟩ rfl (Nat.le_of_ble_eq_true rfl) rfl dX11_sheet_8 (c_X11_isLane l base D cA q1.1 a2 q3 h4) rfl ?_
    refine g_if_eq (pc' := 14) (tgt := 20) C dX11_sheet_11 (by decide) rfl (fun hc => ?_) (fun hc => ?_)
    · rw [if_pos hc] at h
      refine g_iconst (pc' := 21) (v := (-1)) C dX11_sheet_20 (by decide) rfl ?_
      exact g_iret C hr dX11_sheet_21 h
    · rw [if_neg hc] at h
      refine g_iload_n (pc' := 15) C dX11_sheet_14 3 rfl rfl ?_
      refine g_bipush (pc' := 17) (v := 16) C dX11_sheet_15 (by decide) rfl ?_
      refine g_icmp_le (pc' := 20) (tgt := 22) C dX11_sheet_17 (by decide) rfl (fun hc => ?_) (fun hc => ?_)
      · rw [if_pos hc] at h
        refine g_iload_n (pc' := 23) C dX11_sheet_22 3 rfl rfl ?_
        refine g_if_ge (pc' := 26) (tgt := 29) C dX11_sheet_23 (by decide) rfl (fun hc => ?_) (fun hc => ?_)
        · rw [if_pos hc] at h
          refine g_aload_n (pc' := 30) C dX11_sheet_29 0 rfl rfl ?_
          refine gg_X11_50 (pc' := 33) C dX11_sheet_30 rfl ?_
          refine g_iload_n (pc' := 34) C dX11_sheet_33 1 rfl rfl ?_
          refine g_iload_n (pc' := 35) C dX11_sheet_34 2 rfl rfl ?_
          obtain ⟨h5, h⟩ := chk_some h
          obtain ⟨s6, e7, h⟩ := let_some h
          refine g_iast (pc' := 36) C (o := 13) (by decide) rfl (inb_d h5) dX11_sheet_35 rfl e7 ?_
          refine g_aload_n (pc' := 37) C dX11_sheet_36 0 rfl rfl ?_
          refine gg_X11_53 (pc' := 40) C dX11_sheet_37 rfl ?_
          refine g_iload_n (pc' := 41) C dX11_sheet_40 1 rfl rfl ?_
          refine g_iload_n (pc' := 42) C dX11_sheet_41 3 rfl rfl ?_
          obtain ⟨h8, h⟩ := chk_some h
          obtain ⟨s9, e10, h⟩ := let_some h
          refine g_iast (pc' := 43) C (o := 14) (by decide) rfl (inb_d h8) dX11_sheet_42 rfl e10 ?_
          refine g_iconst (pc' := 44) (v := 0) C dX11_sheet_43 (by decide) rfl ?_
          refine g_istore (pc' := 46) (lv' := [(4, .int 0), (0, .ref (base + 0)), (1, .int a1), (2, .int a2), (3, .int a3)]) C dX11_sheet_44 (by decide) rfl rfl ?_
          exact g_sub C [1, 2, 4, 0] rfl (w_X11_sheet_L46 C hr hR _ _ _ _ _ h)
        · rw [if_neg hc] at h
          refine g_bipush (pc' := 28) (v := (-14)) C dX11_sheet_26 (by decide) rfl ?_
          exact g_iret C hr dX11_sheet_28 h
      · rw [if_neg hc] at h
        refine g_iconst (pc' := 21) (v := (-1)) C dX11_sheet_20 (by decide) rfl ?_
        exact g_iret C hr dX11_sheet_21 h
theorem c_X11_sheet (l : Launch) (base : Nat) (D : va_G) (cA : Nat → ClassId) (σ : cr_S) (a1 : Int32) (a2 : Int32) (a3 : Int32) (res : cr_S × Int32) (h : f_X11_sheet σ a1 a2 a3 = some res) : cr_M l yX11_sheet cX11_sheet 5 (some .int) 2 45 sfM 17 base D cA [.ref (base + 0), .int a1, .int a2, .int a3] σ (cr_Qi sfM 17 base D cA res) := by
  refine cr_enter [.ref (base + 0), .int a1, .int a2, .int a3] [(0, .ref (base + 0)), (1, .int a1), (2, .int a2), (3, .int a3)] (by decide) (Nat.le_of_ble_eq_true rfl) rfl ?_
  intro p e R s m below meth c C hr hR
  exact w_X11_sheet C hr hR σ a1 a2 a3 h
noncomputable def f_X11_drop (σ : cr_S) (a1 : Int32) : Option (cr_S × Int32) :=
  Option.bind (f_X11_isSheet σ a1) (fun q1 => (if q1.2 = 0 then some (q1.1, (-1)) else chk (inb a1 4) ((if 0 ≤ (rA q1.1 13 a1) then chk (inb a1 4) (cr_let (sA q1.1 13 a1 (-1)) (fun s5 => chk (inb a1 4) (some (s5, rA s5 14 a1)))) else some (q1.1, (-11))))))
set_option maxRecDepth 100000 in
set_option maxHeartbeats 4000000 in
theorem w_X11_drop (C : cr_C p l e R s m args below meth c sfM 17 base D cA cX11_drop 2 RX11) (hr : meth.sig.returnType = some .int) (hR : 2 ≤ R.frames ∧ 45 ≤ R.locals) {res : cr_S × Int32} (σ : cr_S) (a1 : Int32) (h : f_X11_drop σ a1 = some res) : cr_W p l e R s m args below meth c sfM 17 base D cA 2 (MQ below (cr_Qi sfM 17 base D cA res) args s 0 0 (cr_A 17 base)) σ 0 [(0, .ref (base + 0)), (1, .int a1)] [] := by
  unfold f_X11_drop at h
  refine g_iload_n (pc' := 1) C dX11_drop_0 1 rfl rfl ?_
  obtain ⟨q1, h2, h⟩ := bind_some h
  refine g_callSi (pc' := 4) (res := q1) C [.int a1] cY_X11_isSheet mv_X11_isSheet mm_X11_273 ⟨Nat.le_trans (by decide) hR.1, Nat.le_trans (by decide) hR.2⟩ rfl (Nat.le_of_ble_eq_true rfl) rfl dX11_drop_1 (c_X11_isSheet l base D cA σ a1 q1 h2) rfl ?_
  refine g_if_ne (pc' := 7) (tgt := 9) C dX11_drop_4 (by decide) rfl (fun hc => ?_) (fun hc => ?_)
  · rw [if_neg hc] at h
    refine g_aload_n (pc' := 10) C dX11_drop_9 0 rfl rfl ?_
    refine gg_X11_50 (pc' := 13) C dX11_drop_10 rfl ?_
    refine g_iload_n (pc' := 14) C dX11_drop_13 1 rfl rfl ?_
    obtain ⟨h3, h⟩ := chk_some h
    refine g_iald (pc' := 15) C (o := 13) (by decide) rfl (inb_d h3) dX11_drop_14 rfl ?_
    refine g_if_ge (pc' := 18) (tgt := 21) C dX11_drop_15 (by decide) rfl (fun hc => ?_) (fun hc => ?_)
    · rw [if_pos hc] at h
      refine g_aload_n (pc' := 22) C dX11_drop_21 0 rfl rfl ?_
      refine gg_X11_50 (pc' := 25) C dX11_drop_22 rfl ?_
      refine g_iload_n (pc' := 26) C dX11_drop_25 1 rfl rfl ?_
      refine g_iconst (pc' := 27) (v := (-1)) C dX11_drop_26 (by decide) rfl ?_
      obtain ⟨h4, h⟩ := chk_some h
      obtain ⟨s5, e6, h⟩ := let_some h
      refine g_iast (pc' := 28) C (o := 13) (by decide) rfl (inb_d h4) dX11_drop_27 rfl e6 ?_
      refine g_aload_n (pc' := 29) C dX11_drop_28 0 rfl rfl ?_
      refine gg_X11_53 (pc' := 32) C dX11_drop_29 rfl ?_
      refine g_iload_n (pc' := 33) C dX11_drop_32 1 rfl rfl ?_
      obtain ⟨h7, h⟩ := chk_some h
      refine g_iald (pc' := 34) C (o := 14) (by decide) rfl (inb_d h7) dX11_drop_33 rfl ?_
      exact g_iret C hr dX11_drop_34 h
    · rw [if_neg hc] at h
      refine g_bipush (pc' := 20) (v := (-11)) C dX11_drop_18 (by decide) rfl ?_
      exact g_iret C hr dX11_drop_20 h
  · rw [if_pos hc] at h
    refine g_iconst (pc' := 8) (v := (-1)) C dX11_drop_7 (by decide) rfl ?_
    exact g_iret C hr dX11_drop_8 h
theorem c_X11_drop (l : Launch) (base : Nat) (D : va_G) (cA : Nat → ClassId) (σ : cr_S) (a1 : Int32) (res : cr_S × Int32) (h : f_X11_drop σ a1 = some res) : cr_M l yX11_drop cX11_drop 2 (some .int) 2 45 sfM 17 base D cA [.ref (base + 0), .int a1] σ (cr_Qi sfM 17 base D cA res) := by
  refine cr_enter [.ref (base + 0), .int a1] [(0, .ref (base + 0)), (1, .int a1)] (by decide) (Nat.le_of_ble_eq_true rfl) rfl ?_
  intro p e R s m below meth c C hr hR
  exact w_X11_drop C hr hR σ a1 h
noncomputable def f_X11_item (σ : cr_S) (a1 : Int32) (a2 : Int32) (a3 : Int32) (a4 : Int64) : Option (cr_S × Int32) :=
  Option.bind (f_X11_isSheet σ a1) (fun q1 => (if q1.2 = 0 then some (q1.1, (-1)) else Option.bind (f_X11_isLane q1.1 a2) (fun q3 => (if q3.2 = 0 then some (q3.1, (-1)) else Option.bind (f_X11_why q3.1 a1 a2 a3 1) (fun q5 => cr_let q5.2 (fun v7 => (if 0 ≤ v7 then Option.bind (f_X11_puts q5.1 a1 a3 a4) (fun q9 => some (q9, 1)) else some (q5.1, v7))))))))
set_option maxRecDepth 100000 in
set_option maxHeartbeats 4000000 in
theorem w_X11_item (C : cr_C p l e R s m args below meth c sfM 17 base D cA cX11_item 7 RX11) (hr : meth.sig.returnType = some .int) (hR : 2 ≤ R.frames ∧ 45 ≤ R.locals) {res : cr_S × Int32} (σ : cr_S) (a1 : Int32) (a2 : Int32) (a3 : Int32) (a4 : Int64) (h : f_X11_item σ a1 a2 a3 a4 = some res) : cr_W p l e R s m args below meth c sfM 17 base D cA 7 (MQ below (cr_Qi sfM 17 base D cA res) args s 0 0 (cr_A 17 base)) σ 0 [(0, .ref (base + 0)), (1, .int a1), (2, .int a2), (3, .int a3), (4, .long a4)] [] := by
  unfold f_X11_item at h
  refine g_iload_n (pc' := 1) C dX11_item_0 1 rfl rfl ?_
  obtain ⟨q1, h2, h⟩ := bind_some h
  refine g_callSi (pc' := 4) (res := q1) C [.int a1] cY_X11_isSheet mv_X11_isSheet mm_X11_273 ⟨Nat.le_trans (by decide) hR.1, Nat.le_trans (by decide) hR.2⟩ rfl (Nat.le_of_ble_eq_true rfl) rfl dX11_item_1 (c_X11_isSheet l base D cA σ a1 q1 h2) rfl ?_
  refine g_if_eq (pc' := 7) (tgt := 14) C dX11_item_4 (by decide) rfl (fun hc => ?_) (fun hc => ?_)
  · rw [if_pos hc] at h
    refine g_iconst (pc' := 15) (v := (-1)) C dX11_item_14 (by decide) rfl ?_
    exact g_iret C hr dX11_item_15 h
  · rw [if_neg hc] at h
    refine g_iload_n (pc' := 8) C dX11_item_7 2 rfl rfl ?_
    obtain ⟨q3, h4, h⟩ := bind_some h
    refine g_callSi (pc' := 11) (res := q3) C [.int a2] cY_X11_isLane mv_X11_isLane mm_X11_276 ⟨Nat.le_trans (by decide) hR.1, Nat.le_trans (by decide) hR.2⟩ rfl (Nat.le_of_ble_eq_true rfl) rfl dX11_item_8 (c_X11_isLane l base D cA q1.1 a2 q3 h4) rfl ?_
    refine g_if_ne (pc' := 14) (tgt := 16) C dX11_item_11 (by decide) rfl (fun hc => ?_) (fun hc => ?_)
    · rw [if_neg hc] at h
      refine g_aload_n (pc' := 17) C dX11_item_16 0 rfl rfl ?_
      refine g_iload_n (pc' := 18) C dX11_item_17 1 rfl rfl ?_
      refine g_iload_n (pc' := 19) C dX11_item_18 2 rfl rfl ?_
      refine g_iload_n (pc' := 20) C dX11_item_19 3 rfl rfl ?_
      refine g_iconst (pc' := 21) (v := 1) C dX11_item_20 (by decide) rfl ?_
      obtain ⟨q5, h6, h⟩ := bind_some h
      refine g_callVi (pc' := 24) (res := q5) C [.int a1, .int a2, .int a3, .int 1] cY_X11_why rfl (o := 0) (by decide) rfl mv_X11_why mm_X11_279 ⟨Nat.le_trans (by decide) hR.1, Nat.le_trans (by decide) hR.2⟩ rfl (Nat.le_of_ble_eq_true rfl) rfl dX11_item_21 (c_X11_why l base D cA q3.1 a1 a2 a3 1 q5 h6) rfl ?_
      obtain ⟨v7, e8, h⟩ := let_some h
      refine g_nameI e8 ?_
      refine g_istore (pc' := 26) (lv' := [(6, .int v7), (0, .ref (base + 0)), (1, .int a1), (2, .int a2), (3, .int a3), (4, .long a4)]) C dX11_item_24 (by decide) rfl rfl ?_
      refine g_iload (pc' := 28) C dX11_item_26 0 rfl rfl ?_
      refine g_if_ge (pc' := 31) (tgt := 34) C dX11_item_28 (by decide) rfl (fun hc => ?_) (fun hc => ?_)
      · rw [if_pos hc] at h
        refine g_aload_n (pc' := 35) C dX11_item_34 1 rfl rfl ?_
        refine g_iload_n (pc' := 36) C dX11_item_35 2 rfl rfl ?_
        refine g_iload_n (pc' := 37) C dX11_item_36 4 rfl rfl ?_
        refine g_lload (pc' := 39) C dX11_item_37 5 rfl rfl ?_
        obtain ⟨q9, h10, h⟩ := bind_some h
        refine g_callVv (pc' := 42) (res := q9) C [.int a1, .int a3, .long a4] cY_X11_puts rfl (o := 0) (by decide) rfl mv_X11_puts mm_X11_285 ⟨Nat.le_trans (by decide) hR.1, Nat.le_trans (by decide) hR.2⟩ rfl (Nat.le_of_ble_eq_true rfl) rfl dX11_item_39 (c_X11_puts l base D cA q5.1 a1 a3 a4 q9 h10) rfl ?_
        refine g_iconst (pc' := 43) (v := 1) C dX11_item_42 (by decide) rfl ?_
        exact g_iret C hr dX11_item_43 h
      · rw [if_neg hc] at h
        refine g_iload (pc' := 33) C dX11_item_31 0 rfl rfl ?_
        exact g_iret C hr dX11_item_33 h
    · rw [if_pos hc] at h
      refine g_iconst (pc' := 15) (v := (-1)) C dX11_item_14 (by decide) rfl ?_
      exact g_iret C hr dX11_item_15 h
theorem c_X11_item (l : Launch) (base : Nat) (D : va_G) (cA : Nat → ClassId) (σ : cr_S) (a1 : Int32) (a2 : Int32) (a3 : Int32) (a4 : Int64) (res : cr_S × Int32) (h : f_X11_item σ a1 a2 a3 a4 = some res) : cr_M l yX11_item cX11_item 7 (some .int) 2 45 sfM 17 base D cA [.ref (base + 0), .int a1, .int a2, .int a3, .long a4] σ (cr_Qi sfM 17 base D cA res) := by
  refine cr_enter [.ref (base + 0), .int a1, .int a2, .int a3, .long a4] [(0, .ref (base + 0)), (1, .int a1), (2, .int a2), (3, .int a3), (4, .long a4)] (by decide) (Nat.le_of_ble_eq_true rfl) rfl ?_
  intro p e R s m below meth c C hr hR
  exact w_X11_item C hr hR σ a1 a2 a3 a4 h
noncomputable def f_X11_copy_L138  : Nat → cr_S → Int32 → Int32 → Int32 → Int32 → Option (cr_S × Int32)
  | 0, _, _, _, _, _ => none
  | n + 1, σ, x3, x4, x5, x6 =>
    (if x5 ≤ x6 then some (σ, x5) else chk (inb x6 16) (chk (inb (((16 * x3) + x4) + x6) 64) (cr_let (sL σ 15 (((16 * x3) + x4) + x6) (rL σ 16 x6)) (fun s17 => cr_let (x6 + 1) (fun v19 => f_X11_copy_L138 n s17 x3 x4 x5 v19)))))
set_option maxRecDepth 100000 in
set_option maxHeartbeats 4000000 in
theorem w_X11_copy_L138 (C : cr_C p l e R s m args below meth c sfM 17 base D cA cX11_copy 7 RX11) (hr : meth.sig.returnType = some .int) (hR : 2 ≤ R.frames ∧ 45 ≤ R.locals) {res : cr_S × Int32}  : ∀ (n : Nat) (σ : cr_S) (x3 : Int32) (x4 : Int32) (x5 : Int32) (x6 : Int32), f_X11_copy_L138 n σ x3 x4 x5 x6 = some res → cr_W p l e R s m args below meth c sfM 17 base D cA 7 (MQ below (cr_Qi sfM 17 base D cA res) args s 0 0 (cr_A 17 base)) σ 138 [(0, .ref (base + 0)), (3, .int x3), (4, .int x4), (5, .int x5), (6, .int x6)] [] := by
  intro n
  induction n with
  | zero =>
    intro σ x3 x4 x5 x6 h
    cases h
  | succ n ih =>
    intro σ x3 x4 x5 x6 h
    rw [f_X11_copy_L138] at h
    refine g_iload (pc' := 140) C dX11_copy_138 4 rfl rfl ?_
    refine g_iload (pc' := 142) C dX11_copy_140 3 rfl rfl ?_
    refine g_icmp_ge (pc' := 145) (tgt := 173) C dX11_copy_142 (by decide) rfl (fun hc => ?_) (fun hc => ?_)
    · rw [if_pos hc] at h
      refine g_iload (pc' := 175) C dX11_copy_173 3 rfl rfl ?_
      exact g_iret C hr dX11_copy_175 h
    · rw [if_neg hc] at h
      refine g_aload_n (pc' := 146) C dX11_copy_145 0 rfl rfl ?_
      refine gg_X11_56 (pc' := 149) C dX11_copy_146 rfl ?_
      refine g_bipush (pc' := 151) (v := 16) C dX11_copy_149 (by decide) rfl ?_
      refine g_iload_n (pc' := 152) C dX11_copy_151 1 rfl rfl ?_
      refine g_imul (pc' := 153) C dX11_copy_152 rfl ?_
      refine g_iload (pc' := 155) C dX11_copy_153 2 rfl rfl ?_
      refine g_iadd (pc' := 156) C dX11_copy_155 rfl ?_
      refine g_iload (pc' := 158) C dX11_copy_156 4 rfl rfl ?_
      refine g_iadd (pc' := 159) C dX11_copy_158 rfl ?_
      refine g_aload_n (pc' := 160) C dX11_copy_159 0 rfl rfl ?_
      refine gg_X11_60 (pc' := 163) C dX11_copy_160 rfl ?_
      refine g_iload (pc' := 165) C dX11_copy_163 4 rfl rfl ?_
      obtain ⟨h15, h⟩ := chk_some h
      refine g_lald (pc' := 166) C (o := 16) (by decide) rfl (inb_d h15) dX11_copy_165 rfl ?_
      obtain ⟨h16, h⟩ := chk_some h
      obtain ⟨s17, e18, h⟩ := let_some h
      refine g_last (pc' := 167) C (o := 15) (by decide) rfl (inb_d h16) dX11_copy_166 rfl e18 ?_
      obtain ⟨v19, e20, h⟩ := let_some h
      refine g_iinc (pc' := 170) (v := v19) (lv' := [(6, .int v19), (0, .ref (base + 0)), (3, .int x3), (4, .int x4), (5, .int x5)]) C dX11_copy_167 4 rfl (by rw [e20]; rfl) (by decide) rfl rfl ?_
      refine g_goto (tgt := 138) C dX11_copy_170 (by decide) ?_
      exact g_sub C [1, 2, 3, 4, 0] rfl (ih _ _ _ _ _ h)
noncomputable def f_X11_copy_B135  (σ : cr_S) (x3 : Int32) (x4 : Int32) (x5 : Int32) : Option (cr_S × Int32) :=
  f_X11_copy_L138 cr_fuel σ x3 x4 x5 0
set_option maxRecDepth 100000 in
set_option maxHeartbeats 4000000 in
theorem w_X11_copy_B135 (C : cr_C p l e R s m args below meth c sfM 17 base D cA cX11_copy 7 RX11) (hr : meth.sig.returnType = some .int) (hR : 2 ≤ R.frames ∧ 45 ≤ R.locals) {res : cr_S × Int32}  (σ : cr_S) (x3 : Int32) (x4 : Int32) (x5 : Int32) (h : f_X11_copy_B135 σ x3 x4 x5 = some res) : cr_W p l e R s m args below meth c sfM 17 base D cA 7 (MQ below (cr_Qi sfM 17 base D cA res) args s 0 0 (cr_A 17 base)) σ 135 [(0, .ref (base + 0)), (3, .int x3), (4, .int x4), (5, .int x5)] [] := by
  unfold f_X11_copy_B135 at h
  refine g_iconst (pc' := 136) (v := 0) C dX11_copy_135 (by decide) rfl ?_
  refine g_istore (pc' := 138) (lv' := [(6, .int 0), (0, .ref (base + 0)), (3, .int x3), (4, .int x4), (5, .int x5)]) C dX11_copy_136 (by decide) rfl rfl ?_
  exact g_sub C [1, 2, 3, 4, 0] rfl (w_X11_copy_L138 C hr hR _ _ _ _ _ _ h)
noncomputable def f_X11_copy_L101  : Nat → cr_S → Int32 → Int32 → Int32 → Int32 → Int32 → Int32 → Option (cr_S × Int32)
  | 0, _, _, _, _, _, _, _ => none
  | n + 1, σ, x1, x2, x3, x4, x5, x6 =>
    (if x5 ≤ x6 then f_X11_copy_B135 σ x3 x4 x5 else chk (inb (((16 * x1) + x2) + x6) 64) (chk (inb x6 16) (cr_let (sL σ 16 x6 (rL σ 15 (((16 * x1) + x2) + x6))) (fun s23 => cr_let (x6 + 1) (fun v25 => f_X11_copy_L101 n s23 x1 x2 x3 x4 x5 v25)))))
set_option maxRecDepth 100000 in
set_option maxHeartbeats 4000000 in
theorem w_X11_copy_L101 (C : cr_C p l e R s m args below meth c sfM 17 base D cA cX11_copy 7 RX11) (hr : meth.sig.returnType = some .int) (hR : 2 ≤ R.frames ∧ 45 ≤ R.locals) {res : cr_S × Int32}  : ∀ (n : Nat) (σ : cr_S) (x1 : Int32) (x2 : Int32) (x3 : Int32) (x4 : Int32) (x5 : Int32) (x6 : Int32), f_X11_copy_L101 n σ x1 x2 x3 x4 x5 x6 = some res → cr_W p l e R s m args below meth c sfM 17 base D cA 7 (MQ below (cr_Qi sfM 17 base D cA res) args s 0 0 (cr_A 17 base)) σ 101 [(0, .ref (base + 0)), (1, .int x1), (2, .int x2), (3, .int x3), (4, .int x4), (5, .int x5), (6, .int x6)] [] := by
  intro n
  induction n with
  | zero =>
    intro σ x1 x2 x3 x4 x5 x6 h
    cases h
  | succ n ih =>
    intro σ x1 x2 x3 x4 x5 x6 h
    rw [f_X11_copy_L101] at h
    refine g_iload (pc' := 103) C dX11_copy_101 6 rfl rfl ?_
    refine g_iload (pc' := 105) C dX11_copy_103 5 rfl rfl ?_
    refine g_icmp_ge (pc' := 108) (tgt := 135) C dX11_copy_105 (by decide) rfl (fun hc => ?_) (fun hc => ?_)
    · rw [if_pos hc] at h
      exact g_sub C [0, 3, 4, 5] rfl (w_X11_copy_B135 C hr hR _ _ _ _ h)
    · rw [if_neg hc] at h
      refine g_aload_n (pc' := 109) C dX11_copy_108 0 rfl rfl ?_
      refine gg_X11_60 (pc' := 112) C dX11_copy_109 rfl ?_
      refine g_iload (pc' := 114) C dX11_copy_112 6 rfl rfl ?_
      refine g_aload_n (pc' := 115) C dX11_copy_114 0 rfl rfl ?_
      refine gg_X11_56 (pc' := 118) C dX11_copy_115 rfl ?_
      refine g_bipush (pc' := 120) (v := 16) C dX11_copy_118 (by decide) rfl ?_
      refine g_iload_n (pc' := 121) C dX11_copy_120 1 rfl rfl ?_
      refine g_imul (pc' := 122) C dX11_copy_121 rfl ?_
      refine g_iload_n (pc' := 123) C dX11_copy_122 2 rfl rfl ?_
      refine g_iadd (pc' := 124) C dX11_copy_123 rfl ?_
      refine g_iload (pc' := 126) C dX11_copy_124 6 rfl rfl ?_
      refine g_iadd (pc' := 127) C dX11_copy_126 rfl ?_
      obtain ⟨h21, h⟩ := chk_some h
      refine g_lald (pc' := 128) C (o := 15) (by decide) rfl (inb_d h21) dX11_copy_127 rfl ?_
      obtain ⟨h22, h⟩ := chk_some h
      obtain ⟨s23, e24, h⟩ := let_some h
      refine g_last (pc' := 129) C (o := 16) (by decide) rfl (inb_d h22) dX11_copy_128 rfl e24 ?_
      obtain ⟨v25, e26, h⟩ := let_some h
      refine g_iinc (pc' := 132) (v := v25) (lv' := [(6, .int v25), (0, .ref (base + 0)), (1, .int x1), (2, .int x2), (3, .int x3), (4, .int x4), (5, .int x5)]) C dX11_copy_129 6 rfl (by rw [e26]; rfl) (by decide) rfl rfl ?_
      refine g_goto (tgt := 101) C dX11_copy_132 (by decide) ?_
      exact g_sub C [1, 2, 3, 4, 5, 6, 0] rfl (ih _ _ _ _ _ _ _ h)
noncomputable def f_X11_copy (σ : cr_S) (a1 : Int32) (a2 : Int32) (a3 : Int32) (a4 : Int32) (a5 : Int32) : Option (cr_S × Int32) :=
  Option.bind (f_X11_isSheet σ a1) (fun q1 => (if q1.2 = 0 then some (q1.1, (-1)) else Option.bind (f_X11_isSheet q1.1 a3) (fun q3 => (if q3.2 = 0 then some (q3.1, (-1)) else chk (inb a1 4) ((if (rA q3.1 13 a1) < 0 then some (q3.1, (-11)) else chk (inb a3 4) ((if 0 ≤ (rA q3.1 13 a3) then chk (inb a1 4) (chk (inb a3 4) ((if (rA q3.1 13 a1) = (rA q3.1 13 a3) then (if a5 < 0 then some (q3.1, (-13)) else chk (inb a1 4) (Option.bind (f_X11_why q3.1 a1 (rA q3.1 13 a1) a2 a5) (fun q10 => (if q10.2 < 0 then some (q10.1, (-13)) else chk (inb a3 4) (Option.bind (f_X11_why q10.1 a3 (rA q10.1 13 a3) a4 a5) (fun q13 => (if 0 ≤ q13.2 then f_X11_copy_L101 cr_fuel q13.1 a1 a2 a3 a4 a5 0 else some (q13.1, (-13))))))))) else some (q3.1, (-12))))) else some (q3.1, (-11))))))))))
set_option maxRecDepth 100000 in
set_option maxHeartbeats 4000000 in
theorem w_X11_copy (C : cr_C p l e R s m args below meth c sfM 17 base D cA cX11_copy 7 RX11) (hr : meth.sig.returnType = some .int) (hR : 2 ≤ R.frames ∧ 45 ≤ R.locals) {res : cr_S × Int32} (σ : cr_S) (a1 : Int32) (a2 : Int32) (a3 : Int32) (a4 : Int32) (a5 : Int32) (h : f_X11_copy σ a1 a2 a3 a4 a5 = some res) : cr_W p l e R s m args below meth c sfM 17 base D cA 7 (MQ below (cr_Qi sfM 17 base D cA res) args s 0 0 (cr_A 17 base)) σ 0 [(0, .ref (base + 0)), (1, .int a1), (2, .int a2), (3, .int a3), (4, .int a4), (5, .int a5)] [] := by
  unfold f_X11_copy at h
  refine g_iload_n (pc' := 1) C dX11_copy_0 1 rfl rfl ?_
  obtain ⟨q1, h2, h⟩ := bind_some h
  refine g_callSi (pc' := 4) (res := q1) C [.int a1] cY_X11_isSheet mv_X11_isSheet mm_X11_273 ⟨Nat.le_trans (by decide) hR.1, Nat.le_trans (by decide) hR.2⟩ rfl (Nat.le_of_ble_eq_true rfl) rfl dX11_copy_1 (c_X11_isSheet l base D cA σ a1 q1 h2) rfl ?_
  refine g_if_eq (pc' := 7) (tgt := 14) C dX11_copy_4 (by decide) rfl (fun hc => ?_) (fun hc => ?_)
  · rw [if_pos hc] at h
    refine g_iconst (pc' := 15) (v := (-1)) C dX11_copy_14 (by decide) rfl ?_
    exact g_iret C hr dX11_copy_15 h
  · rw [if_neg hc] at h
    refine g_iload_n (pc' := 8) C dX11_copy_7 3 rfl rfl ?_
    obtain ⟨q3, h4, h⟩ := bind_some h
    refine g_callSi (pc' := 11) (res := q3) C [.int a3] cY_X11_isSheet mv_X11_isSheet mm_X11_273 ⟨Nat.le_trans (by decide) hR.1, Nat.le_trans (by decide) hR.2⟩ rfl (Nat.le_of_ble_eq_true rfl) rfl dX11_copy_8 (c_X11_isSheet l base D cA q1.1 a3 q3 h4) rfl ?_
    refine g_if_ne (pc' := 14) (tgt := 16) C dX11_copy_11 (by decide) rfl (fun hc => ?_) (fun hc => ?_)
    · rw [if_neg hc] at h
      refine g_aload_n (pc' := 17) C dX11_copy_16 0 rfl rfl ?_
      refine gg_X11_50 (pc' := 20) C dX11_copy_17 rfl ?_
      refine g_iload_n (pc' := 21) C dX11_copy_20 1 rfl rfl ?_
      obtain ⟨h5, h⟩ := chk_some h
      refine g_iald (pc' := 22) C (o := 13) (by decide) rfl (inb_d h5) dX11_copy_21 rfl ?_
      refine g_if_lt (pc' := 25) (tgt := 34) C dX11_copy_22 (by decide) rfl (fun hc => ?_) (fun hc => ?_)
      · rw [if_pos hc] at h
        refine g_bipush (pc' := 36) (v := (-11)) C dX11_copy_34 (by decide) rfl ?_
        exact g_iret C hr dX11_copy_36 h
      · rw [if_neg hc] at h
        refine g_aload_n (pc' := 26) C dX11_copy_25 0 rfl rfl ?_
        refine gg_X11_50 (pc' := 29) C dX11_copy_26 rfl ?_
        refine g_iload_n (pc' := 30) C dX11_copy_29 3 rfl rfl ?_
        obtain ⟨h6, h⟩ := chk_some h
        refine g_iald (pc' := 31) C (o := 13) (by decide) rfl (inb_d h6) dX11_copy_30 rfl ?_
        refine g_if_ge (pc' := 34) (tgt := 37) C dX11_copy_31 (by decide) rfl (fun hc => ?_) (fun hc => ?_)
        · rw [if_pos hc] at h
          refine g_aload_n (pc' := 38) C dX11_copy_37 0 rfl rfl ?_
          refine gg_X11_50 (pc' := 41) C dX11_copy_38 rfl ?_
          refine g_iload_n (pc' := 42) C dX11_copy_41 1 rfl rfl ?_
          obtain ⟨h7, h⟩ := chk_some h
          refine g_iald (pc' := 43) C (o := 13) (by decide) rfl (inb_d h7) dX11_copy_42 rfl ?_
          refine g_aload_n (pc' := 44) C dX11_copy_43 0 rfl rfl ?_
          refine gg_X11_50 (pc' := 47) C dX11_copy_44 rfl ?_
          refine g_iload_n (pc' := 48) C dX11_copy_47 3 rfl rfl ?_
          obtain ⟨h8, h⟩ := chk_some h
          refine g_iald (pc' := 49) C (o := 13) (by decide) rfl (inb_d h8) dX11_copy_48 rfl ?_
          refine g_icmp_eq (pc' := 52) (tgt := 55) C dX11_copy_49 (by decide) rfl (fun hc => ?_) (fun hc => ?_)
          · rw [if_pos hc] at h
            refine g_iload (pc' := 57) C dX11_copy_55 5 rfl rfl ?_
            refine g_if_lt (pc' := 60) (tgt := 95) C dX11_copy_57 (by decide) rfl (fun hc => ?_) (fun hc => ?_)
            · rw [if_pos hc] at h
              refine g_bipush (pc' := 97) (v := (-13)) C dX11_copy_95 (by decide) rfl ?_
              exact g_iret C hr dX11_copy_97 h
            · rw [if_neg hc] at h
              refine g_aload_n (pc' := 61) C dX11_copy_60 0 rfl rfl ?_
              refine g_iload_n (pc' := 62) C dX11_copy_61 1 rfl rfl ?_
              refine g_aload_n (pc' := 63) C dX11_copy_62 0 rfl rfl ?_
              refine gg_X11_50 (pc' := 66) C dX11_copy_63 rfl ?_
              refine g_iload_n (pc' := 67) C dX11_copy_66 1 rfl rfl ?_
              obtain ⟨h9, h⟩ := chk_some h
              refine g_iald (pc' := 68) C (o := 13) (by decide) rfl (inb_d h9) dX11_copy_67 rfl ?_
              refine g_iload_n (pc' := 69) C dX11_copy_68 2 rfl rfl ?_
              refine g_iload (pc' := 71) C dX11_copy_69 5 rfl rfl ?_
              obtain ⟨q10, h11, h⟩ := bind_some h
              refine g_callVi (pc' := 74) (res := q10) C [.int a1, .int (rA q3.1 13 a1), .int a2, .int a5] cY_X11_why rfl (o := 0) (by decide) rfl mv_X11_why mm_X11_279 ⟨Nat.le_trans (by decide) hR.1, Nat.le_trans (by decide) hR.2⟩ rfl (Nat.le_of_ble_eq_true rfl) rfl dX11_copy_71 (c_X11_why l base D cA q3.1 a1 (rA q3.1 13 a1) a2 a5 q10 h11) rfl ?_
              refine g_if_lt (pc' := 77) (tgt := 95) C dX11_copy_74 (by decide) rfl (fun hc => ?_) (fun hc => ?_)
              · rw [if_pos hc] at h
                refine g_bipush (pc' := 97) (v := (-13)) C dX11_copy_95 (by decide) rfl ?_
                exact g_iret C hr dX11_copy_97 h
              · rw [if_neg hc] at h
                refine g_aload_n (pc' := 78) C dX11_copy_77 0 rfl rfl ?_
                refine g_iload_n (pc' := 79) C dX11_copy_78 3 rfl rfl ?_
                refine g_aload_n (pc' := 80) C dX11_copy_79 0 rfl rfl ?_
                refine gg_X11_50 (pc' := 83) C dX11_copy_80 rfl ?_
                refine g_iload_n (pc' := 84) C dX11_copy_83 3 rfl rfl ?_
                obtain ⟨h12, h⟩ := chk_some h
                refine g_iald (pc' := 85) C (o := 13) (by decide) rfl (inb_d h12) dX11_copy_84 rfl ?_
                refine g_iload (pc' := 87) C dX11_copy_85 4 rfl rfl ?_
                refine g_iload (pc' := 89) C dX11_copy_87 5 rfl rfl ?_
                obtain ⟨q13, h14, h⟩ := bind_some h
                refine g_callVi (pc' := 92) (res := q13) C [.int a3, .int (rA q10.1 13 a3), .int a4, .int a5] cY_X11_why rfl (o := 0) (by decide) rfl mv_X11_why mm_X11_279 ⟨Nat.le_trans (by decide) hR.1, Nat.le_trans (by decide) hR.2⟩ rfl (Nat.le_of_ble_eq_true rfl) rfl dX11_copy_89 (c_X11_why l base D cA q10.1 a3 (rA q10.1 13 a3) a4 a5 q13 h14) rfl ?_
                refine g_if_ge (pc' := 95) (tgt := 98) C dX11_copy_92 (by decide) rfl (fun hc => ?_) (fun hc => ?_)
                · rw [if_pos hc] at h
                  refine g_iconst (pc' := 99) (v := 0) C dX11_copy_98 (by decide) rfl ?_
                  refine g_istore (pc' := 101) (lv' := [(6, .int 0), (0, .ref (base + 0)), (1, .int a1), (2, .int a2), (3, .int a3), (4, .int a4), (5, .int a5)]) C dX11_copy_99 (by decide) rfl rfl ?_
                  exact g_sub C [1, 2, 3, 4, 5, 6, 0] rfl (w_X11_copy_L101 C hr hR _ _ _ _ _ _ _ _ h)
                · rw [if_neg hc] at h
                  refine g_bipush (pc' := 97) (v := (-13)) C dX11_copy_95 (by decide) rfl ?_
                  exact g_iret C hr dX11_copy_97 h
          · rw [if_neg hc] at h
            refine g_bipush (pc' := 54) (v := (-12)) C dX11_copy_52 (by decide) rfl ?_
            exact g_iret C hr dX11_copy_54 h
        · rw [if_neg hc] at h
          refine g_bipush (pc' := 36) (v := (-11)) C dX11_copy_34 (by decide) rfl ?_
          exact g_iret C hr dX11_copy_36 h
    · rw [if_pos hc] at h
      refine g_iconst (pc' := 15) (v := (-1)) C dX11_copy_14 (by decide) rfl ?_
      exact g_iret C hr dX11_copy_15 h
theorem c_X11_copy (l : Launch) (base : Nat) (D : va_G) (cA : Nat → ClassId) (σ : cr_S) (a1 : Int32) (a2 : Int32) (a3 : Int32) (a4 : Int32) (a5 : Int32) (res : cr_S × Int32) (h : f_X11_copy σ a1 a2 a3 a4 a5 = some res) : cr_M l yX11_copy cX11_copy 7 (some .int) 2 45 sfM 17 base D cA [.ref (base + 0), .int a1, .int a2, .int a3, .int a4, .int a5] σ (cr_Qi sfM 17 base D cA res) := by
  refine cr_enter [.ref (base + 0), .int a1, .int a2, .int a3, .int a4, .int a5] [(0, .ref (base + 0)), (1, .int a1), (2, .int a2), (3, .int a3), (4, .int a4), (5, .int a5)] (by decide) (Nat.le_of_ble_eq_true rfl) rfl ?_
  intro p e R s m below meth c C hr hR
  exact w_X11_copy C hr hR σ a1 a2 a3 a4 a5 h
end

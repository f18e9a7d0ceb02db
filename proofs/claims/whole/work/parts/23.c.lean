section
variable {p : Program} {l : Launch} {e : Env} {R : Room} {s : State} {m : MethodId} {args : Array Value} {below : List Frame} {meth : Method} {c : Code} {base : Nat} {D : va_G} {cA : Nat → ClassId}
noncomputable def f_X7_isPairRead_55_B101  (σ : cr_S) (x1 : Nat) (x2 : Int32) (x3 : Int32) (x4 : Int32) (x5 : Int32) (t0 : Int32) : Option (cr_S × Int32) :=
  (if 0 ≤ t0 then Option.bind (f_X3_become σ x1 x2 x3 x4 x5) (fun q21 => chk (kC x1 = 3) (chk (kC x1 = 3) (cr_let (sF q21 x1 4 t0) (fun s25 => some (s25, 1))))) else some (σ, 0))
set_option maxRecDepth 100000 in
set_option maxHeartbeats 4000000 in
theorem w_X7_isPairRead_55_B101 (C : cr_C p l e R s m args below meth c sfC 97 base D cA cX7_isPairRead 7 RX7) (hr : meth.sig.returnType = some .boolean) (hR : 5 ≤ R.frames ∧ 113 ≤ R.locals) {res : cr_S × Int32}  (σ : cr_S) (x1 : Nat) (x2 : Int32) (x3 : Int32) (x4 : Int32) (x5 : Int32) (t0 : Int32) (h : f_X7_isPairRead_55_B101 σ x1 x2 x3 x4 x5 t0 = some res) : cr_W p l e R s m args below meth c sfC 97 base D cA 7 (MQ below (cr_Qi sfC 97 base D cA res) args s 0 0 (cr_A 97 base)) σ 101 [(1, .ref (base + x1)), (2, .int x2), (3, .int x3), (4, .int x4), (5, .int x5)] [.int t0] := by
  unfold f_X7_isPairRead_55_B101 at h
  refine g_istore (pc' := 103) (lv' := [(6, .int t0), (1, .ref (base + x1)), (2, .int x2), (3, .int x3), (4, .int x4), (5, .int x5)]) C dX7_isPairRead_101 (by decide) rfl rfl ?_
  refine g_iload (pc' := 105) C dX7_isPairRead_103 0 rfl rfl ?_
  refine g_if_ge (pc' := 108) (tgt := 110) C dX7_isPairRead_105 (by decide) rfl (fun hc => ?_) (fun hc => ?_)
  · rw [if_pos hc] at h
    refine g_aload_n (pc' := 111) C dX7_isPairRead_110 1 rfl rfl ?_
    refine g_iload_n (pc' := 112) C dX7_isPairRead_111 2 rfl rfl ?_
    refine g_iload_n (pc' := 113) C dX7_isPairRead_112 3 rfl rfl ?_
    refine g_iload (pc' := 115) C dX7_isPairRead_113 4 rfl rfl ?_
    refine g_iload (pc' := 117) C dX7_isPairRead_115 5 rfl rfl ?_
    obtain ⟨q21, h22, h⟩ := bind_some h
    obtain ⟨h23, h⟩ := chk_some h
    refine g_callVv (pc' := 120) (res := q21) C [.int x2, .int x3, .int x4, .int x5] cY_X3_become rfl (o := x1) (kC_lt h23 (by decide)) (sfC_3 h23) mv_X3_become mm_X7_72 ⟨Nat.le_trans (by decide) hR.1, Nat.le_trans (by decide) hR.2⟩ rfl (Nat.le_of_ble_eq_true rfl) rfl dX7_isPairRead_117 (c_X3_become l base D cA σ x1 x2 x3 x4 x5 q21 h22) rfl ?_
    refine g_aload_n (pc' := 121) C dX7_isPairRead_120 1 rfl rfl ?_
    refine g_iload (pc' := 123) C dX7_isPairRead_121 0 rfl rfl ?_
    obtain ⟨h24, h⟩ := chk_some h
    obtain ⟨s25, e26, h⟩ := let_some h
    refine gp_X7_76 (pc' := 126) (o := x1) C h24 dX7_isPairRead_123 rfl e26 ?_
    refine g_iconst (pc' := 127) (v := 1) C dX7_isPairRead_126 (by decide) rfl ?_
    exact g_zret C hr rfl dX7_isPairRead_127 h
  · rw [if_neg hc] at h
    refine g_iconst (pc' := 109) (v := 0) C dX7_isPairRead_108 (by decide) rfl ?_
    exact g_zret C hr rfl dX7_isPairRead_109 h
noncomputable def f_X7_isPairRead_55_B22  (σ : cr_S) (x1 : Nat) (x2 : Int32) (t0 : Int32) : Option (cr_S × Int32) :=
  (if t0 < 0 then some (σ, 0) else Option.bind (f_X7_isTaken_55 σ 47) (fun q7 => (if q7.2 = 0 then some (q7.1, 0) else Option.bind (f_X7_numberRead_55 q7.1 2 24) (fun q9 => cr_let q9.2 (fun v11 => (if v11 < 0 then some (q9.1, 0) else Option.bind (f_X7_isTaken_55 q9.1 47) (fun q13 => (if q13.2 = 0 then some (q13.1, 0) else Option.bind (f_X7_numberRead_55 q13.1 1 v11) (fun q15 => cr_let q15.2 (fun v17 => (if 0 ≤ v17 then Option.bind (f_X7_isTaken_55 q15.1 43) (fun q19 => (if q19.2 = 0 then f_X7_isPairRead_55_B101 q19.1 x1 x2 t0 v11 v17 0 else Option.bind (f_X7_numberRead_55 q19.1 0 (v11 - 1)) (fun q27 => f_X7_isPairRead_55_B101 q27.1 x1 x2 t0 v11 v17 q27.2))) else some (q15.1, 0))))))))))))
set_option maxRecDepth 100000 in
set_option maxHeartbeats 4000000 in
theorem w_X7_isPairRead_55_B22 (C : cr_C p l e R s m args below meth c sfC 97 base D cA cX7_isPairRead 7 RX7) (hr : meth.sig.returnType = some .boolean) (hR : 5 ≤ R.frames ∧ 113 ≤ R.locals) {res : cr_S × Int32}  (σ : cr_S) (x1 : Nat) (x2 : Int32) (t0 : Int32) (h : f_X7_isPairRead_55_B22 σ x1 x2 t0 = some res) : cr_W p l e R s m args below meth c sfC 97 base D cA 7 (MQ below (cr_Qi sfC 97 base D cA res) args s 0 0 (cr_A 97 base)) σ 22 [(0, .ref (base + 55)), (1, .ref (base + x1)), (2, .int x2)] [.int t0] := by
  unfold f_X7_isPairRead_55_B22 at h
  refine g_istore_n (pc' := 23) (lv' := [(3, .int t0), (0, .ref (base + 55)), (1, .ref (base + x1)), (2, .int x2)]) C dX7_isPairRead_22 rfl (by decide) rfl rfl ?_
  refine g_iload_n (pc' := 24) C dX7_isPairRead_23 0 rfl rfl ?_
  refine g_if_lt (pc' := 27) (tgt := 36) C dX7_isPairRead_24 (by decide) rfl (fun hc => ?_) (fun hc => ?_)
  · rw [if_pos hc] at h
    refine g_iconst (pc' := 37) (v := 0) C dX7_isPairRead_36 (by decide) rfl ?_
    exact g_zret C hr rfl dX7_isPairRead_37 h
  · rw [if_neg hc] at h
    refine g_aload_n (pc' := 28) C dX7_isPairRead_27 1 rfl rfl ?_
    refine g_bipush (pc' := 30) (v := 47) C dX7_isPairRead_28 (by decide) rfl ?_
    obtain ⟨q7, h8, h⟩ := bind_some h
    refine g_callVi (pc' := 33) (res := q7) C [.int 47] cY_X7_isTaken rfl (o := 55) (by decide) rfl mv_X7_isTaken mm_X7_46 ⟨Nat.le_trans (by decide) hR.1, Nat.le_trans (by decide) hR.2⟩ rfl (Nat.le_of_ble_eq_true rfl) rfl dX7_isPairRead_30 (c_X7_isTaken_55 l base D cA σ 47 q7 h8) rfl ?_
    refine g_if_ne (pc' := 36) (tgt := 38) C dX7_isPairRead_33 (by decide) rfl (fun hc => ?_) (fun hc => ?_)
    · rw [if_neg hc] at h
      refine g_aload_n (pc' := 39) C dX7_isPairRead_38 1 rfl rfl ?_
      refine g_iconst (pc' := 40) (v := 2) C dX7_isPairRead_39 (by decide) rfl ?_
      refine g_bipush (pc' := 42) (v := 24) C dX7_isPairRead_40 (by decide) rfl ?_
      obtain ⟨q9, h10, h⟩ := bind_some h
      refine g_callVi (pc' := 45) (res := q9) C [.int 2, .int 24] cY_X7_numberRead rfl (o := 55) (by decide) rfl mv_X7_numberRead mm_X7_68 ⟨Nat.le_trans (by decide) hR.1, Nat.le_trans (by decide) hR.2⟩ rfl (Nat.le_of_ble_eq_true rfl) rfl dX7_isPairRead_42 (c_X7_numberRead_55 l base D cA q7.1 2 24 q9 h10) rfl ?_
      obtain ⟨v11, e12, h⟩ := let_some h
      refine g_nameI e12 ?_
      refine g_istore (pc' := 47) (lv' := [(4, .int v11), (3, .int t0), (0, .ref (base + 55)), (1, .ref (base + x1)), (2, .int x2)]) C dX7_isPairRead_45 (by decide) rfl rfl ?_
      refine g_iload (pc' := 49) C dX7_isPairRead_47 0 rfl rfl ?_
      refine g_if_lt (pc' := 52) (tgt := 61) C dX7_isPairRead_49 (by decide) rfl (fun hc => ?_) (fun hc => ?_)
      · rw [if_pos hc] at h
        refine g_iconst (pc' := 62) (v := 0) C dX7_isPairRead_61 (by decide) rfl ?_
        exact g_zret C hr rfl dX7_isPairRead_62 h
      · rw [if_neg hc] at h
        refine g_aload_n (pc' := 53) C dX7_isPairRead_52 2 rfl rfl ?_
        refine g_bipush (pc' := 55) (v := 47) C dX7_isPairRead_53 (by decide) rfl ?_
        obtain ⟨q13, h14, h⟩ := bind_some h
        refine g_callVi (pc' := 58) (res := q13) C [.int 47] cY_X7_isTaken rfl (o := 55) (by decide) rfl mv_X7_isTaken mm_X7_46 ⟨Nat.le_trans (by decide) hR.1, Nat.le_trans (by decide) hR.2⟩ rfl (Nat.le_of_ble_eq_true rfl) rfl dX7_isPairRead_55 (c_X7_isTaken_55 l base D cA q9.1 47 q13 h14) rfl ?_
        refine g_if_ne (pc' := 61) (tgt := 63) C dX7_isPairRead_58 (by decide) rfl (fun hc => ?_) (fun hc => ?_)
        · rw [if_neg hc] at h
          refine g_aload_n (pc' := 64) C dX7_isPairRead_63 2 rfl rfl ?_
          refine g_iconst (pc' := 65) (v := 1) C dX7_isPairRead_64 (by decide) rfl ?_
          refine g_iload (pc' := 67) C dX7_isPairRead_65 0 rfl rfl ?_
          obtain ⟨q15, h16, h⟩ := bind_some h
          refine g_callVi (pc' := 70) (res := q15) C [.int 1, .int v11] cY_X7_numberRead rfl (o := 55) (by decide) rfl mv_X7_numberRead mm_X7_68 ⟨Nat.le_trans (by decide) hR.1, Nat.le_trans (by decide) hR.2⟩ rfl (Nat.le_of_ble_eq_true rfl) rfl dX7_isPairRead_67 (c_X7_numberRead_55 l base D cA q13.1 1 v11 q15 h16) rfl ?_
          obtain ⟨v17, e18, h⟩ := let_some h
          refine g_nameI e18 ?_
          refine g_istore (pc' := 72) (lv' := [(5, .int v17), (4, .int v11), (3, .int t0), (0, .ref (base + 55)), (1, .ref (base + x1)), (2, .int x2)]) C dX7_isPairRead_70 (by decide) rfl rfl ?_
          refine g_iload (pc' := 74) C dX7_isPairRead_72 0 rfl rfl ?_
          refine g_if_ge (pc' := 77) (tgt := 79) C dX7_isPairRead_74 (by decide) rfl (fun hc => ?_) (fun hc => ?_)
          · rw [if_pos hc] at h
            refine g_aload_n (pc' := 80) C dX7_isPairRead_79 3 rfl rfl ?_
            refine g_bipush (pc' := 82) (v := 43) C dX7_isPairRead_80 (by decide) rfl ?_
            obtain ⟨q19, h20, h⟩ := bind_some h
            refine g_callVi (pc' := 85) (res := q19) C [.int 43] cY_X7_isTaken rfl (o := 55) (by decide) rfl mv_X7_isTaken mm_X7_46 ⟨Nat.le_trans (by decide) hR.1, Nat.le_trans (by decide) hR.2⟩ rfl (Nat.le_of_ble_eq_true rfl) rfl dX7_isPairRead_82 (c_X7_isTaken_55 l base D cA q15.1 43 q19 h20) rfl ?_
            refine g_if_eq (pc' := 88) (tgt := 100) C dX7_isPairRead_85 (by decide) rfl (fun hc => ?_) (fun hc => ?_)
            · rw [if_pos hc] at h
              refine g_iconst (pc' := 101) (v := 0) C dX7_isPairRead_100 (by decide) rfl ?_
              exact g_sub C [4, 5, 2, 1, 0] rfl (w_X7_isPairRead_55_B101 C hr hR _ _ _ _ _ _ _ h)
            · rw [if_neg hc] at h
              refine g_aload_n (pc' := 89) C dX7_isPairRead_88 3 rfl rfl ?_
              refine g_iconst (pc' := 90) (v := 0) C dX7_isPairRead_89 (by decide) rfl ?_
              refine g_iload (pc' := 92) C dX7_isPairRead_90 1 rfl rfl ?_
              refine g_iconst (pc' := 93) (v := 1) C dX7_isPairRead_92 (by decide) rfl ?_
              refine g_isub (pc' := 94) C dX7_isPairRead_93 rfl ?_
              obtain ⟨q27, h28, h⟩ := bind_some h
              refine g_callVi (pc' := 97) (res := q27) C [.int 0, .int (v11 - 1)] cY_X7_numberRead rfl (o := 55) (by decide) rfl mv_X7_numberRead mm_X7_68 ⟨Nat.le_trans (by decide) hR.1, Nat.le_trans (by decide) hR.2⟩ rfl (Nat.le_of_ble_eq_true rfl) rfl dX7_isPairRead_94 (c_X7_numberRead_55 l base D cA q19.1 0 (v11 - 1) q27 h28) rfl ?_
              refine g_goto (tgt := 101) C dX7_isPairRead_97 (by decide) ?_
              exact g_sub C [4, 5, 2, 1, 0] rfl (w_X7_isPairRead_55_B101 C hr hR _ _ _ _ _ _ _ h)
          · rw [if_neg hc] at h
            refine g_iconst (pc' := 78) (v := 0) C dX7_isPairRead_77 (by decide) rfl ?_
            exact g_zret C hr rfl dX7_isPairRead_78 h
        · rw [if_pos hc] at h
          refine g_iconst (pc' := 62) (v := 0) C dX7_isPairRead_61 (by decide) rfl ?_
          exact g_zret C hr rfl dX7_isPairRead_62 h
    · rw [if_pos hc] at h
      refine g_iconst (pc' := 37) (v := 0) C dX7_isPairRead_36 (by decide) rfl ?_
      exact g_zret C hr rfl dX7_isPairRead_37 h
noncomputable def f_X7_isPairRead_55 (σ : cr_S) (o1 : Nat) : Option (cr_S × Int32) :=
  Option.bind (f_X7_kindRead_55_100 σ) (fun q1 => cr_let q1.2 (fun v3 => (if 0 ≤ v3 then Option.bind (f_X7_numberRead_55 q1.1 1 30) (fun q5 => f_X7_isPairRead_55_B22 q5.1 o1 v3 q5.2) else f_X7_isPairRead_55_B22 q1.1 o1 v3 (-1))))
set_option maxRecDepth 100000 in
set_option maxHeartbeats 4000000 in
theorem w_X7_isPairRead_55 (C : cr_C p l e R s m args below meth c sfC 97 base D cA cX7_isPairRead 7 RX7) (hr : meth.sig.returnType = some .boolean) (hR : 5 ≤ R.frames ∧ 113 ≤ R.locals) {res : cr_S × Int32} (σ : cr_S) (o1 : Nat) (h : f_X7_isPairRead_55 σ o1 = some res) : cr_W p l e R s m args below meth c sfC 97 base D cA 7 (MQ below (cr_Qi sfC 97 base D cA res) args s 0 0 (cr_A 97 base)) σ 0 [(0, .ref (base + 55)), (1, .ref (base + o1))] [] := by
  unfold f_X7_isPairRead_55 at h
  refine g_aload_n (pc' := 1) C dX7_isPairRead_0 0 rfl rfl ?_
  refine g_ldcS (pc' := 3) C C.2.2.2.2.2.2.2.2.2.1 dX7_isPairRead_1 rfl ?_
  obtain ⟨q1, h2, h⟩ := bind_some h
  refine g_callVi (pc' := 6) (res := q1) C [.ref (cA 100)] cY_X7_kindRead rfl (o := 55) (by decide) rfl mv_X7_kindRead mm_X7_64 ⟨Nat.le_trans (by decide) hR.1, Nat.le_trans (by decide) hR.2⟩ rfl (Nat.le_of_ble_eq_true rfl) rfl dX7_isPairRead_3 (c_X7_kindRead_55_100 l base D cA σ q1 h2) rfl ?_
  obtain ⟨v3, e4, h⟩ := let_some h
  refine g_nameI e4 ?_
  refine g_istore_n (pc' := 7) (lv' := [(2, .int v3), (0, .ref (base + 55)), (1, .ref (base + o1))]) C dX7_isPairRead_6 rfl (by decide) rfl rfl ?_
  refine g_iload_n (pc' := 8) C dX7_isPairRead_7 0 rfl rfl ?_
  refine g_if_ge (pc' := 11) (tgt := 15) C dX7_isPairRead_8 (by decide) rfl (fun hc => ?_) (fun hc => ?_)
  · rw [if_pos hc] at h
    refine g_aload_n (pc' := 16) C dX7_isPairRead_15 1 rfl rfl ?_
    refine g_iconst (pc' := 17) (v := 1) C dX7_isPairRead_16 (by decide) rfl ?_
    refine g_bipush (pc' := 19) (v := 30) C dX7_isPairRead_17 (by decide) rfl ?_
    obtain ⟨q5, h6, h⟩ := bind_some h
    refine g_callVi (pc' := 22) (res := q5) C [.int 1, .int 30] cY_X7_numberRead rfl (o := 55) (by decide) rfl mv_X7_numberRead mm_X7_68 ⟨Nat.le_trans (by decide) hR.1, Nat.le_trans (by decide) hR.2⟩ rfl (Nat.le_of_ble_eq_true rfl) rfl dX7_isPairRead_19 (c_X7_numberRead_55 l base D cA q1.1 1 30 q5 h6) rfl ?_
    exact g_sub C [1, 2, 0] rfl (w_X7_isPairRead_55_B22 C hr hR _ _ _ _ h)
  · rw [if_neg hc] at h
    refine g_iconst (pc' := 12) (v := (-1)) C dX7_isPairRead_11 (by decide) rfl ?_
    refine g_goto (tgt := 22) C dX7_isPairRead_12 (by decide) ?_
    exact g_sub C [1, 2, 0] rfl (w_X7_isPairRead_55_B22 C hr hR _ _ _ _ h)
theorem c_X7_isPairRead_55 (l : Launch) (base : Nat) (D : va_G) (cA : Nat → ClassId) (σ : cr_S) (o1 : Nat) (res : cr_S × Int32) (h : f_X7_isPairRead_55 σ o1 = some res) : cr_M l yX7_isPairRead cX7_isPairRead 7 (some .boolean) 5 113 sfC 97 base D cA [.ref (base + 55), .ref (base + o1)] σ (cr_Qi sfC 97 base D cA res) := by
  refine cr_enter [.ref (base + 55), .ref (base + o1)] [(0, .ref (base + 55)), (1, .ref (base + o1))] (by decide) (Nat.le_of_ble_eq_true rfl) rfl ?_
  intro p e R s m below meth c C hr hR
  exact w_X7_isPairRead_55 C hr hR σ o1 h
noncomputable def f_X7_isStrait_55_B103  (σ : cr_S) : Option (cr_S × Int32) :=
  Option.bind (f_X7_letterHere_55 σ) (fun q9 => chk (isB (if q9.2 = 0 then 1 else 0)) (some (q9.1, if q9.2 = 0 then 1 else 0)))
set_option maxRecDepth 100000 in
set_option maxHeartbeats 4000000 in
theorem w_X7_isStrait_55_B103 (C : cr_C p l e R s m args below meth c sfC 97 base D cA cX7_isStrait 2 RX7) (hr : meth.sig.returnType = some .boolean) (hR : 7 ≤ R.frames ∧ 158 ≤ R.locals) {res : cr_S × Int32}  (σ : cr_S) (h : f_X7_isStrait_55_B103 σ = some res) : cr_W p l e R s m args below meth c sfC 97 base D cA 2 (MQ below (cr_Qi sfC 97 base D cA res) args s 0 0 (cr_A 97 base)) σ 103 [(0, .ref (base + 55))] [] := by
  unfold f_X7_isStrait_55_B103 at h
  refine g_aload_n (pc' := 104) C dX7_isStrait_103 0 rfl rfl ?_
  obtain ⟨q9, h10, h⟩ := bind_some h
  refine g_callVi (pc' := 107) (res := q9) C [] cY_X7_letterHere rfl (o := 55) (by decide) rfl mv_X7_letterHere mm_X7_54 ⟨Nat.le_trans (by decide) hR.1, Nat.le_trans (by decide) hR.2⟩ rfl (Nat.le_of_ble_eq_true rfl) rfl dX7_isStrait_104 (c_X7_letterHere_55 l base D cA σ q9 h10) rfl ?_
  refine g_iteI (σ := q9.1) (pj := 115) (lv := [(0, .ref (base + 55))]) (st := []) (cd := q9.2 = 0) (a := 1) (b := 0) C ?_ (fun kt kf => ?_)
  · obtain ⟨h11, h⟩ := chk_some h
    exact g_zret C hr (isB_n h11) dX7_isStrait_115 h
  · refine g_if_ne (pc' := 110) (tgt := 114) C dX7_isStrait_107 (by decide) rfl (fun hc => ?_) (fun hc => ?_)
    · refine g_iconst (pc' := 115) (v := 0) C dX7_isStrait_114 (by decide) rfl ?_
      exact kf hc
    · refine g_iconst (pc' := 111) (v := 1) C dX7_isStrait_110 (by decide) rfl ?_
      refine g_goto (tgt := 115) C dX7_isStrait_111 (by decide) ?_
      exact kt hc
noncomputable def f_X7_isStrait_55_B85  (σ : cr_S) : Option (cr_S × Int32) :=
  Option.bind (f_X7_isTaken_55 σ 59) (fun q7 => (if q7.2 = 0 then f_X7_isStrait_55_B103 q7.1 else Option.bind (f_X7_areShipsRead_55 q7.1) (fun q12 => (if q12.2 = 0 then some (q12.1, 0) else f_X7_isStrait_55_B103 q12.1))))
set_option maxRecDepth 100000 in
set_option maxHeartbeats 4000000 in
theorem w_X7_isStrait_55_B85 (C : cr_C p l e R s m args below meth c sfC 97 base D cA cX7_isStrait 2 RX7) (hr : meth.sig.returnType = some .boolean) (hR : 7 ≤ R.frames ∧ 158 ≤ R.locals) {res : cr_S × Int32}  (σ : cr_S) (h : f_X7_isStrait_55_B85 σ = some res) : cr_W p l e R s m args below meth c sfC 97 base D cA 2 (MQ below (cr_Qi sfC 97 base D cA res) args s 0 0 (cr_A 97 base)) σ 85 [(0, .ref (base + 55))] [] := by
  unfold f_X7_isStrait_55_B85 at h
  refine g_aload_n (pc' := 86) C dX7_isStrait_85 0 rfl rfl ?_
  refine g_bipush (pc' := 88) (v := 59) C dX7_isStrait_86 (by decide) rfl ?_
  obtain ⟨q7, h8, h⟩ := bind_some h
  refine g_callVi (pc' := 91) (res := q7) C [.int 59] cY_X7_isTaken rfl (o := 55) (by decide) rfl mv_X7_isTaken mm_X7_46 ⟨Nat.le_trans (by decide) hR.1, Nat.le_trans (by decide) hR.2⟩ rfl (Nat.le_of_ble_eq_true rfl) rfl dX7_isStrait_88 (c_X7_isTaken_55 l base D cA σ 59 q7 h8) rfl ?_
  refine g_if_eq (pc' := 94) (tgt := 103) C dX7_isStrait_91 (by decide) rfl (fun hc => ?_) (fun hc => ?_)
  · rw [if_pos hc] at h
    exact g_sub C [0] rfl (w_X7_isStrait_55_B103 C hr hR _ h)
  · rw [if_neg hc] at h
    refine g_aload_n (pc' := 95) C dX7_isStrait_94 0 rfl rfl ?_
    obtain ⟨q12, h13, h⟩ := bind_some h
    refine g_callVi (pc' := 98) (res := q12) C [] cY_X7_areShipsRead rfl (o := 55) (by decide) rfl mv_X7_areShipsRead mm_X7_50 ⟨Nat.le_trans (by decide) hR.1, Nat.le_trans (by decide) hR.2⟩ rfl (Nat.le_of_ble_eq_true rfl) rfl dX7_isStrait_95 (c_X7_areShipsRead_55 l base D cA q7.1 q12 h13) rfl ?_
    refine g_if_ne (pc' := 101) (tgt := 103) C dX7_isStrait_98 (by decide) rfl (fun hc => ?_) (fun hc => ?_)
    · rw [if_neg hc] at h
      exact g_sub C [0] rfl (w_X7_isStrait_55_B103 C hr hR _ h)
    · rw [if_pos hc] at h
      refine g_iconst (pc' := 102) (v := 0) C dX7_isStrait_101 (by decide) rfl ?_
      exact g_zret C hr rfl dX7_isStrait_102 h
noncomputable def f_X7_isStrait_55_B81 (r17 : cr_S → Int32 → Option (cr_S × Int32)) (σ : cr_S) (t0 : Int32) : Option (cr_S × Int32) :=
  r17 σ t0
set_option maxRecDepth 100000 in
set_option maxHeartbeats 4000000 in
theorem w_X7_isStrait_55_B81 (C : cr_C p l e R s m args below meth c sfC 97 base D cA cX7_isStrait 2 RX7) (hr : meth.sig.returnType = some .boolean) (hR : 7 ≤ R.frames ∧ 158 ≤ R.locals) {res : cr_S × Int32} (r17 : cr_S → Int32 → Option (cr_S × Int32)) (hr17 : ∀ (σ : cr_S) (x1 : Int32), r17 σ x1 = some res → cr_W p l e R s m args below meth c sfC 97 base D cA 2 (MQ below (cr_Qi sfC 97 base D cA res) args s 0 0 (cr_A 97 base)) σ 17 [(0, .ref (base + 55)), (1, .int x1)] []) (σ : cr_S) (t0 : Int32) (h : f_X7_isStrait_55_B81 r17 σ t0 = some res) : cr_W p l e R s m args below meth c sfC 97 base D cA 2 (MQ below (cr_Qi sfC 97 base D cA res) args s 0 0 (cr_A 97 base)) σ 81 [(0, .ref (base + 55))] [.int t0] := by
  unfold f_X7_isStrait_55_B81 at h
  refine g_istore_n (pc' := 82) (lv' := [(1, .int t0), (0, .ref (base + 55))]) C dX7_isStrait_81 rfl (by decide) rfl rfl ?_
  refine g_goto (tgt := 17) C dX7_isStrait_82 (by decide) ?_
  exact g_sub C [1, 0] rfl (hr17 _ _ h)
noncomputable def f_X7_isStrait_55_B80 (r17 : cr_S → Int32 → Option (cr_S × Int32)) (σ : cr_S) : Option (cr_S × Int32) :=
  f_X7_isStrait_55_B81 r17 σ 0
set_option maxRecDepth 100000 in
set_option maxHeartbeats 4000000 in
theorem w_X7_isStrait_55_B80 (C : cr_C p l e R s m args below meth c sfC 97 base D cA cX7_isStrait 2 RX7) (hr : meth.sig.returnType = some .boolean) (hR : 7 ≤ R.frames ∧ 158 ≤ R.locals) {res : cr_S × Int32} (r17 : cr_S → Int32 → Option (cr_S × Int32)) (hr17 : ∀ (σ : cr_S) (x1 : Int32), r17 σ x1 = some res → cr_W p l e R s m args below meth c sfC 97 base D cA 2 (MQ below (cr_Qi sfC 97 base D cA res) args s 0 0 (cr_A 97 base)) σ 17 [(0, .ref (base + 55)), (1, .int x1)] []) (σ : cr_S) (h : f_X7_isStrait_55_B80 r17 σ = some res) : cr_W p l e R s m args below meth c sfC 97 base D cA 2 (MQ below (cr_Qi sfC 97 base D cA res) args s 0 0 (cr_A 97 base)) σ 80 [(0, .ref (base + 55))] [] := by
  unfold f_X7_isStrait_55_B80 at h
  refine g_iconst (pc' := 81) (v := 0) C dX7_isStrait_80 (by decide) rfl ?_
  exact g_sub C [0] rfl (w_X7_isStrait_55_B81 C hr hR r17 hr17 _ _ h)
noncomputable def f_X7_isStrait_55_L17  : Nat → cr_S → Int32 → Option (cr_S × Int32)
  | 0, _, _ => none
  | n + 1, σ, x1 =>
    (if x1 = 0 then f_X7_isStrait_55_B85 σ else (if 6 ≤ (rF σ 55 4) then f_X7_isStrait_55_B85 σ else chk (inb (rF σ 55 4) 6) (Option.bind (f_X7_isPairRead_55 σ (59 + (rF σ 55 4).toNatClampNeg)) (fun q15 => (if q15.2 = 0 then some (q15.1, 0) else cr_let (sF q15.1 55 4 ((rF q15.1 55 4) + 1)) (fun s17 => (if 6 ≤ (rF s17 55 4) then f_X7_isStrait_55_B80 (f_X7_isStrait_55_L17 n) s17 else Option.bind (f_X7_isTaken_55 s17 44) (fun q19 => (if q19.2 = 0 then f_X7_isStrait_55_B80 (f_X7_isStrait_55_L17 n) q19.1 else f_X7_isStrait_55_B81 (f_X7_isStrait_55_L17 n) q19.1 1)))))))))
set_option maxRecDepth 100000 in
set_option maxHeartbeats 4000000 in
theorem w_X7_isStrait_55_L17 (C : cr_C p l e R s m args below meth c sfC 97 base D cA cX7_isStrait 2 RX7) (hr : meth.sig.returnType = some .boolean) (hR : 7 ≤ R.frames ∧ 158 ≤ R.locals) {res : cr_S × Int32}  : ∀ (n : Nat) (σ : cr_S) (x1 : Int32), f_X7_isStrait_55_L17 n σ x1 = some res → cr_W p l e R s m args below meth c sfC 97 base D cA 2 (MQ below (cr_Qi sfC 97 base D cA res) args s 0 0 (cr_A 97 base)) σ 17 [(0, .ref (base + 55)), (1, .int x1)] [] := by
  intro n
  induction n with
  | zero =>
    intro σ x1 h
    cases h
  | succ n ih =>
    intro σ x1 h
    rw [f_X7_isStrait_55_L17] at h
    refine g_iload_n (pc' := 18) C dX7_isStrait_17 1 rfl rfl ?_
    refine g_if_eq (pc' := 21) (tgt := 85) C dX7_isStrait_18 (by decide) rfl (fun hc => ?_) (fun hc => ?_)
    · rw [if_pos hc] at h
      exact g_sub C [0] rfl (w_X7_isStrait_55_B85 C hr hR _ h)
    · rw [if_neg hc] at h
      refine g_aload_n (pc' := 22) C dX7_isStrait_21 0 rfl rfl ?_
      refine gg_X7_36 (pc' := 25) (o := 55) C rfl dX7_isStrait_22 rfl ?_
      refine g_bipush (pc' := 27) (v := 6) C dX7_isStrait_25 (by decide) rfl ?_
      refine g_icmp_ge (pc' := 30) (tgt := 85) C dX7_isStrait_27 (by decide) rfl (fun hc => ?_) (fun hc => ?_)
      · rw [if_pos hc] at h
        exact g_sub C [0] rfl (w_X7_isStrait_55_B85 C hr hR _ h)
      · rw [if_neg hc] at h
        refine g_aload_n (pc' := 31) C dX7_isStrait_30 0 rfl rfl ?_
        refine g_aload_n (pc' := 32) C dX7_isStrait_31 0 rfl rfl ?_
        refine gg_X7_17 (pc' := 35) (o := 55) (r := 57) C rfl rfl dX7_isStrait_32 rfl ?_
        refine g_aload_n (pc' := 36) C dX7_isStrait_35 0 rfl rfl ?_
        refine gg_X7_36 (pc' := 39) (o := 55) C rfl dX7_isStrait_36 rfl ?_
        obtain ⟨h14, h⟩ := chk_some h
        refine g_aald (pc' := 40) C (o := 57) (by decide) rfl (cn := "ClashRocks$Pair") rfl (inb_d h14) dX7_isStrait_39 rfl ?_
        obtain ⟨q15, h16, h⟩ := bind_some h
        refine g_callVi (pc' := 43) (res := q15) C [.ref (base + (59 + (rF σ 55 4).toNatClampNeg))] cY_X7_isPairRead rfl (o := 55) (by decide) rfl mv_X7_isPairRead mm_X7_42 ⟨Nat.le_trans (by decide) hR.1, Nat.le_trans (by decide) hR.2⟩ rfl (Nat.le_of_ble_eq_true rfl) rfl dX7_isStrait_40 (c_X7_isPairRead_55 l base D cA σ (59 + (rF σ 55 4).toNatClampNeg) q15 h16) rfl ?_
        refine g_if_ne (pc' := 46) (tgt := 48) C dX7_isStrait_43 (by decide) rfl (fun hc => ?_) (fun hc => ?_)
        · rw [if_neg hc] at h
          refine g_aload_n (pc' := 49) C dX7_isStrait_48 0 rfl rfl ?_
          refine g_dup (pc' := 50) C dX7_isStrait_49 rfl rfl ?_
          refine gg_X7_36 (pc' := 53) (o := 55) C rfl dX7_isStrait_50 rfl ?_
          refine g_iconst (pc' := 54) (v := 1) C dX7_isStrait_53 (by decide) rfl ?_
          refine g_iadd (pc' := 55) C dX7_isStrait_54 rfl ?_
          obtain ⟨s17, e18, h⟩ := let_some h
          refine gp_X7_36 (pc' := 58) (o := 55) C rfl dX7_isStrait_55 rfl e18 ?_
          refine g_aload_n (pc' := 59) C dX7_isStrait_58 0 rfl rfl ?_
          refine gg_X7_36 (pc' := 62) (o := 55) C rfl dX7_isStrait_59 rfl ?_
          refine g_bipush (pc' := 64) (v := 6) C dX7_isStrait_62 (by decide) rfl ?_
          refine g_icmp_ge (pc' := 67) (tgt := 80) C dX7_isStrait_64 (by decide) rfl (fun hc => ?_) (fun hc => ?_)
          · rw [if_pos hc] at h
            exact g_sub C [0] rfl (w_X7_isStrait_55_B80 C hr hR (f_X7_isStrait_55_L17 n) ih _ h)
          · rw [if_neg hc] at h
            refine g_aload_n (pc' := 68) C dX7_isStrait_67 0 rfl rfl ?_
            refine g_bipush (pc' := 70) (v := 44) C dX7_isStrait_68 (by decide) rfl ?_
            obtain ⟨q19, h20, h⟩ := bind_some h
            refine g_callVi (pc' := 73) (res := q19) C [.int 44] cY_X7_isTaken rfl (o := 55) (by decide) rfl mv_X7_isTaken mm_X7_46 ⟨Nat.le_trans (by decide) hR.1, Nat.le_trans (by decide) hR.2⟩ rfl (Nat.le_of_ble_eq_true rfl) rfl dX7_isStrait_70 (c_X7_isTaken_55 l base D cA s17 44 q19 h20) rfl ?_
            refine g_if_eq (pc' := 76) (tgt := 80) C dX7_isStrait_73 (by decide) rfl (fun hc => ?_) (fun hc => ?_)
            · rw [if_pos hc] at h
              exact g_sub C [0] rfl (w_X7_isStrait_55_B80 C hr hR (f_X7_isStrait_55_L17 n) ih _ h)
            · rw [if_neg hc] at h
              refine g_iconst (pc' := 77) (v := 1) C dX7_isStrait_76 (by decide) rfl ?_
              refine g_goto (tgt := 81) C dX7_isStrait_77 (by decide) ?_
              exact g_sub C [0] rfl (w_X7_isStrait_55_B81 C hr hR (f_X7_isStrait_55_L17 n) ih _ _ h)
        · rw [if_pos hc] at h
          refine g_iconst (pc' := 47) (v := 0) C dX7_isStrait_46 (by decide) rfl ?_
          exact g_zret C hr rfl dX7_isStrait_47 h
noncomputable def f_X7_isStrait_55 (σ : cr_S) : Option (cr_S × Int32) :=
  cr_let (sF σ 55 6 0) (fun s1 => cr_let (sF s1 55 4 0) (fun s3 => cr_let (sF s3 55 5 0) (fun s5 => f_X7_isStrait_55_L17 cr_fuel s5 1)))
set_option maxRecDepth 100000 in
set_option maxHeartbeats 4000000 in
theorem w_X7_isStrait_55 (C : cr_C p l e R s m args below meth c sfC 97 base D cA cX7_isStrait 2 RX7) (hr : meth.sig.returnType = some .boolean) (hR : 7 ≤ R.frames ∧ 158 ≤ R.locals) {res : cr_S × Int32} (σ : cr_S) (h : f_X7_isStrait_55 σ = some res) : cr_W p l e R s m args below meth c sfC 97 base D cA 2 (MQ below (cr_Qi sfC 97 base D cA res) args s 0 0 (cr_A 97 base)) σ 0 [(0, .ref (base + 55))] [] := by
  unfold f_X7_isStrait_55 at h
  refine g_aload_n (pc' := 1) C dX7_isStrait_0 0 rfl rfl ?_
  refine g_iconst (pc' := 2) (v := 0) C dX7_isStrait_1 (by decide) rfl ?_
  obtain ⟨s1, e2, h⟩ := let_some h
  refine gp_X7_33 (pc' := 5) (o := 55) C rfl dX7_isStrait_2 rfl e2 ?_
  refine g_aload_n (pc' := 6) C dX7_isStrait_5 0 rfl rfl ?_
  refine g_iconst (pc' := 7) (v := 0) C dX7_isStrait_6 (by decide) rfl ?_
  obtain ⟨s3, e4, h⟩ := let_some h
  refine gp_X7_36 (pc' := 10) (o := 55) C rfl dX7_isStrait_7 rfl e4 ?_
  refine g_aload_n (pc' := 11) C dX7_isStrait_10 0 rfl rfl ?_
  refine g_iconst (pc' := 12) (v := 0) C dX7_isStrait_11 (by decide) rfl ?_
  obtain ⟨s5, e6, h⟩ := let_some h
  refine gp_X7_39 (pc' := 15) (o := 55) C rfl dX7_isStrait_12 rfl e6 ?_
  refine g_iconst (pc' := 16) (v := 1) C dX7_isStrait_15 (by decide) rfl ?_
  refine g_istore_n (pc' := 17) (lv' := [(1, .int 1), (0, .ref (base + 55))]) C dX7_isStrait_16 rfl (by decide) rfl rfl ?_
  exact g_sub C [1, 0] rfl (w_X7_isStrait_55_L17 C hr hR _ _ _ h)
theorem c_X7_isStrait_55 (l : Launch) (base : Nat) (D : va_G) (cA : Nat → ClassId) (σ : cr_S) (res : cr_S × Int32) (h : f_X7_isStrait_55 σ = some res) : cr_M l yX7_isStrait cX7_isStrait 2 (some .boolean) 7 158 sfC 97 base D cA [.ref (base + 55)] σ (cr_Qi sfC 97 base D cA res) := by
  refine cr_enter [.ref (base + 55)] [(0, .ref (base + 55))] (by decide) (Nat.le_of_ble_eq_true rfl) rfl ?_
  intro p e R s m below meth c C hr hR
  exact w_X7_isStrait_55 C hr hR σ h
noncomputable def f_X6_take (σ : cr_S) (o0 : Nat) (o1 : Nat) : Option (cr_S) :=
  chk (kC o1 = 6) (chk (kC o1 = 6) (chk (kC o1 = 6) (Option.bind (f_X6_become σ o0 (rF σ o1 0) (rF σ o1 1) (rF σ o1 2)) (fun q4 => chk (kC o0 = 6) (some q4)))))
set_option maxRecDepth 100000 in
set_option maxHeartbeats 4000000 in
theorem w_X6_take (C : cr_C p l e R s m args below meth c sfC 97 base D cA cX6_take 2 RX6) (hr : meth.sig.returnType = none) (hR : 1 ≤ R.frames ∧ 23 ≤ R.locals) {res : cr_S} (σ : cr_S) (o0 : Nat) (o1 : Nat) (h : f_X6_take σ o0 o1 = some res) : cr_W p l e R s m args below meth c sfC 97 base D cA 2 (MQ below (cr_Qv sfC 97 base D cA res) args s 0 0 (cr_A 97 base)) σ 0 [(0, .ref (base + o0)), (1, .ref (base + o1))] [] := by
  unfold f_X6_take at h
  refine g_aload_n (pc' := 1) C dX6_take_0 0 rfl rfl ?_
  refine g_aload_n (pc' := 2) C dX6_take_1 1 rfl rfl ?_
  obtain ⟨h1, h⟩ := chk_some h
  refine gg_X6_16 (pc' := 5) (o := o1) C h1 dX6_take_2 rfl ?_
  refine g_aload_n (pc' := 6) C dX6_take_5 1 rfl rfl ?_
  obtain ⟨h2, h⟩ := chk_some h
  refine gg_X6_7 (pc' := 9) (o := o1) C h2 dX6_take_6 rfl ?_
  refine g_aload_n (pc' := 10) C dX6_take_9 1 rfl rfl ?_
  obtain ⟨h3, h⟩ := chk_some h
  refine gg_X6_13 (pc' := 13) (o := o1) C h3 dX6_take_10 rfl ?_
  obtain ⟨q4, h5, h⟩ := bind_some h
  obtain ⟨h6, h⟩ := chk_some h
  refine g_callVv (pc' := 16) (res := q4) C [.int (rF σ o1 0), .int (rF σ o1 1), .int (rF σ o1 2)] cY_X6_become rfl (o := o0) (kC_lt h6 (by decide)) (sfC_6 h6) mv_X6_become mm_X6_19 ⟨Nat.le_trans (by decide) hR.1, Nat.le_trans (by decide) hR.2⟩ rfl (Nat.le_of_ble_eq_true rfl) rfl dX6_take_13 (c_X6_become l base D cA σ o0 (rF σ o1 0) (rF σ o1 1) (rF σ o1 2) q4 h5) rfl ?_
  exact g_vret C hr dX6_take_16 h
theorem c_X6_take (l : Launch) (base : Nat) (D : va_G) (cA : Nat → ClassId) (σ : cr_S) (o0 : Nat) (o1 : Nat) (res : cr_S) (h : f_X6_take σ o0 o1 = some res) : cr_M l yX6_take cX6_take 2 none 1 23 sfC 97 base D cA [.ref (base + o0), .ref (base + o1)] σ (cr_Qv sfC 97 base D cA res) := by
  refine cr_enter [.ref (base + o0), .ref (base + o1)] [(0, .ref (base + o0)), (1, .ref (base + o1))] (by decide) (Nat.le_of_ble_eq_true rfl) rfl ?_
  intro p e R s m below meth c C hr hR
  exact w_X6_take C hr hR σ o0 o1 h
noncomputable def f_X3_take (σ : cr_S) (o0 : Nat) (o1 : Nat) : Option (cr_S) :=
  chk (kC o1 = 3) (chk (kC o1 = 3) (chk (kC o1 = 3) (chk (kC o1 = 3) (Option.bind (f_X3_become σ o0 (rF σ o1 0) (rF σ o1 1) (rF σ o1 2) (rF σ o1 3)) (fun q5 => chk (kC o0 = 3) (chk (kC o1 = 3) (chk (kC o0 = 3) (cr_let (sF q5 o0 4 (rF q5 o1 4)) (fun s10 => some s10)))))))))
set_option maxRecDepth 100000 in
set_option maxHeartbeats 4000000 in
theorem w_X3_take (C : cr_C p l e R s m args below meth c sfC 97 base D cA cX3_take 2 RX3) (hr : meth.sig.returnType = none) (hR : 1 ≤ R.frames ∧ 24 ≤ R.locals) {res : cr_S} (σ : cr_S) (o0 : Nat) (o1 : Nat) (h : f_X3_take σ o0 o1 = some res) : cr_W p l e R s m args below meth c sfC 97 base D cA 2 (MQ below (cr_Qv sfC 97 base D cA res) args s 0 0 (cr_A 97 base)) σ 0 [(0, .ref (base + o0)), (1, .ref (base + o1))] [] := by
  unfold f_X3_take at h
  refine g_aload_n (pc' := 1) C dX3_take_0 0 rfl rfl ?_
  refine g_aload_n (pc' := 2) C dX3_take_1 1 rfl rfl ?_
  obtain ⟨h1, h⟩ := chk_some h
  refine gg_X3_21 (pc' := 5) (o := o1) C h1 dX3_take_2 rfl ?_
  refine g_aload_n (pc' := 6) C dX3_take_5 1 rfl rfl ?_
  obtain ⟨h2, h⟩ := chk_some h
  refine gg_X3_9 (pc' := 9) (o := o1) C h2 dX3_take_6 rfl ?_
  refine g_aload_n (pc' := 10) C dX3_take_9 1 rfl rfl ?_
  obtain ⟨h3, h⟩ := chk_some h
  refine gg_X3_15 (pc' := 13) (o := o1) C h3 dX3_take_10 rfl ?_
  refine g_aload_n (pc' := 14) C dX3_take_13 1 rfl rfl ?_
  obtain ⟨h4, h⟩ := chk_some h
  refine gg_X3_18 (pc' := 17) (o := o1) C h4 dX3_take_14 rfl ?_
  obtain ⟨q5, h6, h⟩ := bind_some h
  obtain ⟨h7, h⟩ := chk_some h
  refine g_callVv (pc' := 20) (res := q5) C [.int (rF σ o1 0), .int (rF σ o1 1), .int (rF σ o1 2), .int (rF σ o1 3)] cY_X3_become rfl (o := o0) (kC_lt h7 (by decide)) (sfC_3 h7) mv_X3_become mm_X3_27 ⟨Nat.le_trans (by decide) hR.1, Nat.le_trans (by decide) hR.2⟩ rfl (Nat.le_of_ble_eq_true rfl) rfl dX3_take_17 (c_X3_become l base D cA σ o0 (rF σ o1 0) (rF σ o1 1) (rF σ o1 2) (rF σ o1 3) q5 h6) rfl ?_
  refine g_aload_n (pc' := 21) C dX3_take_20 0 rfl rfl ?_
  refine g_aload_n (pc' := 22) C dX3_take_21 1 rfl rfl ?_
  obtain ⟨h8, h⟩ := chk_some h
  refine gg_X3_24 (pc' := 25) (o := o1) C h8 dX3_take_22 rfl ?_
  obtain ⟨h9, h⟩ := chk_some h
  obtain ⟨s10, e11, h⟩ := let_some h
  refine gp_X3_24 (pc' := 28) (o := o0) C h9 dX3_take_25 rfl e11 ?_
  exact g_vret C hr dX3_take_28 h
theorem c_X3_take (l : Launch) (base : Nat) (D : va_G) (cA : Nat → ClassId) (σ : cr_S) (o0 : Nat) (o1 : Nat) (res : cr_S) (h : f_X3_take σ o0 o1 = some res) : cr_M l yX3_take cX3_take 2 none 1 24 sfC 97 base D cA [.ref (base + o0), .ref (base + o1)] σ (cr_Qv sfC 97 base D cA res) := by
  refine cr_enter [.ref (base + o0), .ref (base + o1)] [(0, .ref (base + o0)), (1, .ref (base + o1))] (by decide) (Nat.le_of_ble_eq_true rfl) rfl ?_
  intro p e R s m below meth c C hr hR
  exact w_X3_take C hr hR σ o0 o1 h
noncomputable def f_X9_takePairsAndShips_1_57_58_B72  (σ : cr_S) (x2 : Int32) (x4 : Int32) : Option (cr_S) :=
  cr_let (sF σ 1 5 x2) (fun s1 => cr_let (sF s1 1 6 x4) (fun s3 => some s3))
set_option maxRecDepth 100000 in
set_option maxHeartbeats 4000000 in
theorem w_X9_takePairsAndShips_1_57_58_B72 (C : cr_C p l e R s m args below meth c sfC 97 base D cA cX9_takePairsAndShips 6 RX9) (hr : meth.sig.returnType = none) (hR : 2 ≤ R.frames ∧ 45 ≤ R.locals) {res : cr_S}  (σ : cr_S) (x2 : Int32) (x4 : Int32) (h : f_X9_takePairsAndShips_1_57_58_B72 σ x2 x4 = some res) : cr_W p l e R s m args below meth c sfC 97 base D cA 6 (MQ below (cr_Qv sfC 97 base D cA res) args s 0 0 (cr_A 97 base)) σ 72 [(0, .ref (base + 1)), (2, .int x2), (4, .int x4)] [] := by
  unfold f_X9_takePairsAndShips_1_57_58_B72 at h
  refine g_aload_n (pc' := 73) C dX9_takePairsAndShips_72 0 rfl rfl ?_
  refine g_iload_n (pc' := 74) C dX9_takePairsAndShips_73 1 rfl rfl ?_
  obtain ⟨s1, e2, h⟩ := let_some h
  refine gp_X9_47 (pc' := 77) (o := 1) C rfl dX9_takePairsAndShips_74 rfl e2 ?_
  refine g_aload_n (pc' := 78) C dX9_takePairsAndShips_77 0 rfl rfl ?_
  refine g_iload (pc' := 80) C dX9_takePairsAndShips_78 2 rfl rfl ?_
  obtain ⟨s3, e4, h⟩ := let_some h
  refine gp_X9_50 (pc' := 83) (o := 1) C rfl dX9_takePairsAndShips_80 rfl e4 ?_
  exact g_vret C hr dX9_takePairsAndShips_83 h
noncomputable def f_X9_takePairsAndShips_1_57_58_L39  : Nat → cr_S → Int32 → Int32 → Int32 → Option (cr_S)
  | 0, _, _, _, _ => none
  | n + 1, σ, x2, x4, x5 =>
    (if x4 ≤ x5 then f_X9_takePairsAndShips_1_57_58_B72 σ x2 x4 else (if 5 ≤ x5 then f_X9_takePairsAndShips_1_57_58_B72 σ x2 x4 else chk (inb x5 5) (chk (inb x5 5) (Option.bind (f_X6_take σ (15 + x5.toNatClampNeg) (65 + x5.toNatClampNeg)) (fun q7 => chk (kC (15 + x5.toNatClampNeg) = 6) (cr_let (x5 + 1) (fun v10 => f_X9_takePairsAndShips_1_57_58_L39 n q7 x2 x4 v10)))))))
set_option maxRecDepth 100000 in
set_option maxHeartbeats 4000000 in
theorem w_X9_takePairsAndShips_1_57_58_L39 (C : cr_C p l e R s m args below meth c sfC 97 base D cA cX9_takePairsAndShips 6 RX9) (hr : meth.sig.returnType = none) (hR : 2 ≤ R.frames ∧ 45 ≤ R.locals) {res : cr_S}  : ∀ (n : Nat) (σ : cr_S) (x2 : Int32) (x4 : Int32) (x5 : Int32), f_X9_takePairsAndShips_1_57_58_L39 n σ x2 x4 x5 = some res → cr_W p l e R s m args below meth c sfC 97 base D cA 6 (MQ below (cr_Qv sfC 97 base D cA res) args s 0 0 (cr_A 97 base)) σ 39 [(0, .ref (base + 1)), (2, .int x2), (3, .ref (base + 58)), (4, .int x4), (5, .int x5)] [] := by
  intro n
  induction n with
  | zero =>
    intro σ x2 x4 x5 h
    cases h
  | succ n ih =>
    intro σ x2 x4 x5 h
    rw [f_X9_takePairsAndShips_1_57_58_L39] at h
    refine g_iload (pc' := 41) C dX9_takePairsAndShips_39 4 rfl rfl ?_
    refine g_iload (pc' := 43) C dX9_takePairsAndShips_41 3 rfl rfl ?_
    refine g_icmp_ge (pc' := 46) (tgt := 72) C dX9_takePairsAndShips_43 (by decide) rfl (fun hc => ?_) (fun hc => ?_)
    · rw [if_pos hc] at h
      exact g_sub C [0, 1, 3] rfl (w_X9_takePairsAndShips_1_57_58_B72 C hr hR _ _ _ h)
    · rw [if_neg hc] at h
      refine g_iload (pc' := 48) C dX9_takePairsAndShips_46 4 rfl rfl ?_
      refine g_iconst (pc' := 49) (v := 5) C dX9_takePairsAndShips_48 (by decide) rfl ?_
      refine g_icmp_ge (pc' := 52) (tgt := 72) C dX9_takePairsAndShips_49 (by decide) rfl (fun hc => ?_) (fun hc => ?_)
      · rw [if_pos hc] at h
        exact g_sub C [0, 1, 3] rfl (w_X9_takePairsAndShips_1_57_58_B72 C hr hR _ _ _ h)
      · rw [if_neg hc] at h
        refine g_aload_n (pc' := 53) C dX9_takePairsAndShips_52 0 rfl rfl ?_
        refine gg_X9_19 (pc' := 56) (o := 1) (r := 3) C rfl rfl dX9_takePairsAndShips_53 rfl ?_
        refine g_iload (pc' := 58) C dX9_takePairsAndShips_56 4 rfl rfl ?_
        obtain ⟨h5, h⟩ := chk_some h
        refine g_aald (pc' := 59) C (o := 3) (by decide) rfl (cn := "ClashRocks$Ship") rfl (inb_d h5) dX9_takePairsAndShips_58 rfl ?_
        refine g_aload_n (pc' := 60) C dX9_takePairsAndShips_59 2 rfl rfl ?_
        refine g_iload (pc' := 62) C dX9_takePairsAndShips_60 4 rfl rfl ?_
        obtain ⟨h6, h⟩ := chk_some h
        refine g_aald (pc' := 63) C (o := 58) (by decide) rfl (cn := "ClashRocks$Ship") rfl (inb_d h6) dX9_takePairsAndShips_62 rfl ?_
        obtain ⟨q7, h8, h⟩ := bind_some h
        obtain ⟨h9, h⟩ := chk_some h
        refine g_callVv (pc' := 66) (res := q7) C [.ref (base + (65 + x5.toNatClampNeg))] cY_X6_take rfl (o := 15 + x5.toNatClampNeg) (kC_lt h9 (by decide)) (sfC_6 h9) mv_X6_take mm_X9_80 ⟨Nat.le_trans (by decide) hR.1, Nat.le_trans (by decide) hR.2⟩ rfl (Nat.le_of_ble_eq_true rfl) rfl dX9_takePairsAndShips_63 (c_X6_take l base D cA σ (15 + x5.toNatClampNeg) (65 + x5.toNatClampNeg) q7 h8) rfl ?_
        obtain ⟨v10, e11, h⟩ := let_some h
        refine g_iinc (pc' := 69) (v := v10) (lv' := [(5, .int v10), (0, .ref (base + 1)), (2, .int x2), (3, .ref (base + 58)), (4, .int x4)]) C dX9_takePairsAndShips_66 4 rfl (by rw [e11]; rfl) (by decide) rfl rfl ?_
        refine g_goto (tgt := 39) C dX9_takePairsAndShips_69 (by decide) ?_
        exact g_sub C [1, 2, 3, 4, 0] rfl (ih _ _ _ _ h)
noncomputable def f_X9_takePairsAndShips_1_57_58_B36  (σ : cr_S) (x2 : Int32) (x4 : Int32) : Option (cr_S) :=
  f_X9_takePairsAndShips_1_57_58_L39 cr_fuel σ x2 x4 0
set_option maxRecDepth 100000 in
set_option maxHeartbeats 4000000 in
theorem w_X9_takePairsAndShips_1_57_58_B36 (C : cr_C p l e R s m args below meth c sfC 97 base D cA cX9_takePairsAndShips 6 RX9) (hr : meth.sig.returnType = none) (hR : 2 ≤ R.frames ∧ 45 ≤ R.locals) {res : cr_S}  (σ : cr_S) (x2 : Int32) (x4 : Int32) (h : f_X9_takePairsAndShips_1_57_58_B36 σ x2 x4 = some res) : cr_W p l e R s m args below meth c sfC 97 base D cA 6 (MQ below (cr_Qv sfC 97 base D cA res) args s 0 0 (cr_A 97 base)) σ 36 [(0, .ref (base + 1)), (2, .int x2), (3, .ref (base + 58)), (4, .int x4)] [] := by
  unfold f_X9_takePairsAndShips_1_57_58_B36 at h
  refine g_iconst (pc' := 37) (v := 0) C dX9_takePairsAndShips_36 (by decide) rfl ?_
  refine g_istore (pc' := 39) (lv' := [(5, .int 0), (0, .ref (base + 1)), (2, .int x2), (3, .ref (base + 58)), (4, .int x4)]) C dX9_takePairsAndShips_37 (by decide) rfl rfl ?_
  exact g_sub C [1, 2, 3, 4, 0] rfl (w_X9_takePairsAndShips_1_57_58_L39 C hr hR _ _ _ _ _ h)
noncomputable def f_X9_takePairsAndShips_1_57_58_L3  : Nat → cr_S → Int32 → Int32 → Int32 → Option (cr_S)
  | 0, _, _, _, _ => none
  | n + 1, σ, x2, x4, x5 =>
    (if x2 ≤ x5 then f_X9_takePairsAndShips_1_57_58_B36 σ x2 x4 else (if 6 ≤ x5 then f_X9_takePairsAndShips_1_57_58_B36 σ x2 x4 else chk (inb x5 6) (chk (inb x5 6) (Option.bind (f_X3_take σ (9 + x5.toNatClampNeg) (59 + x5.toNatClampNeg)) (fun q14 => chk (kC (9 + x5.toNatClampNeg) = 3) (cr_let (x5 + 1) (fun v17 => f_X9_takePairsAndShips_1_57_58_L3 n q14 x2 x4 v17)))))))
set_option maxRecDepth 100000 in
set_option maxHeartbeats 4000000 in
theorem w_X9_takePairsAndShips_1_57_58_L3 (C : cr_C p l e R s m args below meth c sfC 97 base D cA cX9_takePairsAndShips 6 RX9) (hr : meth.sig.returnType = none) (hR : 2 ≤ R.frames ∧ 45 ≤ R.locals) {res : cr_S}  : ∀ (n : Nat) (σ : cr_S) (x2 : Int32) (x4 : Int32) (x5 : Int32), f_X9_takePairsAndShips_1_57_58_L3 n σ x2 x4 x5 = some res → cr_W p l e R s m args below meth c sfC 97 base D cA 6 (MQ below (cr_Qv sfC 97 base D cA res) args s 0 0 (cr_A 97 base)) σ 3 [(0, .ref (base + 1)), (1, .ref (base + 57)), (2, .int x2), (3, .ref (base + 58)), (4, .int x4), (5, .int x5)] [] := by
  intro n
  induction n with
  | zero =>
    intro σ x2 x4 x5 h
    cases h
  | succ n ih =>
    intro σ x2 x4 x5 h
    rw [f_X9_takePairsAndShips_1_57_58_L3] at h
    refine g_iload (pc' := 5) C dX9_takePairsAndShips_3 5 rfl rfl ?_
    refine g_iload_n (pc' := 6) C dX9_takePairsAndShips_5 2 rfl rfl ?_
    refine g_icmp_ge (pc' := 9) (tgt := 36) C dX9_takePairsAndShips_6 (by decide) rfl (fun hc => ?_) (fun hc => ?_)
    · rw [if_pos hc] at h
      exact g_sub C [0, 2, 3, 4] rfl (w_X9_takePairsAndShips_1_57_58_B36 C hr hR _ _ _ h)
    · rw [if_neg hc] at h
      refine g_iload (pc' := 11) C dX9_takePairsAndShips_9 5 rfl rfl ?_
      refine g_bipush (pc' := 13) (v := 6) C dX9_takePairsAndShips_11 (by decide) rfl ?_
      refine g_icmp_ge (pc' := 16) (tgt := 36) C dX9_takePairsAndShips_13 (by decide) rfl (fun hc => ?_) (fun hc => ?_)
      · rw [if_pos hc] at h
        exact g_sub C [0, 2, 3, 4] rfl (w_X9_takePairsAndShips_1_57_58_B36 C hr hR _ _ _ h)
      · rw [if_neg hc] at h
        refine g_aload_n (pc' := 17) C dX9_takePairsAndShips_16 0 rfl rfl ?_
        refine gg_X9_11 (pc' := 20) (o := 1) (r := 2) C rfl rfl dX9_takePairsAndShips_17 rfl ?_
        refine g_iload (pc' := 22) C dX9_takePairsAndShips_20 5 rfl rfl ?_
        obtain ⟨h12, h⟩ := chk_some h
        refine g_aald (pc' := 23) C (o := 2) (by decide) rfl (cn := "ClashRocks$Pair") rfl (inb_d h12) dX9_takePairsAndShips_22 rfl ?_
        refine g_aload_n (pc' := 24) C dX9_takePairsAndShips_23 1 rfl rfl ?_
        refine g_iload (pc' := 26) C dX9_takePairsAndShips_24 5 rfl rfl ?_
        obtain ⟨h13, h⟩ := chk_some h
        refine g_aald (pc' := 27) C (o := 57) (by decide) rfl (cn := "ClashRocks$Pair") rfl (inb_d h13) dX9_takePairsAndShips_26 rfl ?_
        obtain ⟨q14, h15, h⟩ := bind_some h
        obtain ⟨h16, h⟩ := chk_some h
        refine g_callVv (pc' := 30) (res := q14) C [.ref (base + (59 + x5.toNatClampNeg))] cY_X3_take rfl (o := 9 + x5.toNatClampNeg) (kC_lt h16 (by decide)) (sfC_3 h16) mv_X3_take mm_X9_77 ⟨Nat.le_trans (by decide) hR.1, Nat.le_trans (by decide) hR.2⟩ rfl (Nat.le_of_ble_eq_true rfl) rfl dX9_takePairsAndShips_27 (c_X3_take l base D cA σ (9 + x5.toNatClampNeg) (59 + x5.toNatClampNeg) q14 h15) rfl ?_
        obtain ⟨v17, e18, h⟩ := let_some h
        refine g_iinc (pc' := 33) (v := v17) (lv' := [(5, .int v17), (0, .ref (base + 1)), (1, .ref (base + 57)), (2, .int x2), (3, .ref (base + 58)), (4, .int x4)]) C dX9_takePairsAndShips_30 5 rfl (by rw [e18]; rfl) (by decide) rfl rfl ?_
        refine g_goto (tgt := 3) C dX9_takePairsAndShips_33 (by decide) ?_
        exact g_sub C [1, 2, 3, 4, 5, 0] rfl (ih _ _ _ _ h)
noncomputable def f_X9_takePairsAndShips_1_57_58 (σ : cr_S) (a2 : Int32) (a4 : Int32) : Option (cr_S) :=
  f_X9_takePairsAndShips_1_57_58_L3 cr_fuel σ a2 a4 0
set_option maxRecDepth 100000 in
set_option maxHeartbeats 4000000 in
theorem w_X9_takePairsAndShips_1_57_58 (C : cr_C p l e R s m args below meth c sfC 97 base D cA cX9_takePairsAndShips 6 RX9) (hr : meth.sig.returnType = none) (hR : 2 ≤ R.frames ∧ 45 ≤ R.locals) {res : cr_S} (σ : cr_S) (a2 : Int32) (a4 : Int32) (h : f_X9_takePairsAndShips_1_57_58 σ a2 a4 = some res) : cr_W p l e R s m args below meth c sfC 97 base D cA 6 (MQ below (cr_Qv sfC 97 base D cA res) args s 0 0 (cr_A 97 base)) σ 0 [(0, .ref (base + 1)), (1, .ref (base + 57)), (2, .int a2), (3, .ref (base + 58)), (4, .int a4)] [] := by
  unfold f_X9_takePairsAndShips_1_57_58 at h
  refine g_iconst (pc' := 1) (v := 0) C dX9_takePairsAndShips_0 (by decide) rfl ?_
  refine g_istore (pc' := 3) (lv' := [(5, .int 0), (0, .ref (base + 1)), (1, .ref (base + 57)), (2, .int a2), (3, .ref (base + 58)), (4, .int a4)]) C dX9_takePairsAndShips_1 (by decide) rfl rfl ?_
  exact g_sub C [1, 2, 3, 4, 5, 0] rfl (w_X9_takePairsAndShips_1_57_58_L3 C hr hR _ _ _ _ _ h)
theorem c_X9_takePairsAndShips_1_57_58 (l : Launch) (base : Nat) (D : va_G) (cA : Nat → ClassId) (σ : cr_S) (a2 : Int32) (a4 : Int32) (res : cr_S) (h : f_X9_takePairsAndShips_1_57_58 σ a2 a4 = some res) : cr_M l yX9_takePairsAndShips cX9_takePairsAndShips 6 none 2 45 sfC 97 base D cA [.ref (base + 1), .ref (base + 57), .int a2, .ref (base + 58), .int a4] σ (cr_Qv sfC 97 base D cA res) := by
  refine cr_enter [.ref (base + 1), .ref (base + 57), .int a2, .ref (base + 58), .int a4] [(0, .ref (base + 1)), (1, .ref (base + 57)), (2, .int a2), (3, .ref (base + 58)), (4, .int a4)] (by decide) (Nat.le_of_ble_eq_true rfl) rfl ?_
  intro p e R s m below meth c C hr hR
  exact w_X9_takePairsAndShips_1_57_58 C hr hR σ a2 a4 h
noncomputable def f_X8_begin (σ : cr_S) (o0 : Nat) (a1 : Int32) : Option (cr_S) :=
  chk (kC o0 = 8) (cr_let (sF σ o0 1 a1) (fun s2 => chk (kC o0 = 8) (cr_let (sF s2 o0 2 0) (fun s5 => chk (kC o0 = 8) (cr_let (sF s5 o0 3 0) (fun s8 => some s8))))))
set_option maxRecDepth 100000 in
set_option maxHeartbeats 4000000 in
theorem w_X8_begin (C : cr_C p l e R s m args below meth c sfC 97 base D cA cX8_begin 2 RX8) (hr : meth.sig.returnType = none) (hR : 0 ≤ R.frames ∧ 0 ≤ R.locals) {res : cr_S} (σ : cr_S) (o0 : Nat) (a1 : Int32) (h : f_X8_begin σ o0 a1 = some res) : cr_W p l e R s m args below meth c sfC 97 base D cA 2 (MQ below (cr_Qv sfC 97 base D cA res) args s 0 0 (cr_A 97 base)) σ 0 [(0, .ref (base + o0)), (1, .int a1)] [] := by
  unfold f_X8_begin at h
  refine g_aload_n (pc' := 1) C dX8_begin_0 0 rfl rfl ?_
  refine g_iload_n (pc' := 2) C dX8_begin_1 1 rfl rfl ?_
  obtain ⟨h1, h⟩ := chk_some h
  obtain ⟨s2, e3, h⟩ := let_some h
  refine gp_X8_9 (pc' := 5) (o := o0) C h1 dX8_begin_2 rfl e3 ?_
  refine g_aload_n (pc' := 6) C dX8_begin_5 0 rfl rfl ?_
  refine g_iconst (pc' := 7) (v := 0) C dX8_begin_6 (by decide) rfl ?_
  obtain ⟨h4, h⟩ := chk_some h
  obtain ⟨s5, e6, h⟩ := let_some h
  refine gp_X8_18 (pc' := 10) (o := o0) C h4 dX8_begin_7 rfl e6 ?_
  refine g_aload_n (pc' := 11) C dX8_begin_10 0 rfl rfl ?_
  refine g_iconst (pc' := 12) (v := 0) C dX8_begin_11 (by decide) rfl ?_
  obtain ⟨h7, h⟩ := chk_some h
  obtain ⟨s8, e9, h⟩ := let_some h
  refine gp_X8_21 (pc' := 15) (o := o0) C h7 dX8_begin_12 rfl e9 ?_
  exact g_vret C hr dX8_begin_15 h
theorem c_X8_begin (l : Launch) (base : Nat) (D : va_G) (cA : Nat → ClassId) (σ : cr_S) (o0 : Nat) (a1 : Int32) (res : cr_S) (h : f_X8_begin σ o0 a1 = some res) : cr_M l yX8_begin cX8_begin 2 none 0 0 sfC 97 base D cA [.ref (base + o0), .int a1] σ (cr_Qv sfC 97 base D cA res) := by
  refine cr_enter [.ref (base + o0), .int a1] [(0, .ref (base + o0)), (1, .int a1)] (by decide) (Nat.le_of_ble_eq_true rfl) rfl ?_
  intro p e R s m below meth c C hr hR
  exact w_X8_begin C hr hR σ o0 a1 h
noncomputable def f_X9_settle_1_55 (σ : cr_S) : Option (cr_S) :=
  Option.bind (f_X9_takePairsAndShips_1_57_58 σ (rF σ 55 4) (rF σ 55 5)) (fun q1 => Option.bind (f_X8_begin q1 4 (-1)) (fun q3 => cr_let (sF q3 1 7 0) (fun s5 => some s5)))
set_option maxRecDepth 100000 in
set_option maxHeartbeats 4000000 in
theorem w_X9_settle_1_55 (C : cr_C p l e R s m args below meth c sfC 97 base D cA cX9_settle 2 RX9) (hr : meth.sig.returnType = none) (hR : 3 ≤ R.frames ∧ 70 ≤ R.locals) {res : cr_S} (σ : cr_S) (h : f_X9_settle_1_55 σ = some res) : cr_W p l e R s m args below meth c sfC 97 base D cA 2 (MQ below (cr_Qv sfC 97 base D cA res) args s 0 0 (cr_A 97 base)) σ 0 [(0, .ref (base + 1)), (1, .ref (base + 55))] [] := by
  unfold f_X9_settle_1_55 at h
  refine g_aload_n (pc' := 1) C dX9_settle_0 0 rfl rfl ?_
  refine g_aload_n (pc' := 2) C dX9_settle_1 1 rfl rfl ?_
  refine gg_X9_67 (pc' := 5) (o := 55) (r := 57) C rfl rfl dX9_settle_2 rfl ?_
  refine g_aload_n (pc' := 6) C dX9_settle_5 1 rfl rfl ?_
  refine gg_X9_70 (pc' := 9) (o := 55) C rfl dX9_settle_6 rfl ?_
  refine g_aload_n (pc' := 10) C dX9_settle_9 1 rfl rfl ?_
  refine gg_X9_71 (pc' := 13) (o := 55) (r := 58) C rfl rfl dX9_settle_10 rfl ?_
  refine g_aload_n (pc' := 14) C dX9_settle_13 1 rfl rfl ?_
  refine gg_X9_72 (pc' := 17) (o := 55) C rfl dX9_settle_14 rfl ?_
  obtain ⟨q1, h2, h⟩ := bind_some h
  refine g_callVv (pc' := 20) (res := q1) C [.ref (base + 57), .int (rF σ 55 4), .ref (base + 58), .int (rF σ 55 5)] cY_X9_takePairsAndShips rfl (o := 1) (by decide) rfl mv_X9_takePairsAndShips mm_X9_53 ⟨Nat.le_trans (by decide) hR.1, Nat.le_trans (by decide) hR.2⟩ rfl (Nat.le_of_ble_eq_true rfl) rfl dX9_settle_17 (c_X9_takePairsAndShips_1_57_58 l base D cA σ (rF σ 55 4) (rF σ 55 5) q1 h2) rfl ?_
  refine g_aload_n (pc' := 21) C dX9_settle_20 0 rfl rfl ?_
  refine gg_X9_26 (pc' := 24) (o := 1) (r := 4) C rfl rfl dX9_settle_21 rfl ?_
  refine g_iconst (pc' := 25) (v := (-1)) C dX9_settle_24 (by decide) rfl ?_
  obtain ⟨q3, h4, h⟩ := bind_some h
  refine g_callVv (pc' := 28) (res := q3) C [.int (-1)] cY_X8_begin rfl (o := 4) (by decide) rfl mv_X8_begin mm_X9_73 ⟨Nat.le_trans (by decide) hR.1, Nat.le_trans (by decide) hR.2⟩ rfl (Nat.le_of_ble_eq_true rfl) rfl dX9_settle_25 (c_X8_begin l base D cA q1 4 (-1) q3 h4) rfl ?_
  refine g_aload_n (pc' := 29) C dX9_settle_28 0 rfl rfl ?_
  refine g_iconst (pc' := 30) (v := 0) C dX9_settle_29 (by decide) rfl ?_
  obtain ⟨s5, e6, h⟩ := let_some h
  refine gp_X9_61 (pc' := 33) (o := 1) C rfl dX9_settle_30 rfl e6 ?_
  exact g_vret C hr dX9_settle_33 h
theorem c_X9_settle_1_55 (l : Launch) (base : Nat) (D : va_G) (cA : Nat → ClassId) (σ : cr_S) (res : cr_S) (h : f_X9_settle_1_55 σ = some res) : cr_M l yX9_settle cX9_settle 2 none 3 70 sfC 97 base D cA [.ref (base + 1), .ref (base + 55)] σ (cr_Qv sfC 97 base D cA res) := by
  refine cr_enter [.ref (base + 1), .ref (base + 55)] [(0, .ref (base + 1)), (1, .ref (base + 55))] (by decide) (Nat.le_of_ble_eq_true rfl) rfl ?_
  intro p e R s m below meth c C hr hR
  exact w_X9_settle_1_55 C hr hR σ h
noncomputable def f_X10_strait (σ : cr_S) : Option (cr_S × Int32) :=
  Option.bind (f_X7_isStrait_55 σ) (fun q1 => cr_let q1.2 (fun v3 => cr_let ((-20) - (rF q1.1 55 6)) (fun v5 => cr_let (sF q1.1 55 3 0) (fun s7 => (if v3 = 0 then some (s7, v5) else Option.bind (f_X9_settle_1_55 s7) (fun q9 => some (q9, rF q9 1 5)))))))
set_option maxRecDepth 100000 in
set_option maxHeartbeats 4000000 in
theorem w_X10_strait (C : cr_C p l e R s m args below meth c sfC 97 base D cA cX10_strait 3 RX10) (hr : meth.sig.returnType = some .int) (hR : 8 ≤ R.frames ∧ 179 ≤ R.locals) {res : cr_S × Int32} (σ : cr_S) (h : f_X10_strait σ = some res) : cr_W p l e R s m args below meth c sfC 97 base D cA 3 (MQ below (cr_Qi sfC 97 base D cA res) args s 0 0 (cr_A 97 base)) σ 0 [(0, .ref (base + 0))] [] := by
  unfold f_X10_strait at h
  refine g_aload_n (pc' := 1) C dX10_strait_0 0 rfl rfl ?_
  refine gg_X10_22 (pc' := 4) (o := 0) (r := 55) C rfl rfl dX10_strait_1 rfl ?_
  obtain ⟨q1, h2, h⟩ := bind_some h
  refine g_callVi (pc' := 7) (res := q1) C [] cY_X7_isStrait rfl (o := 55) (by decide) rfl mv_X7_isStrait mm_X10_138 ⟨Nat.le_trans (by decide) hR.1, Nat.le_trans (by decide) hR.2⟩ rfl (Nat.le_of_ble_eq_true rfl) rfl dX10_strait_4 (c_X7_isStrait_55 l base D cA σ q1 h2) rfl ?_
  obtain ⟨v3, e4, h⟩ := let_some h
  refine g_nameI e4 ?_
  refine g_istore_n (pc' := 8) (lv' := [(1, .int v3), (0, .ref (base + 0))]) C dX10_strait_7 rfl (by decide) rfl rfl ?_
  refine g_bipush (pc' := 10) (v := (-20)) C dX10_strait_8 (by decide) rfl ?_
  refine g_aload_n (pc' := 11) C dX10_strait_10 1 rfl rfl ?_
  refine gg_X10_22 (pc' := 14) (o := 0) (r := 55) C rfl rfl dX10_strait_11 rfl ?_
  refine gg_X10_142 (pc' := 17) (o := 55) C rfl dX10_strait_14 rfl ?_
  refine g_isub (pc' := 18) C dX10_strait_17 rfl ?_
  obtain ⟨v5, e6, h⟩ := let_some h
  refine g_nameI e6 ?_
  refine g_istore_n (pc' := 19) (lv' := [(2, .int v5), (1, .int v3), (0, .ref (base + 0))]) C dX10_strait_18 rfl (by decide) rfl rfl ?_
  refine g_aload_n (pc' := 20) C dX10_strait_19 2 rfl rfl ?_
  refine gg_X10_22 (pc' := 23) (o := 0) (r := 55) C rfl rfl dX10_strait_20 rfl ?_
  refine g_iconst (pc' := 24) (v := 0) C dX10_strait_23 (by decide) rfl ?_
  obtain ⟨s7, e8, h⟩ := let_some h
  refine gp_X10_135 (pc' := 27) (o := 55) C rfl dX10_strait_24 rfl e8 ?_
  refine g_iload_n (pc' := 28) C dX10_strait_27 1 rfl rfl ?_
  refine g_if_ne (pc' := 31) (tgt := 33) C dX10_strait_28 (by decide) rfl (fun hc => ?_) (fun hc => ?_)
  · rw [if_neg hc] at h
    refine g_aload_n (pc' := 34) C dX10_strait_33 2 rfl rfl ?_
    refine gg_X10_12 (pc' := 37) (o := 0) (r := 1) C rfl rfl dX10_strait_34 rfl ?_
    refine g_aload_n (pc' := 38) C dX10_strait_37 2 rfl rfl ?_
    refine gg_X10_22 (pc' := 41) (o := 0) (r := 55) C rfl rfl dX10_strait_38 rfl ?_
    obtain ⟨q9, h10, h⟩ := bind_some h
    refine g_callVv (pc' := 44) (res := q9) C [.ref (base + 55)] cY_X9_settle rfl (o := 1) (by decide) rfl mv_X9_settle mm_X10_145 ⟨Nat.le_trans (by decide) hR.1, Nat.le_trans (by decide) hR.2⟩ rfl (Nat.le_of_ble_eq_true rfl) rfl dX10_strait_41 (c_X9_settle_1_55 l base D cA s7 q9 h10) rfl ?_
    refine g_aload_n (pc' := 45) C dX10_strait_44 2 rfl rfl ?_
    refine gg_X10_12 (pc' := 48) (o := 0) (r := 1) C rfl rfl dX10_strait_45 rfl ?_
    refine gg_X10_58 (pc' := 51) (o := 1) C rfl dX10_strait_48 rfl ?_
    exact g_iret C hr dX10_strait_51 h
  · rw [if_pos hc] at h
    refine g_iload_n (pc' := 32) C dX10_strait_31 0 rfl rfl ?_
    exact g_iret C hr dX10_strait_32 h
theorem c_X10_strait (l : Launch) (base : Nat) (D : va_G) (cA : Nat → ClassId) (σ : cr_S) (res : cr_S × Int32) (h : f_X10_strait σ = some res) : cr_M l yX10_strait cX10_strait 3 (some .int) 8 179 sfC 97 base D cA [.ref (base + 0)] σ (cr_Qi sfC 97 base D cA res) := by
  refine cr_enter [.ref (base + 0)] [(0, .ref (base + 0))] (by decide) (Nat.le_of_ble_eq_true rfl) rfl ?_
  intro p e R s m below meth c C hr hR
  exact w_X10_strait C hr hR σ h
noncomputable def f_X10_count (σ : cr_S) (a1 : Int32) : Option (cr_S × Int32) :=
  (if a1 = 0 then some (σ, rF σ 1 5) else (if a1 = 1 then some (σ, rF σ 1 6) else (if a1 = 2 then some (σ, rF σ 4 0) else (if a1 = 3 then some (σ, if (rF σ 4 1) = (-1) then (-4) else rF σ 4 1) else (if a1 = 4 then some (σ, rF σ 4 2) else (if a1 = 5 then some (σ, rF σ 4 3) else (if a1 = 6 then some (σ, rF σ 1 7) else (if a1 = 7 then some (σ, rF σ 6 2) else some (σ, (-1))))))))))
set_option maxRecDepth 100000 in
set_option maxHeartbeats 4000000 in
theorem w_X10_count (C : cr_C p l e R s m args below meth c sfC 97 base D cA cX10_count 2 RX10) (hr : meth.sig.returnType = some .int) (hR : 0 ≤ R.frames ∧ 0 ≤ R.locals) {res : cr_S × Int32} (σ : cr_S) (a1 : Int32) (h : f_X10_count σ a1 = some res) : cr_W p l e R s m args below meth c sfC 97 base D cA 2 (MQ below (cr_Qi sfC 97 base D cA res) args s 0 0 (cr_A 97 base)) σ 0 [(0, .ref (base + 0)), (1, .int a1)] [] := by
  unfold f_X10_count at h
  refine g_iload_n (pc' := 1) C dX10_count_0 1 rfl rfl ?_
  by_cases hc0 : a1 = 0
  · rw [if_pos hc0] at h
    refine g_tableIn (off := 47) (tgt := 48) C dX10_count_1 (by rw [hc0]; decide) (by rw [hc0]; decide) (by rw [hc0]; decide) (by decide) ?_
    refine g_aload_n (pc' := 49) C dX10_count_48 0 rfl rfl ?_
    refine gg_X10_12 (pc' := 52) (o := 0) (r := 1) C rfl rfl dX10_count_49 rfl ?_
    refine gg_X10_58 (pc' := 55) (o := 1) C rfl dX10_count_52 rfl ?_
    exact g_iret C hr dX10_count_55 h
  rw [if_neg hc0] at h
  by_cases hc1 : a1 = 1
  · rw [if_pos hc1] at h
    refine g_tableIn (off := 55) (tgt := 56) C dX10_count_1 (by rw [hc1]; decide) (by rw [hc1]; decide) (by rw [hc1]; decide) (by decide) ?_
    refine g_aload_n (pc' := 57) C dX10_count_56 0 rfl rfl ?_
    refine gg_X10_12 (pc' := 60) (o := 0) (r := 1) C rfl rfl dX10_count_57 rfl ?_
    refine gg_X10_82 (pc' := 63) (o := 1) C rfl dX10_count_60 rfl ?_
    exact g_iret C hr dX10_count_63 h
  rw [if_neg hc1] at h
  by_cases hc2 : a1 = 2
  · rw [if_pos hc2] at h
    refine g_tableIn (off := 63) (tgt := 64) C dX10_count_1 (by rw [hc2]; decide) (by rw [hc2]; decide) (by rw [hc2]; decide) (by decide) ?_
    refine g_aload_n (pc' := 65) C dX10_count_64 0 rfl rfl ?_
    refine gg_X10_12 (pc' := 68) (o := 0) (r := 1) C rfl rfl dX10_count_65 rfl ?_
    refine gg_X10_149 (pc' := 71) (o := 1) (r := 4) C rfl rfl dX10_count_68 rfl ?_
    refine gg_X10_153 (pc' := 74) (o := 4) C rfl dX10_count_71 rfl ?_
    exact g_iret C hr dX10_count_74 h
  rw [if_neg hc2] at h
  by_cases hc3 : a1 = 3
  · rw [if_pos hc3] at h
    refine g_tableIn (off := 74) (tgt := 75) C dX10_count_1 (by rw [hc3]; decide) (by rw [hc3]; decide) (by rw [hc3]; decide) (by decide) ?_
    refine g_aload_n (pc' := 76) C dX10_count_75 0 rfl rfl ?_
    refine gg_X10_12 (pc' := 79) (o := 0) (r := 1) C rfl rfl dX10_count_76 rfl ?_
    refine gg_X10_149 (pc' := 82) (o := 1) (r := 4) C rfl rfl dX10_count_79 rfl ?_
    refine gg_X10_158 (pc' := 85) (o := 4) C rfl dX10_count_82 rfl ?_
    refine g_iconst (pc' := 86) (v := (-1)) C dX10_count_85 (by decide) rfl ?_
    refine g_iteI (σ := σ) (pj := 104) (lv := [(0, .ref (base + 0)), (1, .int a1)]) (st := []) (cd := (rF σ 4 1) = (-1)) (a := (-4)) (b := rF σ 4 1) C ?_ (fun kt kf => ?_)
    · exact g_iret C hr dX10_count_104 h
    · refine g_icmp_ne (pc' := 89) (tgt := 94) C dX10_count_86 (by decide) rfl (fun hc => ?_) (fun hc => ?_)
      · refine g_aload_n (pc' := 95) C dX10_count_94 0 rfl rfl ?_
        refine gg_X10_12 (pc' := 98) (o := 0) (r := 1) C rfl rfl dX10_count_95 rfl ?_
        refine gg_X10_149 (pc' := 101) (o := 1) (r := 4) C rfl rfl dX10_count_98 rfl ?_
        refine gg_X10_158 (pc' := 104) (o := 4) C rfl dX10_count_101 rfl ?_
        exact kf hc
      · refine g_bipush (pc' := 91) (v := (-4)) C dX10_count_89 (by decide) rfl ?_
        refine g_goto (tgt := 104) C dX10_count_91 (by decide) ?_
        exact kt hc
  rw [if_neg hc3] at h
  by_cases hc4 : a1 = 4
  · rw [if_pos hc4] at h
    refine g_tableIn (off := 104) (tgt := 105) C dX10_count_1 (by rw [hc4]; decide) (by rw [hc4]; decide) (by rw [hc4]; decide) (by decide) ?_
    refine g_aload_n (pc' := 106) C dX10_count_105 0 rfl rfl ?_
    refine gg_X10_12 (pc' := 109) (o := 0) (r := 1) C rfl rfl dX10_count_106 rfl ?_
    refine gg_X10_149 (pc' := 112) (o := 1) (r := 4) C rfl rfl dX10_count_109 rfl ?_
    refine gg_X10_161 (pc' := 115) (o := 4) C rfl dX10_count_112 rfl ?_
    exact g_iret C hr dX10_count_115 h
  rw [if_neg hc4] at h
  by_cases hc5 : a1 = 5
  · rw [if_pos hc5] at h
    refine g_tableIn (off := 115) (tgt := 116) C dX10_count_1 (by rw [hc5]; decide) (by rw [hc5]; decide) (by rw [hc5]; decide) (by decide) ?_
    refine g_aload_n (pc' := 117) C dX10_count_116 0 rfl rfl ?_
    refine gg_X10_12 (pc' := 120) (o := 0) (r := 1) C rfl rfl dX10_count_117 rfl ?_
    refine gg_X10_149 (pc' := 123) (o := 1) (r := 4) C rfl rfl dX10_count_120 rfl ?_
    refine gg_X10_164 (pc' := 126) (o := 4) C rfl dX10_count_123 rfl ?_
    exact g_iret C hr dX10_count_126 h
  rw [if_neg hc5] at h
  by_cases hc6 : a1 = 6
  · rw [if_pos hc6] at h
    refine g_tableIn (off := 126) (tgt := 127) C dX10_count_1 (by rw [hc6]; decide) (by rw [hc6]; decide) (by rw [hc6]; decide) (by decide) ?_
    refine g_aload_n (pc' := 128) C dX10_count_127 0 rfl rfl ?_
    refine gg_X10_12 (pc' := 131) (o := 0) (r := 1) C rfl rfl dX10_count_128 rfl ?_
    refine gg_X10_167 (pc' := 134) (o := 1) C rfl dX10_count_131 rfl ?_
    exact g_iret C hr dX10_count_134 h
  rw [if_neg hc6] at h
  by_cases hc7 : a1 = 7
  · rw [if_pos hc7] at h
    refine g_tableIn (off := 134) (tgt := 135) C dX10_count_1 (by rw [hc7]; decide) (by rw [hc7]; decide) (by rw [hc7]; decide) (by decide) ?_
    refine g_aload_n (pc' := 136) C dX10_count_135 0 rfl rfl ?_
    refine gg_X10_12 (pc' := 139) (o := 0) (r := 1) C rfl rfl dX10_count_136 rfl ?_
    refine gg_X10_170 (pc' := 142) (o := 1) (r := 6) C rfl rfl dX10_count_139 rfl ?_
    refine gg_X10_174 (pc' := 145) (o := 6) C rfl dX10_count_142 rfl ?_
    exact g_iret C hr dX10_count_145 h
  rw [if_neg hc7] at h
  refine g_tableOut (tgt := 146) C dX10_count_1 (by have q0 : a1.toInt ≠ 0 := ne_toInt hc0; have q1 : a1.toInt ≠ 1 := ne_toInt hc1; have q2 : a1.toInt ≠ 2 := ne_toInt hc2; have q3 : a1.toInt ≠ 3 := ne_toInt hc3; have q4 : a1.toInt ≠ 4 := ne_toInt hc4; have q5 : a1.toInt ≠ 5 := ne_toInt hc5; have q6 : a1.toInt ≠ 6 := ne_toInt hc6; have q7 : a1.toInt ≠ 7 := ne_toInt hc7; omega) (by decide) ?_
  refine g_iconst (pc' := 147) (v := (-1)) C dX10_count_146 (by decide) rfl ?_
  exact g_iret C hr dX10_count_147 h
theorem c_X10_count (l : Launch) (base : Nat) (D : va_G) (cA : Nat → ClassId) (σ : cr_S) (a1 : Int32) (res : cr_S × Int32) (h : f_X10_count σ a1 = some res) : cr_M l yX10_count cX10_count 2 (some .int) 0 0 sfC 97 base D cA [.ref (base + 0), .int a1] σ (cr_Qi sfC 97 base D cA res) := by
  refine cr_enter [.ref (base + 0), .int a1] [(0, .ref (base + 0)), (1, .int a1)] (by decide) (Nat.le_of_ble_eq_true rfl) rfl ?_
  intro p e R s m below meth c C hr hR
  exact w_X10_count C hr hR σ a1 h
noncomputable def f_X8_take (σ : cr_S) (o0 : Nat) (o1 : Nat) : Option (cr_S) :=
  chk (kC o1 = 8) (chk (kC o0 = 8) (cr_let (sF σ o0 0 (rF σ o1 0)) (fun s3 => chk (kC o1 = 8) (chk (kC o0 = 8) (cr_let (sF s3 o0 1 (rF s3 o1 1)) (fun s7 => chk (kC o1 = 8) (chk (kC o0 = 8) (cr_let (sF s7 o0 2 (rF s7 o1 2)) (fun s11 => chk (kC o1 = 8) (chk (kC o0 = 8) (cr_let (sF s11 o0 3 (rF s11 o1 3)) (fun s15 => some s15))))))))))))
set_option maxRecDepth 100000 in
set_option maxHeartbeats 4000000 in
theorem w_X8_take (C : cr_C p l e R s m args below meth c sfC 97 base D cA cX8_take 2 RX8) (hr : meth.sig.returnType = none) (hR : 0 ≤ R.frames ∧ 0 ≤ R.locals) {res : cr_S} (σ : cr_S) (o0 : Nat) (o1 : Nat) (h : f_X8_take σ o0 o1 = some res) : cr_W p l e R s m args below meth c sfC 97 base D cA 2 (MQ below (cr_Qv sfC 97 base D cA res) args s 0 0 (cr_A 97 base)) σ 0 [(0, .ref (base + o0)), (1, .ref (base + o1))] [] := by
  unfold f_X8_take at h
  refine g_aload_n (pc' := 1) C dX8_take_0 0 rfl rfl ?_
  refine g_aload_n (pc' := 2) C dX8_take_1 1 rfl rfl ?_
  obtain ⟨h1, h⟩ := chk_some h
  refine gg_X8_15 (pc' := 5) (o := o1) C h1 dX8_take_2 rfl ?_
  obtain ⟨h2, h⟩ := chk_some h
  obtain ⟨s3, e4, h⟩ := let_some h
  refine gp_X8_15 (pc' := 8) (o := o0) C h2 dX8_take_5 rfl e4 ?_
  refine g_aload_n (pc' := 9) C dX8_take_8 0 rfl rfl ?_
  refine g_aload_n (pc' := 10) C dX8_take_9 1 rfl rfl ?_
  obtain ⟨h5, h⟩ := chk_some h
  refine gg_X8_9 (pc' := 13) (o := o1) C h5 dX8_take_10 rfl ?_
  obtain ⟨h6, h⟩ := chk_some h
  obtain ⟨s7, e8, h⟩ := let_some h
  refine gp_X8_9 (pc' := 16) (o := o0) C h6 dX8_take_13 rfl e8 ?_
  refine g_aload_n (pc' := 17) C dX8_take_16 0 rfl rfl ?_
  refine g_aload_n (pc' := 18) C dX8_take_17 1 rfl rfl ?_
  obtain ⟨h9, h⟩ := chk_some h
  refine gg_X8_18 (pc' := 21) (o := o1) C h9 dX8_take_18 rfl ?_
  obtain ⟨h10, h⟩ := chk_some h
  obtain ⟨s11, e12, h⟩ := let_some h
  refine gp_X8_18 (pc' := 24) (o := o0) C h10 dX8_take_21 rfl e12 ?_
  refine g_aload_n (pc' := 25) C dX8_take_24 0 rfl rfl ?_
  refine g_aload_n (pc' := 26) C dX8_take_25 1 rfl rfl ?_
  obtain ⟨h13, h⟩ := chk_some h
  refine gg_X8_21 (pc' := 29) (o := o1) C h13 dX8_take_26 rfl ?_
  obtain ⟨h14, h⟩ := chk_some h
  obtain ⟨s15, e16, h⟩ := let_some h
  refine gp_X8_21 (pc' := 32) (o := o0) C h14 dX8_take_29 rfl e16 ?_
  exact g_vret C hr dX8_take_32 h
theorem c_X8_take (l : Launch) (base : Nat) (D : va_G) (cA : Nat → ClassId) (σ : cr_S) (o0 : Nat) (o1 : Nat) (res : cr_S) (h : f_X8_take σ o0 o1 = some res) : cr_M l yX8_take cX8_take 2 none 0 0 sfC 97 base D cA [.ref (base + o0), .ref (base + o1)] σ (cr_Qv sfC 97 base D cA res) := by
  refine cr_enter [.ref (base + o0), .ref (base + o1)] [(0, .ref (base + o0)), (1, .ref (base + o1))] (by decide) (Nat.le_of_ble_eq_true rfl) rfl ?_
  intro p e R s m below meth c C hr hR
  exact w_X8_take C hr hR σ o0 o1 h
noncomputable def f_X9_remember_1_B46  (σ : cr_S) : Option (cr_S) :=
  chk (inb (rF σ 1 7) 8) (Option.bind (f_X8_take σ (20 + (rF σ 1 7).toNatClampNeg) 4) (fun q2 => chk (kC (20 + (rF σ 1 7).toNatClampNeg) = 8) (cr_let (sF q2 1 7 ((rF q2 1 7) + 1)) (fun s5 => some s5))))
set_option maxRecDepth 100000 in
set_option maxHeartbeats 4000000 in
theorem w_X9_remember_1_B46 (C : cr_C p l e R s m args below meth c sfC 97 base D cA cX9_remember 2 RX9) (hr : meth.sig.returnType = none) (hR : 1 ≤ R.frames ∧ 21 ≤ R.locals) {res : cr_S}  (σ : cr_S) (h : f_X9_remember_1_B46 σ = some res) : cr_W p l e R s m args below meth c sfC 97 base D cA 2 (MQ below (cr_Qv sfC 97 base D cA res) args s 0 0 (cr_A 97 base)) σ 46 [(0, .ref (base + 1))] [] := by
  unfold f_X9_remember_1_B46 at h
  refine g_aload_n (pc' := 47) C dX9_remember_46 0 rfl rfl ?_
  refine gg_X9_30 (pc' := 50) (o := 1) (r := 5) C rfl rfl dX9_remember_47 rfl ?_
  refine g_aload_n (pc' := 51) C dX9_remember_50 0 rfl rfl ?_
  refine gg_X9_61 (pc' := 54) (o := 1) C rfl dX9_remember_51 rfl ?_
  obtain ⟨h1, h⟩ := chk_some h
  refine g_aald (pc' := 55) C (o := 5) (by decide) rfl (cn := "ClashRocks$Voyage") rfl (inb_d h1) dX9_remember_54 rfl ?_
  refine g_aload_n (pc' := 56) C dX9_remember_55 0 rfl rfl ?_
  refine gg_X9_26 (pc' := 59) (o := 1) (r := 4) C rfl rfl dX9_remember_56 rfl ?_
  obtain ⟨q2, h3, h⟩ := bind_some h
  obtain ⟨h4, h⟩ := chk_some h
  refine g_callVv (pc' := 62) (res := q2) C [.ref (base + 4)] cY_X8_take rfl (o := 20 + (rF σ 1 7).toNatClampNeg) (kC_lt h4 (by decide)) (sfC_8 h4) mv_X8_take mm_X9_57 ⟨Nat.le_trans (by decide) hR.1, Nat.le_trans (by decide) hR.2⟩ rfl (Nat.le_of_ble_eq_true rfl) rfl dX9_remember_59 (c_X8_take l base D cA σ (20 + (rF σ 1 7).toNatClampNeg) 4 q2 h3) rfl ?_
  refine g_aload_n (pc' := 63) C dX9_remember_62 0 rfl rfl ?_
  refine g_dup (pc' := 64) C dX9_remember_63 rfl rfl ?_
  refine gg_X9_61 (pc' := 67) (o := 1) C rfl dX9_remember_64 rfl ?_
  refine g_iconst (pc' := 68) (v := 1) C dX9_remember_67 (by decide) rfl ?_
  refine g_iadd (pc' := 69) C dX9_remember_68 rfl ?_
  obtain ⟨s5, e6, h⟩ := let_some h
  refine gp_X9_61 (pc' := 72) (o := 1) C rfl dX9_remember_69 rfl e6 ?_
  exact g_vret C hr dX9_remember_72 h
noncomputable def f_X9_remember_1_B40  (σ : cr_S) : Option (cr_S) :=
  cr_let (sF σ 1 7 7) (fun s7 => f_X9_remember_1_B46 s7)
set_option maxRecDepth 100000 in
set_option maxHeartbeats 4000000 in
theorem w_X9_remember_1_B40 (C : cr_C p l e R s m args below meth c sfC 97 base D cA cX9_remember 2 RX9) (hr : meth.sig.returnType = none) (hR : 1 ≤ R.frames ∧ 21 ≤ R.locals) {res : cr_S}  (σ : cr_S) (h : f_X9_remember_1_B40 σ = some res) : cr_W p l e R s m args below meth c sfC 97 base D cA 2 (MQ below (cr_Qv sfC 97 base D cA res) args s 0 0 (cr_A 97 base)) σ 40 [(0, .ref (base + 1))] [] := by
  unfold f_X9_remember_1_B40 at h
  refine g_aload_n (pc' := 41) C dX9_remember_40 0 rfl rfl ?_
  refine g_bipush (pc' := 43) (v := 7) C dX9_remember_41 (by decide) rfl ?_
  obtain ⟨s7, e8, h⟩ := let_some h
  refine gp_X9_61 (pc' := 46) (o := 1) C rfl dX9_remember_43 rfl e8 ?_
  exact g_sub C [0] rfl (w_X9_remember_1_B46 C hr hR _ h)
noncomputable def f_X9_remember_1_L11  : Nat → cr_S → Int32 → Option (cr_S)
  | 0, _, _ => none
  | n + 1, σ, x1 =>
    (if 8 ≤ x1 then f_X9_remember_1_B40 σ else chk (inb (x1 - 1) 8) (chk (inb x1 8) (Option.bind (f_X8_take σ (20 + (x1 - 1).toNatClampNeg) (20 + x1.toNatClampNeg)) (fun q11 => chk (kC (20 + (x1 - 1).toNatClampNeg) = 8) (cr_let (x1 + 1) (fun v14 => f_X9_remember_1_L11 n q11 v14))))))
set_option maxRecDepth 100000 in
set_option maxHeartbeats 4000000 in
theorem w_X9_remember_1_L11 (C : cr_C p l e R s m args below meth c sfC 97 base D cA cX9_remember 2 RX9) (hr : meth.sig.returnType = none) (hR : 1 ≤ R.frames ∧ 21 ≤ R.locals) {res : cr_S}  : ∀ (n : Nat) (σ : cr_S) (x1 : Int32), f_X9_remember_1_L11 n σ x1 = some res → cr_W p l e R s m args below meth c sfC 97 base D cA 2 (MQ below (cr_Qv sfC 97 base D cA res) args s 0 0 (cr_A 97 base)) σ 11 [(0, .ref (base + 1)), (1, .int x1)] [] := by
  intro n
  induction n with
  | zero =>
    intro σ x1 h
    cases h
  | succ n ih =>
    intro σ x1 h
    rw [f_X9_remember_1_L11] at h
    refine g_iload_n (pc' := 12) C dX9_remember_11 1 rfl rfl ?_
    refine g_bipush (pc' := 14) (v := 8) C dX9_remember_12 (by decide) rfl ?_
    refine g_icmp_ge (pc' := 17) (tgt := 40) C dX9_remember_14 (by decide) rfl (fun hc => ?_) (fun hc => ?_)
    · rw [if_pos hc] at h
      exact g_sub C [0] rfl (w_X9_remember_1_B40 C hr hR _ h)
    · rw [if_neg hc] at h
      refine g_aload_n (pc' := 18) C dX9_remember_17 0 rfl rfl ?_
      refine gg_X9_30 (pc' := 21) (o := 1) (r := 5) C rfl rfl dX9_remember_18 rfl ?_
      refine g_iload_n (pc' := 22) C dX9_remember_21 1 rfl rfl ?_
      refine g_iconst (pc' := 23) (v := 1) C dX9_remember_22 (by decide) rfl ?_
      refine g_isub (pc' := 24) C dX9_remember_23 rfl ?_
      obtain ⟨h9, h⟩ := chk_some h
      refine g_aald (pc' := 25) C (o := 5) (by decide) rfl (cn := "ClashRocks$Voyage") rfl (inb_d h9) dX9_remember_24 rfl ?_
      refine g_aload_n (pc' := 26) C dX9_remember_25 0 rfl rfl ?_
      refine gg_X9_30 (pc' := 29) (o := 1) (r := 5) C rfl rfl dX9_remember_26 rfl ?_
      refine g_iload_n (pc' := 30) C dX9_remember_29 1 rfl rfl ?_
      obtain ⟨h10, h⟩ := chk_some h
      refine g_aald (pc' := 31) C (o := 5) (by decide) rfl (cn := "ClashRocks$Voyage") rfl (inb_d h10) dX9_remember_30 rfl ?_
      obtain ⟨q11, h12, h⟩ := bind_some h
      obtain ⟨h13, h⟩ := chk_some h
      refine g_callVv (pc' := 34) (res := q11) C [.ref (base + (20 + x1.toNatClampNeg))] cY_X8_take rfl (o := 20 + (x1 - 1).toNatClampNeg) (kC_lt h13 (by decide)) (sfC_8 h13) mv_X8_take mm_X9_57 ⟨Nat.le_trans (by decide) hR.1, Nat.le_trans (by decide) hR.2⟩ rfl (Nat.le_of_ble_eq_true rfl) rfl dX9_remember_31 (c_X8_take l base D cA σ (20 + (x1 - 1).toNatClampNeg) (20 + x1.toNatClampNeg) q11 h12) rfl ?_
      obtain ⟨v14, e15, h⟩ := let_some h
      refine g_iinc (pc' := 37) (v := v14) (lv' := [(1, .int v14), (0, .ref (base + 1))]) C dX9_remember_34 1 rfl (by rw [e15]; rfl) (by decide) rfl rfl ?_
      refine g_goto (tgt := 11) C dX9_remember_37 (by decide) ?_
      exact g_sub C [1, 0] rfl (ih _ _ h)
noncomputable def f_X9_remember_1 (σ : cr_S) : Option (cr_S) :=
  (if (rF σ 1 7) < 8 then f_X9_remember_1_B46 σ else f_X9_remember_1_L11 cr_fuel σ 1)
set_option maxRecDepth 100000 in
set_option maxHeartbeats 4000000 in
theorem w_X9_remember_1 (C : cr_C p l e R s m args below meth c sfC 97 base D cA cX9_remember 2 RX9) (hr : meth.sig.returnType = none) (hR : 1 ≤ R.frames ∧ 21 ≤ R.locals) {res : cr_S} (σ : cr_S) (h : f_X9_remember_1 σ = some res) : cr_W p l e R s m args below meth c sfC 97 base D cA 2 (MQ below (cr_Qv sfC 97 base D cA res) args s 0 0 (cr_A 97 base)) σ 0 [(0, .ref (base + 1))] [] := by
  unfold f_X9_remember_1 at h
  refine g_aload_n (pc' := 1) C dX9_remember_0 0 rfl rfl ?_
  refine gg_X9_61 (pc' := 4) (o := 1) C rfl dX9_remember_1 rfl ?_
  refine g_bipush (pc' := 6) (v := 8) C dX9_remember_4 (by decide) rfl ?_
  refine g_icmp_lt (pc' := 9) (tgt := 46) C dX9_remember_6 (by decide) rfl (fun hc => ?_) (fun hc => ?_)
  · rw [if_pos hc] at h
    exact g_sub C [0] rfl (w_X9_remember_1_B46 C hr hR _ h)
  · rw [if_neg hc] at h
    refine g_iconst (pc' := 10) (v := 1) C dX9_remember_9 (by decide) rfl ?_
    refine g_istore_n (pc' := 11) (lv' := [(1, .int 1), (0, .ref (base + 1))]) C dX9_remember_10 rfl (by decide) rfl rfl ?_
    exact g_sub C [1, 0] rfl (w_X9_remember_1_L11 C hr hR _ _ _ h)
theorem c_X9_remember_1 (l : Launch) (base : Nat) (D : va_G) (cA : Nat → ClassId) (σ : cr_S) (res : cr_S) (h : f_X9_remember_1 σ = some res) : cr_M l yX9_remember cX9_remember 2 none 1 21 sfC 97 base D cA [.ref (base + 1)] σ (cr_Qv sfC 97 base D cA res) := by
  refine cr_enter [.ref (base + 1)] [(0, .ref (base + 1))] (by decide) (Nat.le_of_ble_eq_true rfl) rfl ?_
  intro p e R s m below meth c C hr hR
  exact w_X9_remember_1 C hr hR σ h
noncomputable def f_X10_setOut_B43  (σ : cr_S) (x1 : Int32) : Option (cr_S × Int32) :=
  Option.bind (f_X9_remember_1 σ) (fun q3 => Option.bind (f_X8_begin q3 4 x1) (fun q5 => some (q5, rF q5 1 5)))
set_option maxRecDepth 100000 in
set_option maxHeartbeats 4000000 in
theorem w_X10_setOut_B43 (C : cr_C p l e R s m args below meth c sfC 97 base D cA cX10_setOut 3 RX10) (hr : meth.sig.returnType = some .int) (hR : 2 ≤ R.frames ∧ 43 ≤ R.locals) {res : cr_S × Int32}  (σ : cr_S) (x1 : Int32) (h : f_X10_setOut_B43 σ x1 = some res) : cr_W p l e R s m args below meth c sfC 97 base D cA 3 (MQ below (cr_Qi sfC 97 base D cA res) args s 0 0 (cr_A 97 base)) σ 43 [(0, .ref (base + 0)), (1, .int x1), (2, .ref (base + 4))] [] := by
  unfold f_X10_setOut_B43 at h
  refine g_aload_n (pc' := 44) C dX10_setOut_43 0 rfl rfl ?_
  refine gg_X10_12 (pc' := 47) (o := 0) (r := 1) C rfl rfl dX10_setOut_44 rfl ?_
  obtain ⟨q3, h4, h⟩ := bind_some h
  refine g_callVv (pc' := 50) (res := q3) C [] cY_X9_remember rfl (o := 1) (by decide) rfl mv_X9_remember mm_X10_177 ⟨Nat.le_trans (by decide) hR.1, Nat.le_trans (by decide) hR.2⟩ rfl (Nat.le_of_ble_eq_true rfl) rfl dX10_setOut_47 (c_X9_remember_1 l base D cA σ q3 h4) rfl ?_
  refine g_aload_n (pc' := 51) C dX10_setOut_50 2 rfl rfl ?_
  refine g_iload_n (pc' := 52) C dX10_setOut_51 1 rfl rfl ?_
  obtain ⟨q5, h6, h⟩ := bind_some h
  refine g_callVv (pc' := 55) (res := q5) C [.int x1] cY_X8_begin rfl (o := 4) (by decide) rfl mv_X8_begin mm_X10_180 ⟨Nat.le_trans (by decide) hR.1, Nat.le_trans (by decide) hR.2⟩ rfl (Nat.le_of_ble_eq_true rfl) rfl dX10_setOut_52 (c_X8_begin l base D cA q3 4 x1 q5 h6) rfl ?_
  refine g_aload_n (pc' := 56) C dX10_setOut_55 0 rfl rfl ?_
  refine gg_X10_12 (pc' := 59) (o := 0) (r := 1) C rfl rfl dX10_setOut_56 rfl ?_
  refine gg_X10_58 (pc' := 62) (o := 1) C rfl dX10_setOut_59 rfl ?_
  exact g_iret C hr dX10_setOut_62 h
noncomputable def f_X10_setOut (σ : cr_S) (a1 : Int32) : Option (cr_S × Int32) :=
  Option.bind (f_X10_isShip σ a1) (fun q1 => (if q1.2 = 0 then some (q1.1, (-1)) else (if (rF q1.1 4 1) = (-1) then f_X10_setOut_B43 q1.1 a1 else (if (rF q1.1 1 5) ≤ (rF q1.1 4 2) then f_X10_setOut_B43 q1.1 a1 else some (q1.1, (-2))))))
set_option maxRecDepth 100000 in
set_option maxHeartbeats 4000000 in
theorem w_X10_setOut (C : cr_C p l e R s m args below meth c sfC 97 base D cA cX10_setOut 3 RX10) (hr : meth.sig.returnType = some .int) (hR : 2 ≤ R.frames ∧ 43 ≤ R.locals) {res : cr_S × Int32} (σ : cr_S) (a1 : Int32) (h : f_X10_setOut σ a1 = some res) : cr_W p l e R s m args below meth c sfC 97 base D cA 3 (MQ below (cr_Qi sfC 97 base D cA res) args s 0 0 (cr_A 97 base)) σ 0 [(0, .ref (base + 0)), (1, .int a1)] [] := by
  unfold f_X10_setOut at h
  refine g_aload_n (pc' := 1) C dX10_setOut_0 0 rfl rfl ?_
  refine g_iload_n (pc' := 2) C dX10_setOut_1 1 rfl rfl ?_
  obtain ⟨q1, h2, h⟩ := bind_some h
  refine g_callVi (pc' := 5) (res := q1) C [.int a1] cY_X10_isShip rfl (o := 0) (by decide) rfl mv_X10_isShip mm_X10_103 ⟨Nat.le_trans (by decide) hR.1, Nat.le_trans (by decide) hR.2⟩ rfl (Nat.le_of_ble_eq_true rfl) rfl dX10_setOut_2 (c_X10_isShip l base D cA σ a1 q1 h2) rfl ?_
  refine g_if_ne (pc' := 8) (tgt := 10) C dX10_setOut_5 (by decide) rfl (fun hc => ?_) (fun hc => ?_)
  · rw [if_neg hc] at h
    refine g_aload_n (pc' := 11) C dX10_setOut_10 0 rfl rfl ?_
    refine gg_X10_12 (pc' := 14) (o := 0) (r := 1) C rfl rfl dX10_setOut_11 rfl ?_
    refine gg_X10_149 (pc' := 17) (o := 1) (r := 4) C rfl rfl dX10_setOut_14 rfl ?_
    refine g_astore_n (pc' := 18) (lv' := [(2, .ref (base + 4)), (0, .ref (base + 0)), (1, .int a1)]) C dX10_setOut_17 rfl (by decide) rfl rfl ?_
    refine g_aload_n (pc' := 19) C dX10_setOut_18 0 rfl rfl ?_
    refine gg_X10_158 (pc' := 22) (o := 4) C rfl dX10_setOut_19 rfl ?_
    refine g_iconst (pc' := 23) (v := (-1)) C dX10_setOut_22 (by decide) rfl ?_
    refine g_icmp_eq (pc' := 26) (tgt := 43) C dX10_setOut_23 (by decide) rfl (fun hc => ?_) (fun hc => ?_)
    · rw [if_pos hc] at h
      exact g_sub C [1, 2, 0] rfl (w_X10_setOut_B43 C hr hR _ _ h)
    · rw [if_neg hc] at h
      refine g_aload_n (pc' := 27) C dX10_setOut_26 0 rfl rfl ?_
      refine gg_X10_161 (pc' := 30) (o := 4) C rfl dX10_setOut_27 rfl ?_
      refine g_aload_n (pc' := 31) C dX10_setOut_30 1 rfl rfl ?_
      refine gg_X10_12 (pc' := 34) (o := 0) (r := 1) C rfl rfl dX10_setOut_31 rfl ?_
      refine gg_X10_58 (pc' := 37) (o := 1) C rfl dX10_setOut_34 rfl ?_
      refine g_icmp_ge (pc' := 40) (tgt := 43) C dX10_setOut_37 (by decide) rfl (fun hc => ?_) (fun hc => ?_)
      · rw [if_pos hc] at h
        exact g_sub C [1, 2, 0] rfl (w_X10_setOut_B43 C hr hR _ _ h)
      · rw [if_neg hc] at h
        refine g_bipush (pc' := 42) (v := (-2)) C dX10_setOut_40 (by decide) rfl ?_
        exact g_iret C hr dX10_setOut_42 h
  · rw [if_pos hc] at h
    refine g_iconst (pc' := 9) (v := (-1)) C dX10_setOut_8 (by decide) rfl ?_
    exact g_iret C hr dX10_setOut_9 h
theorem c_X10_setOut (l : Launch) (base : Nat) (D : va_G) (cA : Nat → ClassId) (σ : cr_S) (a1 : Int32) (res : cr_S × Int32) (h : f_X10_setOut σ a1 = some res) : cr_M l yX10_setOut cX10_setOut 3 (some .int) 2 43 sfC 97 base D cA [.ref (base + 0), .int a1] σ (cr_Qi sfC 97 base D cA res) := by
  refine cr_enter [.ref (base + 0), .int a1] [(0, .ref (base + 0)), (1, .int a1)] (by decide) (Nat.le_of_ble_eq_true rfl) rfl ?_
  intro p e R s m below meth c C hr hR
  exact w_X10_setOut C hr hR σ a1 h
noncomputable def f_X10_idle (σ : cr_S) (a1 : Int32) : Option (cr_S × Int32) :=
  Option.bind (f_X10_isWithin σ a1 1 99) (fun q1 => (if q1.2 = 0 then some (q1.1, (-1)) else (if ((rF q1.1 4 0) + a1) ≤ 9999 then Option.bind (f_X9_remember_1 q1.1) (fun q3 => cr_let (sF q3 4 0 ((rF q3 4 0) + a1)) (fun s5 => some (s5, rF s5 4 0))) else some (q1.1, (-3)))))
set_option maxRecDepth 100000 in
set_option maxHeartbeats 4000000 in
theorem w_X10_idle (C : cr_C p l e R s m args below meth c sfC 97 base D cA cX10_idle 2 RX10) (hr : meth.sig.returnType = some .int) (hR : 2 ≤ R.frames ∧ 42 ≤ R.locals) {res : cr_S × Int32} (σ : cr_S) (a1 : Int32) (h : f_X10_idle σ a1 = some res) : cr_W p l e R s m args below meth c sfC 97 base D cA 2 (MQ below (cr_Qi sfC 97 base D cA res) args s 0 0 (cr_A 97 base)) σ 0 [(0, .ref (base + 0)), (1, .int a1)] [] := by
  unfold f_X10_idle at h
  refine g_iload_n (pc' := 1) C dX10_idle_0 1 rfl rfl ?_
  refine g_iconst (pc' := 2) (v := 1) C dX10_idle_1 (by decide) rfl ?_
  refine g_bipush (pc' := 4) (v := 99) C dX10_idle_2 (by decide) rfl ?_
  obtain ⟨q1, h2, h⟩ := bind_some h
  refine g_callSi (pc' := 7) (res := q1) C [.int a1, .int 1, .int 99] cY_X10_isWithin mv_X10_isWithin mm_X10_54 ⟨Nat.le_trans (by decide) hR.1, Nat.le_trans (by decide) hR.2⟩ rfl (Nat.le_of_ble_eq_true rfl) rfl dX10_idle_4 (c_X10_isWithin l base D cA σ a1 1 99 q1 h2) rfl ?_
  refine g_if_ne (pc' := 10) (tgt := 12) C dX10_idle_7 (by decide) rfl (fun hc => ?_) (fun hc => ?_)
  · rw [if_neg hc] at h
    refine g_aload_n (pc' := 13) C dX10_idle_12 0 rfl rfl ?_
    refine gg_X10_12 (pc' := 16) (o := 0) (r := 1) C rfl rfl dX10_idle_13 rfl ?_
    refine gg_X10_149 (pc' := 19) (o := 1) (r := 4) C rfl rfl dX10_idle_16 rfl ?_
    refine gg_X10_153 (pc' := 22) (o := 4) C rfl dX10_idle_19 rfl ?_
    refine g_iload_n (pc' := 23) C dX10_idle_22 1 rfl rfl ?_
    refine g_iadd (pc' := 24) C dX10_idle_23 rfl ?_
    refine g_sipush (pc' := 27) (v := 9999) C dX10_idle_24 (by decide) rfl ?_
    refine g_icmp_le (pc' := 30) (tgt := 33) C dX10_idle_27 (by decide) rfl (fun hc => ?_) (fun hc => ?_)
    · rw [if_pos hc] at h
      refine g_aload_n (pc' := 34) C dX10_idle_33 0 rfl rfl ?_
      refine gg_X10_12 (pc' := 37) (o := 0) (r := 1) C rfl rfl dX10_idle_34 rfl ?_
      obtain ⟨q3, h4, h⟩ := bind_some h
      refine g_callVv (pc' := 40) (res := q3) C [] cY_X9_remember rfl (o := 1) (by decide) rfl mv_X9_remember mm_X10_177 ⟨Nat.le_trans (by decide) hR.1, Nat.le_trans (by decide) hR.2⟩ rfl (Nat.le_of_ble_eq_true rfl) rfl dX10_idle_37 (c_X9_remember_1 l base D cA q1.1 q3 h4) rfl ?_
      refine g_aload_n (pc' := 41) C dX10_idle_40 0 rfl rfl ?_
      refine gg_X10_12 (pc' := 44) (o := 0) (r := 1) C rfl rfl dX10_idle_41 rfl ?_
      refine gg_X10_149 (pc' := 47) (o := 1) (r := 4) C rfl rfl dX10_idle_44 rfl ?_
      refine g_dup (pc' := 48) C dX10_idle_47 rfl rfl ?_
      refine gg_X10_153 (pc' := 51) (o := 4) C rfl dX10_idle_48 rfl ?_
      refine g_iload_n (pc' := 52) C dX10_idle_51 1 rfl rfl ?_
      refine g_iadd (pc' := 53) C dX10_idle_52 rfl ?_
      obtain ⟨s5, e6, h⟩ := let_some h
      refine gp_X10_153 (pc' := 56) (o := 4) C rfl dX10_idle_53 rfl e6 ?_
      refine g_aload_n (pc' := 57) C dX10_idle_56 0 rfl rfl ?_
      refine gg_X10_12 (pc' := 60) (o := 0) (r := 1) C rfl rfl dX10_idle_57 rfl ?_
      refine gg_X10_149 (pc' := 63) (o := 1) (r := 4) C rfl rfl dX10_idle_60 rfl ?_
      refine gg_X10_153 (pc' := 66) (o := 4) C rfl dX10_idle_63 rfl ?_
      exact g_iret C hr dX10_idle_66 h
    · rw [if_neg hc] at h
      refine g_bipush (pc' := 32) (v := (-3)) C dX10_idle_30 (by decide) rfl ?_
      exact g_iret C hr dX10_idle_32 h
  · rw [if_pos hc] at h
    refine g_iconst (pc' := 11) (v := (-1)) C dX10_idle_10 (by decide) rfl ?_
    exact g_iret C hr dX10_idle_11 h
theorem c_X10_idle (l : Launch) (base : Nat) (D : va_G) (cA : Nat → ClassId) (σ : cr_S) (a1 : Int32) (res : cr_S × Int32) (h : f_X10_idle σ a1 = some res) : cr_M l yX10_idle cX10_idle 2 (some .int) 2 42 sfC 97 base D cA [.ref (base + 0), .int a1] σ (cr_Qi sfC 97 base D cA res) := by
  refine cr_enter [.ref (base + 0), .int a1] [(0, .ref (base + 0)), (1, .int a1)] (by decide) (Nat.le_of_ble_eq_true rfl) rfl ?_
  intro p e R s m below meth c C hr hR
  exact w_X10_idle C hr hR σ a1 h
noncomputable def f_X10_secondsFor (σ : cr_S) (a0 : Int32) (a1 : Int32) : Option (cr_S × Int32) :=
  (if 1 ≤ a1 then chk (¬ a1 = 0) (some (σ, ((a0 + a1) - 1) / a1)) else some (σ, a0))
set_option maxRecDepth 100000 in
set_option maxHeartbeats 4000000 in
theorem w_X10_secondsFor (C : cr_C p l e R s m args below meth c sfC 97 base D cA cX10_secondsFor 2 RX10) (hr : meth.sig.returnType = some .int) (hR : 0 ≤ R.frames ∧ 0 ≤ R.locals) {res : cr_S × Int32} (σ : cr_S) (a0 : Int32) (a1 : Int32) (h : f_X10_secondsFor σ a0 a1 = some res) : cr_W p l e R s m args below meth c sfC 97 base D cA 2 (MQ below (cr_Qi sfC 97 base D cA res) args s 0 0 (cr_A 97 base)) σ 0 [(0, .int a0), (1, .int a1)] [] := by
  unfold f_X10_secondsFor at h
  refine g_iload_n (pc' := 1) C dX10_secondsFor_0 1 rfl rfl ?_
  refine g_iconst (pc' := 2) (v := 1) C dX10_secondsFor_1 (by decide) rfl ?_
  refine g_icmp_ge (pc' := 5) (tgt := 9) C dX10_secondsFor_2 (by decide) rfl (fun hc => ?_) (fun hc => ?_)
  · rw [if_pos hc] at h
    refine g_iload_n (pc' := 10) C dX10_secondsFor_9 0 rfl rfl ?_
    refine g_iload_n (pc' := 11) C dX10_secondsFor_10 1 rfl rfl ?_
    refine g_iadd (pc' := 12) C dX10_secondsFor_11 rfl ?_
    refine g_iconst (pc' := 13) (v := 1) C dX10_secondsFor_12 (by decide) rfl ?_
    refine g_isub (pc' := 14) C dX10_secondsFor_13 rfl ?_
    refine g_iload_n (pc' := 15) C dX10_secondsFor_14 1 rfl rfl ?_
    obtain ⟨h1, h⟩ := chk_some h
    refine g_idiv (pc' := 16) C dX10_secondsFor_15 h1 rfl ?_
    exact g_iret C hr dX10_secondsFor_16 h
  · rw [if_neg hc] at h
    refine g_iload_n (pc' := 6) C dX10_secondsFor_5 0 rfl rfl ?_
    refine g_goto (tgt := 16) C dX10_secondsFor_6 (by decide) ?_
    exact g_iret C hr dX10_secondsFor_16 h
theorem c_X10_secondsFor (l : Launch) (base : Nat) (D : va_G) (cA : Nat → ClassId) (σ : cr_S) (a0 : Int32) (a1 : Int32) (res : cr_S × Int32) (h : f_X10_secondsFor σ a0 a1 = some res) : cr_M l yX10_secondsFor cX10_secondsFor 2 (some .int) 0 0 sfC 97 base D cA [.int a0, .int a1] σ (cr_Qi sfC 97 base D cA res) := by
  refine cr_enter [.int a0, .int a1] [(0, .int a0), (1, .int a1)] (by decide) (Nat.le_of_ble_eq_true rfl) rfl ?_
  intro p e R s m below meth c C hr hR
  exact w_X10_secondsFor C hr hR σ a0 a1 h
end

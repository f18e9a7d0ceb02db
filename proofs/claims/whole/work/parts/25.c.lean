section
variable {p : Program} {l : Launch} {e : Env} {R : Room} {s : State} {m : MethodId} {args : Array Value} {below : List Frame} {meth : Method} {c : Code} {base : Nat} {D : va_G} {cA : Nat → ClassId}
noncomputable def f_X5_tellPaces_74_1_L9  : Nat → cr_S → Nat → Int32 → Int32 → Int32 → Option (cr_S)
  | 0, _, _, _, _, _ => none
  | n + 1, σ, x2, x3, x4, x5 =>
    (if (rF σ 1 5) ≤ x5 then some σ else chk (inb x5 6) (Option.bind (f_X5_measure_74 σ (9 + x5.toNatClampNeg) x3 (100 + ((x5 + 1) * 41))) (fun q4 => chk (inb x5 6) (Option.bind (f_X5_firstPace_74 q4 (9 + x5.toNatClampNeg) x2 x5 x4) (fun q7 => chk (inb x5 6) (cr_let (sA q7.1 84 x5 q7.2) (fun s10 => chk (inb x5 6) (chk (kC (9 + x5.toNatClampNeg) = 3) (chk (inb x5 6) (Option.bind (f_X10_secondsFor s10 (rF s10 (9 + x5.toNatClampNeg) 1) (rA s10 84 x5)) (fun q15 => Option.bind (f_X6_span q15.1 x2) (fun q17 => chk (kC x2 = 6) (chk (inb x5 6) (Option.bind (f_X10_secondsFor q17.1 q17.2 (rA q17.1 84 x5)) (fun q21 => cr_let (x4 + (q15.2 + q21.2)) (fun v23 => cr_let (x5 + 1) (fun v25 => f_X5_tellPaces_74_1_L9 n q21.1 x2 x3 v23 v25)))))))))))))))))
set_option maxRecDepth 100000 in
set_option maxHeartbeats 4000000 in
theorem w_X5_tellPaces_74_1_L9 (C : cr_C p l e R s m args below meth c sfC 97 base D cA cX5_tellPaces 6 RX5) (hr : meth.sig.returnType = none) (hR : 4 ≤ R.frames ∧ 89 ≤ R.locals) {res : cr_S}  : ∀ (n : Nat) (σ : cr_S) (x2 : Nat) (x3 : Int32) (x4 : Int32) (x5 : Int32), f_X5_tellPaces_74_1_L9 n σ x2 x3 x4 x5 = some res → cr_W p l e R s m args below meth c sfC 97 base D cA 6 (MQ below (cr_Qv sfC 97 base D cA res) args s 0 0 (cr_A 97 base)) σ 9 [(0, .ref (base + 74)), (1, .ref (base + 1)), (2, .ref (base + x2)), (3, .int x3), (4, .int x4), (5, .int x5)] [] := by
  intro n
  induction n with
  | zero =>
    intro σ x2 x3 x4 x5 h
    cases h
  | succ n ih =>
    intro σ x2 x3 x4 x5 h
    rw [f_X5_tellPaces_74_1_L9] at h
    refine g_iload (pc' := 11) C dX5_tellPaces_9 5 rfl rfl ?_
    refine g_aload_n (pc' := 12) C dX5_tellPaces_11 1 rfl rfl ?_
    refine gg_X5_23 (pc' := 15) (o := 1) C rfl dX5_tellPaces_12 rfl ?_
    refine g_icmp_ge (pc' := 18) (tgt := 109) C dX5_tellPaces_15 (by decide) rfl (fun hc => ?_) (fun hc => ?_)
    · rw [if_pos hc] at h
      exact g_vret C hr dX5_tellPaces_109 h
    · rw [if_neg hc] at h
      refine g_aload_n (pc' := 19) C dX5_tellPaces_18 0 rfl rfl ?_
      refine g_aload_n (pc' := 20) C dX5_tellPaces_19 1 rfl rfl ?_
      refine gg_X5_29 (pc' := 23) (o := 1) (r := 2) C rfl rfl dX5_tellPaces_20 rfl ?_
      refine g_iload (pc' := 25) C dX5_tellPaces_23 5 rfl rfl ?_
      obtain ⟨h3, h⟩ := chk_some h
      refine g_aald (pc' := 26) C (o := 2) (by decide) rfl (cn := "ClashRocks$Pair") rfl (inb_d h3) dX5_tellPaces_25 rfl ?_
      refine g_iload_n (pc' := 27) C dX5_tellPaces_26 3 rfl rfl ?_
      refine g_bipush (pc' := 29) (v := 100) C dX5_tellPaces_27 (by decide) rfl ?_
      refine g_iload (pc' := 31) C dX5_tellPaces_29 5 rfl rfl ?_
      refine g_iconst (pc' := 32) (v := 1) C dX5_tellPaces_31 (by decide) rfl ?_
      refine g_iadd (pc' := 33) C dX5_tellPaces_32 rfl ?_
      refine g_bipush (pc' := 35) (v := 41) C dX5_tellPaces_33 (by decide) rfl ?_
      refine g_imul (pc' := 36) C dX5_tellPaces_35 rfl ?_
      refine g_iadd (pc' := 37) C dX5_tellPaces_36 rfl ?_
      obtain ⟨q4, h5, h⟩ := bind_some h
      refine g_callVv (pc' := 40) (res := q4) C [.ref (base + (9 + x5.toNatClampNeg)), .int x3, .int (100 + ((x5 + 1) * 41))] cY_X5_measure rfl (o := 74) (by decide) rfl mv_X5_measure mm_X5_33 ⟨Nat.le_trans (by decide) hR.1, Nat.le_trans (by decide) hR.2⟩ rfl (Nat.le_of_ble_eq_true rfl) rfl dX5_tellPaces_37 (c_X5_measure_74 l base D cA σ (9 + x5.toNatClampNeg) x3 (100 + ((x5 + 1) * 41)) q4 h5) rfl ?_
      refine g_aload_n (pc' := 41) C dX5_tellPaces_40 0 rfl rfl ?_
      refine gg_X5_20 (pc' := 44) (o := 74) (r := 84) C rfl rfl dX5_tellPaces_41 rfl ?_
      refine g_iload (pc' := 46) C dX5_tellPaces_44 5 rfl rfl ?_
      refine g_aload_n (pc' := 47) C dX5_tellPaces_46 0 rfl rfl ?_
      refine g_aload_n (pc' := 48) C dX5_tellPaces_47 1 rfl rfl ?_
      refine gg_X5_29 (pc' := 51) (o := 1) (r := 2) C rfl rfl dX5_tellPaces_48 rfl ?_
      refine g_iload (pc' := 53) C dX5_tellPaces_51 5 rfl rfl ?_
      obtain ⟨h6, h⟩ := chk_some h
      refine g_aald (pc' := 54) C (o := 2) (by decide) rfl (cn := "ClashRocks$Pair") rfl (inb_d h6) dX5_tellPaces_53 rfl ?_
      refine g_aload_n (pc' := 55) C dX5_tellPaces_54 2 rfl rfl ?_
      refine g_iload (pc' := 57) C dX5_tellPaces_55 5 rfl rfl ?_
      refine g_iload (pc' := 59) C dX5_tellPaces_57 4 rfl rfl ?_
      obtain ⟨q7, h8, h⟩ := bind_some h
      refine g_callVi (pc' := 62) (res := q7) C [.ref (base + (9 + x5.toNatClampNeg)), .ref (base + x2), .int x5, .int x4] cY_X5_firstPace rfl (o := 74) (by decide) rfl mv_X5_firstPace mm_X5_85 ⟨Nat.le_trans (by decide) hR.1, Nat.le_trans (by decide) hR.2⟩ rfl (Nat.le_of_ble_eq_true rfl) rfl dX5_tellPaces_59 (c_X5_firstPace_74 l base D cA q4 (9 + x5.toNatClampNeg) x2 x5 x4 q7 h8) rfl ?_
      obtain ⟨h9, h⟩ := chk_some h
      obtain ⟨s10, e11, h⟩ := let_some h
      refine g_iast (pc' := 63) C (o := 84) (by decide) rfl (inb_d h9) dX5_tellPaces_62 rfl e11 ?_
      refine g_iload (pc' := 65) C dX5_tellPaces_63 4 rfl rfl ?_
      refine g_aload_n (pc' := 66) C dX5_tellPaces_65 1 rfl rfl ?_
      refine gg_X5_29 (pc' := 69) (o := 1) (r := 2) C rfl rfl dX5_tellPaces_66 rfl ?_
      refine g_iload (pc' := 71) C dX5_tellPaces_69 5 rfl rfl ?_
      obtain ⟨h12, h⟩ := chk_some h
      refine g_aald (pc' := 72) C (o := 2) (by decide) rfl (cn := "ClashRocks$Pair") rfl (inb_d h12) dX5_tellPaces_71 rfl ?_
      obtain ⟨h13, h⟩ := chk_some h
      refine gg_X5_58 (pc' := 75) (o := 9 + x5.toNatClampNeg) C h13 dX5_tellPaces_72 rfl ?_
      refine g_aload_n (pc' := 76) C dX5_tellPaces_75 0 rfl rfl ?_
      refine gg_X5_20 (pc' := 79) (o := 74) (r := 84) C rfl rfl dX5_tellPaces_76 rfl ?_
      refine g_iload (pc' := 81) C dX5_tellPaces_79 5 rfl rfl ?_
      obtain ⟨h14, h⟩ := chk_some h
      refine g_iald (pc' := 82) C (o := 84) (by decide) rfl (inb_d h14) dX5_tellPaces_81 rfl ?_
      obtain ⟨q15, h16, h⟩ := bind_some h
      refine g_callNi (pc' := 85) (res := q15) C [.int (rF s10 (9 + x5.toNatClampNeg) 1), .int (rA s10 84 x5)] cY_X10_secondsFor mv_X10_secondsFor mn_X5_61 ⟨Nat.le_trans (by decide) hR.1, Nat.le_trans (by decide) hR.2⟩ rfl (Nat.le_of_ble_eq_true rfl) rfl dX5_tellPaces_82 (c_X10_secondsFor l base D cA s10 (rF s10 (9 + x5.toNatClampNeg) 1) (rA s10 84 x5) q15 h16) rfl ?_
      refine g_aload_n (pc' := 86) C dX5_tellPaces_85 2 rfl rfl ?_
      obtain ⟨q17, h18, h⟩ := bind_some h
      obtain ⟨h19, h⟩ := chk_some h
      refine g_callVi (pc' := 89) (res := q17) C [] cY_X6_span rfl (o := x2) (kC_lt h19 (by decide)) (sfC_6 h19) mv_X6_span mm_X5_65 ⟨Nat.le_trans (by decide) hR.1, Nat.le_trans (by decide) hR.2⟩ rfl (Nat.le_of_ble_eq_true rfl) rfl dX5_tellPaces_86 (c_X6_span l base D cA q15.1 x2 q17 h18) rfl ?_
      refine g_aload_n (pc' := 90) C dX5_tellPaces_89 0 rfl rfl ?_
      refine gg_X5_20 (pc' := 93) (o := 74) (r := 84) C rfl rfl dX5_tellPaces_90 rfl ?_
      refine g_iload (pc' := 95) C dX5_tellPaces_93 5 rfl rfl ?_
      obtain ⟨h20, h⟩ := chk_some h
      refine g_iald (pc' := 96) C (o := 84) (by decide) rfl (inb_d h20) dX5_tellPaces_95 rfl ?_
      obtain ⟨q21, h22, h⟩ := bind_some h
      refine g_callNi (pc' := 99) (res := q21) C [.int q17.2, .int (rA q17.1 84 x5)] cY_X10_secondsFor mv_X10_secondsFor mn_X5_61 ⟨Nat.le_trans (by decide) hR.1, Nat.le_trans (by decide) hR.2⟩ rfl (Nat.le_of_ble_eq_true rfl) rfl dX5_tellPaces_96 (c_X10_secondsFor l base D cA q17.1 q17.2 (rA q17.1 84 x5) q21 h22) rfl ?_
      refine g_iadd (pc' := 100) C dX5_tellPaces_99 rfl ?_
      refine g_iadd (pc' := 101) C dX5_tellPaces_100 rfl ?_
      obtain ⟨v23, e24, h⟩ := let_some h
      refine g_nameI e24 ?_
      refine g_istore (pc' := 103) (lv' := [(4, .int v23), (0, .ref (base + 74)), (1, .ref (base + 1)), (2, .ref (base + x2)), (3, .int x3), (5, .int x5)]) C dX5_tellPaces_101 (by decide) rfl rfl ?_
      obtain ⟨v25, e26, h⟩ := let_some h
      refine g_iinc (pc' := 106) (v := v25) (lv' := [(5, .int v25), (4, .int v23), (0, .ref (base + 74)), (1, .ref (base + 1)), (2, .ref (base + x2)), (3, .int x3)]) C dX5_tellPaces_103 5 rfl (by rw [e26]; rfl) (by decide) rfl rfl ?_
      refine g_goto (tgt := 9) C dX5_tellPaces_106 (by decide) ?_
      exact g_sub C [2, 3, 4, 5, 1, 0] rfl (ih _ _ _ _ _ h)
noncomputable def f_X5_tellPaces_74_1 (σ : cr_S) (o2 : Nat) (a3 : Int32) : Option (cr_S) :=
  cr_let (rF σ 74 3) (fun v1 => f_X5_tellPaces_74_1_L9 cr_fuel σ o2 a3 v1 0)
set_option maxRecDepth 100000 in
set_option maxHeartbeats 4000000 in
theorem w_X5_tellPaces_74_1 (C : cr_C p l e R s m args below meth c sfC 97 base D cA cX5_tellPaces 6 RX5) (hr : meth.sig.returnType = none) (hR : 4 ≤ R.frames ∧ 89 ≤ R.locals) {res : cr_S} (σ : cr_S) (o2 : Nat) (a3 : Int32) (h : f_X5_tellPaces_74_1 σ o2 a3 = some res) : cr_W p l e R s m args below meth c sfC 97 base D cA 6 (MQ below (cr_Qv sfC 97 base D cA res) args s 0 0 (cr_A 97 base)) σ 0 [(0, .ref (base + 74)), (1, .ref (base + 1)), (2, .ref (base + o2)), (3, .int a3)] [] := by
  unfold f_X5_tellPaces_74_1 at h
  refine g_aload_n (pc' := 1) C dX5_tellPaces_0 0 rfl rfl ?_
  refine gg_X5_45 (pc' := 4) (o := 74) C rfl dX5_tellPaces_1 rfl ?_
  obtain ⟨v1, e2, h⟩ := let_some h
  refine g_nameI e2 ?_
  refine g_istore (pc' := 6) (lv' := [(4, .int v1), (0, .ref (base + 74)), (1, .ref (base + 1)), (2, .ref (base + o2)), (3, .int a3)]) C dX5_tellPaces_4 (by decide) rfl rfl ?_
  refine g_iconst (pc' := 7) (v := 0) C dX5_tellPaces_6 (by decide) rfl ?_
  refine g_istore (pc' := 9) (lv' := [(5, .int 0), (4, .int v1), (0, .ref (base + 74)), (1, .ref (base + 1)), (2, .ref (base + o2)), (3, .int a3)]) C dX5_tellPaces_7 (by decide) rfl rfl ?_
  exact g_sub C [2, 3, 4, 5, 1, 0] rfl (w_X5_tellPaces_74_1_L9 C hr hR _ _ _ _ _ _ h)
theorem c_X5_tellPaces_74_1 (l : Launch) (base : Nat) (D : va_G) (cA : Nat → ClassId) (σ : cr_S) (o2 : Nat) (a3 : Int32) (res : cr_S) (h : f_X5_tellPaces_74_1 σ o2 a3 = some res) : cr_M l yX5_tellPaces cX5_tellPaces 6 none 4 89 sfC 97 base D cA [.ref (base + 74), .ref (base + 1), .ref (base + o2), .int a3] σ (cr_Qv sfC 97 base D cA res) := by
  refine cr_enter [.ref (base + 74), .ref (base + 1), .ref (base + o2), .int a3] [(0, .ref (base + 74)), (1, .ref (base + 1)), (2, .ref (base + o2)), (3, .int a3)] (by decide) (Nat.le_of_ble_eq_true rfl) rfl ?_
  intro p e R s m below meth c C hr hR
  exact w_X5_tellPaces_74_1 C hr hR σ o2 a3 h
noncomputable def f_X5_soonestEnd_74_B56 (r10 : cr_S → Nat → Nat → Int32 → Int32 → Int32 → Int32 → Option (cr_S × Int32)) (σ : cr_S) (x1 : Nat) (x2 : Nat) (x3 : Int32) (x4 : Int32) (x5 : Int32) (x6 : Int32) : Option (cr_S × Int32) :=
  cr_let (x6 + 1) (fun v13 => r10 σ x1 x2 x3 x4 x5 v13)
set_option maxRecDepth 100000 in
set_option maxHeartbeats 4000000 in
theorem w_X5_soonestEnd_74_B56 (C : cr_C p l e R s m args below meth c sfC 97 base D cA cX5_soonestEnd 8 RX5) (hr : meth.sig.returnType = some .int) (hR : 2 ≤ R.frames ∧ 47 ≤ R.locals) {res : cr_S × Int32} (r10 : cr_S → Nat → Nat → Int32 → Int32 → Int32 → Int32 → Option (cr_S × Int32)) (hr10 : ∀ (σ : cr_S) (x1 : Nat) (x2 : Nat) (x3 : Int32) (x4 : Int32) (x5 : Int32) (x6 : Int32), r10 σ x1 x2 x3 x4 x5 x6 = some res → cr_W p l e R s m args below meth c sfC 97 base D cA 8 (MQ below (cr_Qi sfC 97 base D cA res) args s 0 0 (cr_A 97 base)) σ 10 [(0, .ref (base + 74)), (1, .ref (base + x1)), (2, .ref (base + x2)), (3, .int x3), (4, .int x4), (5, .int x5), (6, .int x6)] []) (σ : cr_S) (x1 : Nat) (x2 : Nat) (x3 : Int32) (x4 : Int32) (x5 : Int32) (x6 : Int32) (h : f_X5_soonestEnd_74_B56 r10 σ x1 x2 x3 x4 x5 x6 = some res) : cr_W p l e R s m args below meth c sfC 97 base D cA 8 (MQ below (cr_Qi sfC 97 base D cA res) args s 0 0 (cr_A 97 base)) σ 56 [(0, .ref (base + 74)), (1, .ref (base + x1)), (2, .ref (base + x2)), (3, .int x3), (4, .int x4), (5, .int x5), (6, .int x6)] [] := by
  unfold f_X5_soonestEnd_74_B56 at h
  obtain ⟨v13, e14, h⟩ := let_some h
  refine g_iinc (pc' := 59) (v := v13) (lv' := [(6, .int v13), (0, .ref (base + 74)), (1, .ref (base + x1)), (2, .ref (base + x2)), (3, .int x3), (4, .int x4), (5, .int x5)]) C dX5_soonestEnd_56 6 rfl (by rw [e14]; rfl) (by decide) rfl rfl ?_
  refine g_goto (tgt := 10) C dX5_soonestEnd_59 (by decide) ?_
  exact g_sub C [1, 2, 3, 4, 5, 6, 0] rfl (hr10 _ _ _ _ _ _ _ h)
noncomputable def f_X5_soonestEnd_74_L10  : Nat → cr_S → Nat → Nat → Int32 → Int32 → Int32 → Int32 → Option (cr_S × Int32)
  | 0, _, _, _, _, _, _, _ => none
  | n + 1, σ, x1, x2, x3, x4, x5, x6 =>
    Option.bind (f_X6_high σ x2) (fun q6 => chk (kC x2 = 6) ((if q6.2 < x6 then some (q6.1, x5) else Option.bind (f_X5_behindBy_74 q6.1 x1 x2 x4 x6) (fun q9 => cr_let q9.2 (fun v11 => (if v11 = 1000000 then f_X5_soonestEnd_74_B56 (f_X5_soonestEnd_74_L10 n) q9.1 x1 x2 x3 x4 x5 x6 else chk (inb (x3 + 1) 7) (chk (kC (76 + (x3 + 1).toNatClampNeg) = 1346) (chk (inb v11 346) (cr_let (if (rA q9.1 (76 + (x3 + 1).toNatClampNeg) v11) < x5 then rA q9.1 (76 + (x3 + 1).toNatClampNeg) v11 else x5) (fun v18 => f_X5_soonestEnd_74_B56 (f_X5_soonestEnd_74_L10 n) q9.1 x1 x2 x3 x4 v18 x6))))))))))
set_option maxRecDepth 100000 in
set_option maxHeartbeats 4000000 in
theorem w_X5_soonestEnd_74_L10 (C : cr_C p l e R s m args below meth c sfC 97 base D cA cX5_soonestEnd 8 RX5) (hr : meth.sig.returnType = some .int) (hR : 2 ≤ R.frames ∧ 47 ≤ R.locals) {res : cr_S × Int32}  : ∀ (n : Nat) (σ : cr_S) (x1 : Nat) (x2 : Nat) (x3 : Int32) (x4 : Int32) (x5 : Int32) (x6 : Int32), f_X5_soonestEnd_74_L10 n σ x1 x2 x3 x4 x5 x6 = some res → cr_W p l e R s m args below meth c sfC 97 base D cA 8 (MQ below (cr_Qi sfC 97 base D cA res) args s 0 0 (cr_A 97 base)) σ 10 [(0, .ref (base + 74)), (1, .ref (base + x1)), (2, .ref (base + x2)), (3, .int x3), (4, .int x4), (5, .int x5), (6, .int x6)] [] := by
  intro n
  induction n with
  | zero =>
    intro σ x1 x2 x3 x4 x5 x6 h
    cases h
  | succ n ih =>
    intro σ x1 x2 x3 x4 x5 x6 h
    rw [f_X5_soonestEnd_74_L10] at h
    refine g_iload (pc' := 12) C dX5_soonestEnd_10 6 rfl rfl ?_
    refine g_aload_n (pc' := 13) C dX5_soonestEnd_12 2 rfl rfl ?_
    obtain ⟨q6, h7, h⟩ := bind_some h
    obtain ⟨h8, h⟩ := chk_some h
    refine g_callVi (pc' := 16) (res := q6) C [] cY_X6_high rfl (o := x2) (kC_lt h8 (by decide)) (sfC_6 h8) mv_X6_high mm_X5_74 ⟨Nat.le_trans (by decide) hR.1, Nat.le_trans (by decide) hR.2⟩ rfl (Nat.le_of_ble_eq_true rfl) rfl dX5_soonestEnd_13 (c_X6_high l base D cA σ x2 q6 h7) rfl ?_
    refine g_icmp_gt (pc' := 19) (tgt := 62) C dX5_soonestEnd_16 (by decide) rfl (fun hc => ?_) (fun hc => ?_)
    · rw [if_pos hc] at h
      refine g_iload (pc' := 64) C dX5_soonestEnd_62 5 rfl rfl ?_
      exact g_iret C hr dX5_soonestEnd_64 h
    · rw [if_neg hc] at h
      refine g_aload_n (pc' := 20) C dX5_soonestEnd_19 0 rfl rfl ?_
      refine g_aload_n (pc' := 21) C dX5_soonestEnd_20 1 rfl rfl ?_
      refine g_aload_n (pc' := 22) C dX5_soonestEnd_21 2 rfl rfl ?_
      refine g_iload (pc' := 24) C dX5_soonestEnd_22 4 rfl rfl ?_
      refine g_iload (pc' := 26) C dX5_soonestEnd_24 6 rfl rfl ?_
      obtain ⟨q9, h10, h⟩ := bind_some h
      refine g_callVi (pc' := 29) (res := q9) C [.ref (base + x1), .ref (base + x2), .int x4, .int x6] cY_X5_behindBy rfl (o := 74) (by decide) rfl mv_X5_behindBy mm_X5_77 ⟨Nat.le_trans (by decide) hR.1, Nat.le_trans (by decide) hR.2⟩ rfl (Nat.le_of_ble_eq_true rfl) rfl dX5_soonestEnd_26 (c_X5_behindBy_74 l base D cA q6.1 x1 x2 x4 x6 q9 h10) rfl ?_
      obtain ⟨v11, e12, h⟩ := let_some h
      refine g_nameI e12 ?_
      refine g_istore (pc' := 31) (lv' := [(7, .int v11), (0, .ref (base + 74)), (1, .ref (base + x1)), (2, .ref (base + x2)), (3, .int x3), (4, .int x4), (5, .int x5), (6, .int x6)]) C dX5_soonestEnd_29 (by decide) rfl rfl ?_
      refine g_iload (pc' := 33) C dX5_soonestEnd_31 0 rfl rfl ?_
      refine g_ldc (pc' := 35) (v := 1000000) C dX5_soonestEnd_33 mk_X5_41 rfl ?_
      refine g_icmp_eq (pc' := 38) (tgt := 56) C dX5_soonestEnd_35 (by decide) rfl (fun hc => ?_) (fun hc => ?_)
      · rw [if_pos hc] at h
        exact g_sub C [1, 2, 3, 4, 5, 6, 7] rfl (w_X5_soonestEnd_74_B56 C hr hR (f_X5_soonestEnd_74_L10 n) ih _ _ _ _ _ _ _ h)
      · rw [if_neg hc] at h
        refine g_iload (pc' := 40) C dX5_soonestEnd_38 6 rfl rfl ?_
        refine g_aload_n (pc' := 41) C dX5_soonestEnd_40 1 rfl rfl ?_
        refine gg_X5_11 (pc' := 44) (o := 74) (r := 75) C rfl rfl dX5_soonestEnd_41 rfl ?_
        refine g_iload_n (pc' := 45) C dX5_soonestEnd_44 4 rfl rfl ?_
        refine g_iconst (pc' := 46) (v := 1) C dX5_soonestEnd_45 (by decide) rfl ?_
        refine g_iadd (pc' := 47) C dX5_soonestEnd_46 rfl ?_
        obtain ⟨h15, h⟩ := chk_some h
        refine g_aaldA (pc' := 48) C (o := 75) (by decide) rfl (inb_d h15) dX5_soonestEnd_47 rfl ?_
        refine g_iload (pc' := 50) C dX5_soonestEnd_48 0 rfl rfl ?_
        obtain ⟨h16, h⟩ := chk_some h
        obtain ⟨h17, h⟩ := chk_some h
        refine g_iald (pc' := 51) C (o := 76 + (x3 + 1).toNatClampNeg) (kC_lt h16 (by decide)) (sfC_1346 h16) (inb_d h17) dX5_soonestEnd_50 rfl ?_
        refine g_mmin (pc' := 54) C mm_X5_80 ⟨Nat.le_trans (by decide) hR.1, Nat.le_trans (by decide) hR.2⟩ (Nat.le_of_ble_eq_true rfl) dX5_soonestEnd_51 rfl ?_
        obtain ⟨v18, e19, h⟩ := let_some h
        refine g_nameI e19 ?_
        refine g_istore (pc' := 56) (lv' := [(5, .int v18), (7, .int v11), (0, .ref (base + 74)), (1, .ref (base + x1)), (2, .ref (base + x2)), (3, .int x3), (4, .int x4), (6, .int x6)]) C dX5_soonestEnd_54 (by decide) rfl rfl ?_
        exact g_sub C [2, 3, 4, 5, 6, 0, 7] rfl (w_X5_soonestEnd_74_B56 C hr hR (f_X5_soonestEnd_74_L10 n) ih _ _ _ _ _ _ _ h)
noncomputable def f_X5_soonestEnd_74 (σ : cr_S) (o1 : Nat) (o2 : Nat) (a3 : Int32) (a4 : Int32) : Option (cr_S × Int32) :=
  Option.bind (f_X6_low σ o2) (fun q1 => chk (kC o2 = 6) (cr_let q1.2 (fun v4 => f_X5_soonestEnd_74_L10 cr_fuel q1.1 o1 o2 a3 a4 1000000 v4)))
set_option maxRecDepth 100000 in
set_option maxHeartbeats 4000000 in
theorem w_X5_soonestEnd_74 (C : cr_C p l e R s m args below meth c sfC 97 base D cA cX5_soonestEnd 8 RX5) (hr : meth.sig.returnType = some .int) (hR : 2 ≤ R.frames ∧ 47 ≤ R.locals) {res : cr_S × Int32} (σ : cr_S) (o1 : Nat) (o2 : Nat) (a3 : Int32) (a4 : Int32) (h : f_X5_soonestEnd_74 σ o1 o2 a3 a4 = some res) : cr_W p l e R s m args below meth c sfC 97 base D cA 8 (MQ below (cr_Qi sfC 97 base D cA res) args s 0 0 (cr_A 97 base)) σ 0 [(0, .ref (base + 74)), (1, .ref (base + o1)), (2, .ref (base + o2)), (3, .int a3), (4, .int a4)] [] := by
  unfold f_X5_soonestEnd_74 at h
  refine g_ldc (pc' := 2) (v := 1000000) C dX5_soonestEnd_0 mk_X5_41 rfl ?_
  refine g_istore (pc' := 4) (lv' := [(5, .int 1000000), (0, .ref (base + 74)), (1, .ref (base + o1)), (2, .ref (base + o2)), (3, .int a3), (4, .int a4)]) C dX5_soonestEnd_2 (by decide) rfl rfl ?_
  refine g_aload_n (pc' := 5) C dX5_soonestEnd_4 3 rfl rfl ?_
  obtain ⟨q1, h2, h⟩ := bind_some h
  obtain ⟨h3, h⟩ := chk_some h
  refine g_callVi (pc' := 8) (res := q1) C [] cY_X6_low rfl (o := o2) (kC_lt h3 (by decide)) (sfC_6 h3) mv_X6_low mm_X5_71 ⟨Nat.le_trans (by decide) hR.1, Nat.le_trans (by decide) hR.2⟩ rfl (Nat.le_of_ble_eq_true rfl) rfl dX5_soonestEnd_5 (c_X6_low l base D cA σ o2 q1 h2) rfl ?_
  obtain ⟨v4, e5, h⟩ := let_some h
  refine g_nameI e5 ?_
  refine g_istore (pc' := 10) (lv' := [(6, .int v4), (5, .int 1000000), (0, .ref (base + 74)), (1, .ref (base + o1)), (2, .ref (base + o2)), (3, .int a3), (4, .int a4)]) C dX5_soonestEnd_8 (by decide) rfl rfl ?_
  exact g_sub C [2, 3, 4, 5, 6, 1, 0] rfl (w_X5_soonestEnd_74_L10 C hr hR _ _ _ _ _ _ _ _ h)
theorem c_X5_soonestEnd_74 (l : Launch) (base : Nat) (D : va_G) (cA : Nat → ClassId) (σ : cr_S) (o1 : Nat) (o2 : Nat) (a3 : Int32) (a4 : Int32) (res : cr_S × Int32) (h : f_X5_soonestEnd_74 σ o1 o2 a3 a4 = some res) : cr_M l yX5_soonestEnd cX5_soonestEnd 8 (some .int) 2 47 sfC 97 base D cA [.ref (base + 74), .ref (base + o1), .ref (base + o2), .int a3, .int a4] σ (cr_Qi sfC 97 base D cA res) := by
  refine cr_enter [.ref (base + 74), .ref (base + o1), .ref (base + o2), .int a3, .int a4] [(0, .ref (base + 74)), (1, .ref (base + o1)), (2, .ref (base + o2)), (3, .int a3), (4, .int a4)] (by decide) (Nat.le_of_ble_eq_true rfl) rfl ?_
  intro p e R s m below meth c C hr hR
  exact w_X5_soonestEnd_74 C hr hR σ o1 o2 a3 a4 h
noncomputable def f_X5_findSoonest_74_1_B192  (σ : cr_S) (x2 : Nat) (x3 : Int32) : Option (cr_S) :=
  (if (rF σ 74 4) = 1000000 then some σ else Option.bind (f_X5_tellPaces_74_1 σ x2 x3) (fun q7 => some q7))
set_option maxRecDepth 100000 in
set_option maxHeartbeats 4000000 in
theorem w_X5_findSoonest_74_1_B192 (C : cr_C p l e R s m args below meth c sfC 97 base D cA cX5_findSoonest 8 RX5) (hr : meth.sig.returnType = none) (hR : 5 ≤ R.frames ∧ 114 ≤ R.locals) {res : cr_S}  (σ : cr_S) (x2 : Nat) (x3 : Int32) (h : f_X5_findSoonest_74_1_B192 σ x2 x3 = some res) : cr_W p l e R s m args below meth c sfC 97 base D cA 8 (MQ below (cr_Qv sfC 97 base D cA res) args s 0 0 (cr_A 97 base)) σ 192 [(0, .ref (base + 74)), (1, .ref (base + 1)), (2, .ref (base + x2)), (3, .int x3)] [] := by
  unfold f_X5_findSoonest_74_1_B192 at h
  refine g_aload_n (pc' := 193) C dX5_findSoonest_192 0 rfl rfl ?_
  refine gg_X5_42 (pc' := 196) (o := 74) C rfl dX5_findSoonest_193 rfl ?_
  refine g_ldc (pc' := 198) (v := 1000000) C dX5_findSoonest_196 mk_X5_41 rfl ?_
  refine g_icmp_eq (pc' := 201) (tgt := 208) C dX5_findSoonest_198 (by decide) rfl (fun hc => ?_) (fun hc => ?_)
  · rw [if_pos hc] at h
    exact g_vret C hr dX5_findSoonest_208 h
  · rw [if_neg hc] at h
    refine g_aload_n (pc' := 202) C dX5_findSoonest_201 0 rfl rfl ?_
    refine g_aload_n (pc' := 203) C dX5_findSoonest_202 1 rfl rfl ?_
    refine g_aload_n (pc' := 204) C dX5_findSoonest_203 2 rfl rfl ?_
    refine g_iload_n (pc' := 205) C dX5_findSoonest_204 3 rfl rfl ?_
    obtain ⟨q7, h8, h⟩ := bind_some h
    refine g_callVv (pc' := 208) (res := q7) C [.ref (base + 1), .ref (base + x2), .int x3] cY_X5_tellPaces rfl (o := 74) (by decide) rfl mv_X5_tellPaces mm_X5_48 ⟨Nat.le_trans (by decide) hR.1, Nat.le_trans (by decide) hR.2⟩ rfl (Nat.le_of_ble_eq_true rfl) rfl dX5_findSoonest_205 (c_X5_tellPaces_74_1 l base D cA σ x2 x3 q7 h8) rfl ?_
    exact g_vret C hr dX5_findSoonest_208 h
noncomputable def f_X5_findSoonest_74_1_B186 (r130 : cr_S → Nat → Int32 → Int32 → Option (cr_S)) (σ : cr_S) (x2 : Nat) (x3 : Int32) (x5 : Int32) : Option (cr_S) :=
  cr_let (x5 + 1) (fun v10 => r130 σ x2 x3 v10)
set_option maxRecDepth 100000 in
set_option maxHeartbeats 4000000 in
theorem w_X5_findSoonest_74_1_B186 (C : cr_C p l e R s m args below meth c sfC 97 base D cA cX5_findSoonest 8 RX5) (hr : meth.sig.returnType = none) (hR : 5 ≤ R.frames ∧ 114 ≤ R.locals) {res : cr_S} (r130 : cr_S → Nat → Int32 → Int32 → Option (cr_S)) (hr130 : ∀ (σ : cr_S) (x2 : Nat) (x3 : Int32) (x5 : Int32), r130 σ x2 x3 x5 = some res → cr_W p l e R s m args below meth c sfC 97 base D cA 8 (MQ below (cr_Qv sfC 97 base D cA res) args s 0 0 (cr_A 97 base)) σ 130 [(0, .ref (base + 74)), (1, .ref (base + 1)), (2, .ref (base + x2)), (3, .int x3), (5, .int x5)] []) (σ : cr_S) (x2 : Nat) (x3 : Int32) (x5 : Int32) (h : f_X5_findSoonest_74_1_B186 r130 σ x2 x3 x5 = some res) : cr_W p l e R s m args below meth c sfC 97 base D cA 8 (MQ below (cr_Qv sfC 97 base D cA res) args s 0 0 (cr_A 97 base)) σ 186 [(0, .ref (base + 74)), (1, .ref (base + 1)), (2, .ref (base + x2)), (3, .int x3), (5, .int x5)] [] := by
  unfold f_X5_findSoonest_74_1_B186 at h
  obtain ⟨v10, e11, h⟩ := let_some h
  refine g_iinc (pc' := 189) (v := v10) (lv' := [(5, .int v10), (0, .ref (base + 74)), (1, .ref (base + 1)), (2, .ref (base + x2)), (3, .int x3)]) C dX5_findSoonest_186 4 rfl (by rw [e11]; rfl) (by decide) rfl rfl ?_
  refine g_goto (tgt := 130) C dX5_findSoonest_189 (by decide) ?_
  exact g_sub C [1, 2, 3, 4, 0] rfl (hr130 _ _ _ _ h)
noncomputable def f_X5_findSoonest_74_1_L130  : Nat → cr_S → Nat → Int32 → Int32 → Option (cr_S)
  | 0, _, _, _, _ => none
  | n + 1, σ, x2, x3, x5 =>
    (if 100 ≤ x5 then f_X5_findSoonest_74_1_B192 σ x2 x3 else chk (inb x5 346) ((if (rF σ 74 4) < (rA σ 76 x5) then f_X5_findSoonest_74_1_B186 (f_X5_findSoonest_74_1_L130 n) σ x2 x3 x5 else chk (inb x5 346) ((if (rA σ 76 x5) = 1000000 then f_X5_findSoonest_74_1_B186 (f_X5_findSoonest_74_1_L130 n) σ x2 x3 x5 else chk (inb x5 346) (cr_let (sF σ 74 4 (rA σ 76 x5)) (fun s14 => cr_let (sF s14 74 3 x5) (fun s16 => f_X5_findSoonest_74_1_B186 (f_X5_findSoonest_74_1_L130 n) s16 x2 x3 x5))))))))
set_option maxRecDepth 100000 in
set_option maxHeartbeats 4000000 in
theorem w_X5_findSoonest_74_1_L130 (C : cr_C p l e R s m args below meth c sfC 97 base D cA cX5_findSoonest 8 RX5) (hr : meth.sig.returnType = none) (hR : 5 ≤ R.frames ∧ 114 ≤ R.locals) {res : cr_S}  : ∀ (n : Nat) (σ : cr_S) (x2 : Nat) (x3 : Int32) (x5 : Int32), f_X5_findSoonest_74_1_L130 n σ x2 x3 x5 = some res → cr_W p l e R s m args below meth c sfC 97 base D cA 8 (MQ below (cr_Qv sfC 97 base D cA res) args s 0 0 (cr_A 97 base)) σ 130 [(0, .ref (base + 74)), (1, .ref (base + 1)), (2, .ref (base + x2)), (3, .int x3), (5, .int x5)] [] := by
  intro n
  induction n with
  | zero =>
    intro σ x2 x3 x5 h
    cases h
  | succ n ih =>
    intro σ x2 x3 x5 h
    rw [f_X5_findSoonest_74_1_L130] at h
    refine g_iload (pc' := 132) C dX5_findSoonest_130 4 rfl rfl ?_
    refine g_bipush (pc' := 134) (v := 100) C dX5_findSoonest_132 (by decide) rfl ?_
    refine g_icmp_ge (pc' := 137) (tgt := 192) C dX5_findSoonest_134 (by decide) rfl (fun hc => ?_) (fun hc => ?_)
    · rw [if_pos hc] at h
      exact g_sub C [0, 1, 2, 3] rfl (w_X5_findSoonest_74_1_B192 C hr hR _ _ _ h)
    · rw [if_neg hc] at h
      refine g_aload_n (pc' := 138) C dX5_findSoonest_137 0 rfl rfl ?_
      refine gg_X5_11 (pc' := 141) (o := 74) (r := 75) C rfl rfl dX5_findSoonest_138 rfl ?_
      refine g_iconst (pc' := 142) (v := 0) C dX5_findSoonest_141 (by decide) rfl ?_
      refine g_aaldA (pc' := 143) C (o := 75) (by decide) rfl (inb_d (by decide)) dX5_findSoonest_142 rfl ?_
      refine g_iload (pc' := 145) C dX5_findSoonest_143 4 rfl rfl ?_
      obtain ⟨h9, h⟩ := chk_some h
      refine g_iald (pc' := 146) C (o := 76) (by decide) rfl (inb_d h9) dX5_findSoonest_145 rfl ?_
      refine g_aload_n (pc' := 147) C dX5_findSoonest_146 0 rfl rfl ?_
      refine gg_X5_42 (pc' := 150) (o := 74) C rfl dX5_findSoonest_147 rfl ?_
      refine g_icmp_gt (pc' := 153) (tgt := 186) C dX5_findSoonest_150 (by decide) rfl (fun hc => ?_) (fun hc => ?_)
      · rw [if_pos hc] at h
        exact g_sub C [0, 1, 2, 3, 4] rfl (w_X5_findSoonest_74_1_B186 C hr hR (f_X5_findSoonest_74_1_L130 n) ih _ _ _ _ h)
      · rw [if_neg hc] at h
        refine g_aload_n (pc' := 154) C dX5_findSoonest_153 0 rfl rfl ?_
        refine gg_X5_11 (pc' := 157) (o := 74) (r := 75) C rfl rfl dX5_findSoonest_154 rfl ?_
        refine g_iconst (pc' := 158) (v := 0) C dX5_findSoonest_157 (by decide) rfl ?_
        refine g_aaldA (pc' := 159) C (o := 75) (by decide) rfl (inb_d (by decide)) dX5_findSoonest_158 rfl ?_
        refine g_iload (pc' := 161) C dX5_findSoonest_159 4 rfl rfl ?_
        obtain ⟨h12, h⟩ := chk_some h
        refine g_iald (pc' := 162) C (o := 76) (by decide) rfl (inb_d h12) dX5_findSoonest_161 rfl ?_
        refine g_ldc (pc' := 164) (v := 1000000) C dX5_findSoonest_162 mk_X5_41 rfl ?_
        refine g_icmp_eq (pc' := 167) (tgt := 186) C dX5_findSoonest_164 (by decide) rfl (fun hc => ?_) (fun hc => ?_)
        · rw [if_pos hc] at h
          exact g_sub C [0, 1, 2, 3, 4] rfl (w_X5_findSoonest_74_1_B186 C hr hR (f_X5_findSoonest_74_1_L130 n) ih _ _ _ _ h)
        · rw [if_neg hc] at h
          refine g_aload_n (pc' := 168) C dX5_findSoonest_167 0 rfl rfl ?_
          refine g_aload_n (pc' := 169) C dX5_findSoonest_168 0 rfl rfl ?_
          refine gg_X5_11 (pc' := 172) (o := 74) (r := 75) C rfl rfl dX5_findSoonest_169 rfl ?_
          refine g_iconst (pc' := 173) (v := 0) C dX5_findSoonest_172 (by decide) rfl ?_
          refine g_aaldA (pc' := 174) C (o := 75) (by decide) rfl (inb_d (by decide)) dX5_findSoonest_173 rfl ?_
          refine g_iload (pc' := 176) C dX5_findSoonest_174 4 rfl rfl ?_
          obtain ⟨h13, h⟩ := chk_some h
          refine g_iald (pc' := 177) C (o := 76) (by decide) rfl (inb_d h13) dX5_findSoonest_176 rfl ?_
          obtain ⟨s14, e15, h⟩ := let_some h
          refine gp_X5_42 (pc' := 180) (o := 74) C rfl dX5_findSoonest_177 rfl e15 ?_
          refine g_aload_n (pc' := 181) C dX5_findSoonest_180 0 rfl rfl ?_
          refine g_iload (pc' := 183) C dX5_findSoonest_181 4 rfl rfl ?_
          obtain ⟨s16, e17, h⟩ := let_some h
          refine gp_X5_45 (pc' := 186) (o := 74) C rfl dX5_findSoonest_183 rfl e17 ?_
          exact g_sub C [0, 1, 2, 3, 4] rfl (w_X5_findSoonest_74_1_B186 C hr hR (f_X5_findSoonest_74_1_L130 n) ih _ _ _ _ h)
noncomputable def f_X5_findSoonest_74_1_B121  (σ : cr_S) (x2 : Nat) (x3 : Int32) : Option (cr_S) :=
  cr_let (sF σ 74 4 1000000) (fun s5 => f_X5_findSoonest_74_1_L130 cr_fuel s5 x2 x3 0)
set_option maxRecDepth 100000 in
set_option maxHeartbeats 4000000 in
theorem w_X5_findSoonest_74_1_B121 (C : cr_C p l e R s m args below meth c sfC 97 base D cA cX5_findSoonest 8 RX5) (hr : meth.sig.returnType = none) (hR : 5 ≤ R.frames ∧ 114 ≤ R.locals) {res : cr_S}  (σ : cr_S) (x2 : Nat) (x3 : Int32) (h : f_X5_findSoonest_74_1_B121 σ x2 x3 = some res) : cr_W p l e R s m args below meth c sfC 97 base D cA 8 (MQ below (cr_Qv sfC 97 base D cA res) args s 0 0 (cr_A 97 base)) σ 121 [(0, .ref (base + 74)), (1, .ref (base + 1)), (2, .ref (base + x2)), (3, .int x3)] [] := by
  unfold f_X5_findSoonest_74_1_B121 at h
  refine g_aload_n (pc' := 122) C dX5_findSoonest_121 0 rfl rfl ?_
  refine g_ldc (pc' := 124) (v := 1000000) C dX5_findSoonest_122 mk_X5_41 rfl ?_
  obtain ⟨s5, e6, h⟩ := let_some h
  refine gp_X5_42 (pc' := 127) (o := 74) C rfl dX5_findSoonest_124 rfl e6 ?_
  refine g_iconst (pc' := 128) (v := 0) C dX5_findSoonest_127 (by decide) rfl ?_
  refine g_istore (pc' := 130) (lv' := [(5, .int 0), (0, .ref (base + 74)), (1, .ref (base + 1)), (2, .ref (base + x2)), (3, .int x3)]) C dX5_findSoonest_128 (by decide) rfl rfl ?_
  exact g_sub C [1, 2, 3, 4, 0] rfl (w_X5_findSoonest_74_1_L130 C hr hR _ _ _ _ _ h)
noncomputable def f_X5_findSoonest_74_1_B115 (r41 : cr_S → Nat → Int32 → Int32 → Option (cr_S)) (σ : cr_S) (x2 : Nat) (x3 : Int32) (x5 : Int32) : Option (cr_S) :=
  cr_let (x5 + (-1)) (fun v23 => r41 σ x2 x3 v23)
set_option maxRecDepth 100000 in
set_option maxHeartbeats 4000000 in
theorem w_X5_findSoonest_74_1_B115 (C : cr_C p l e R s m args below meth c sfC 97 base D cA cX5_findSoonest 8 RX5) (hr : meth.sig.returnType = none) (hR : 5 ≤ R.frames ∧ 114 ≤ R.locals) {res : cr_S} (r41 : cr_S → Nat → Int32 → Int32 → Option (cr_S)) (hr41 : ∀ (σ : cr_S) (x2 : Nat) (x3 : Int32) (x5 : Int32), r41 σ x2 x3 x5 = some res → cr_W p l e R s m args below meth c sfC 97 base D cA 8 (MQ below (cr_Qv sfC 97 base D cA res) args s 0 0 (cr_A 97 base)) σ 41 [(0, .ref (base + 74)), (1, .ref (base + 1)), (2, .ref (base + x2)), (3, .int x3), (5, .int x5)] []) (σ : cr_S) (x2 : Nat) (x3 : Int32) (x5 : Int32) (h : f_X5_findSoonest_74_1_B115 r41 σ x2 x3 x5 = some res) : cr_W p l e R s m args below meth c sfC 97 base D cA 8 (MQ below (cr_Qv sfC 97 base D cA res) args s 0 0 (cr_A 97 base)) σ 115 [(0, .ref (base + 74)), (1, .ref (base + 1)), (2, .ref (base + x2)), (3, .int x3), (5, .int x5)] [] := by
  unfold f_X5_findSoonest_74_1_B115 at h
  obtain ⟨v23, e24, h⟩ := let_some h
  refine g_iinc (pc' := 118) (v := v23) (lv' := [(5, .int v23), (0, .ref (base + 74)), (1, .ref (base + 1)), (2, .ref (base + x2)), (3, .int x3)]) C dX5_findSoonest_115 4 rfl (by rw [e24]; rfl) (by decide) rfl rfl ?_
  refine g_goto (tgt := 41) C dX5_findSoonest_118 (by decide) ?_
  exact g_sub C [1, 2, 3, 4, 0] rfl (hr41 _ _ _ _ h)
noncomputable def f_X5_findSoonest_74_1_L76 (r41 : cr_S → Nat → Int32 → Int32 → Option (cr_S)) : Nat → cr_S → Nat → Int32 → Int32 → Int32 → Int32 → Option (cr_S)
  | 0, _, _, _, _, _, _ => none
  | n + 1, σ, x2, x3, x5, x6, x7 =>
    (if x6 ≤ x7 then f_X5_findSoonest_74_1_B115 r41 σ x2 x3 x5 else chk (inb x5 7) (chk (inb x5 6) (Option.bind (f_X5_soonestEnd_74 σ (9 + x5.toNatClampNeg) x2 x5 x7) (fun q27 => chk (kC (76 + x5.toNatClampNeg) = 1346) (chk (inb x7 346) (cr_let (sA q27.1 (76 + x5.toNatClampNeg) x7 q27.2) (fun s31 => cr_let (x7 + 1) (fun v33 => f_X5_findSoonest_74_1_L76 r41 n s31 x2 x3 x5 x6 v33))))))))
set_option maxRecDepth 100000 in
set_option maxHeartbeats 4000000 in
theorem w_X5_findSoonest_74_1_L76 (C : cr_C p l e R s m args below meth c sfC 97 base D cA cX5_findSoonest 8 RX5) (hr : meth.sig.returnType = none) (hR : 5 ≤ R.frames ∧ 114 ≤ R.locals) {res : cr_S} (r41 : cr_S → Nat → Int32 → Int32 → Option (cr_S)) (hr41 : ∀ (σ : cr_S) (x2 : Nat) (x3 : Int32) (x5 : Int32), r41 σ x2 x3 x5 = some res → cr_W p l e R s m args below meth c sfC 97 base D cA 8 (MQ below (cr_Qv sfC 97 base D cA res) args s 0 0 (cr_A 97 base)) σ 41 [(0, .ref (base + 74)), (1, .ref (base + 1)), (2, .ref (base + x2)), (3, .int x3), (5, .int x5)] []) : ∀ (n : Nat) (σ : cr_S) (x2 : Nat) (x3 : Int32) (x5 : Int32) (x6 : Int32) (x7 : Int32), f_X5_findSoonest_74_1_L76 r41 n σ x2 x3 x5 x6 x7 = some res → cr_W p l e R s m args below meth c sfC 97 base D cA 8 (MQ below (cr_Qv sfC 97 base D cA res) args s 0 0 (cr_A 97 base)) σ 76 [(0, .ref (base + 74)), (1, .ref (base + 1)), (2, .ref (base + x2)), (3, .int x3), (5, .int x5), (6, .int x6), (7, .int x7)] [] := by
  intro n
  induction n with
  | zero =>
    intro σ x2 x3 x5 x6 x7 h
    cases h
  | succ n ih =>
    intro σ x2 x3 x5 x6 x7 h
    rw [f_X5_findSoonest_74_1_L76] at h
    refine g_iload (pc' := 78) C dX5_findSoonest_76 6 rfl rfl ?_
    refine g_iload (pc' := 80) C dX5_findSoonest_78 5 rfl rfl ?_
    refine g_icmp_ge (pc' := 83) (tgt := 115) C dX5_findSoonest_80 (by decide) rfl (fun hc => ?_) (fun hc => ?_)
    · rw [if_pos hc] at h
      exact g_sub C [0, 1, 2, 3, 4] rfl (w_X5_findSoonest_74_1_B115 C hr hR r41 hr41 _ _ _ _ h)
    · rw [if_neg hc] at h
      refine g_aload_n (pc' := 84) C dX5_findSoonest_83 0 rfl rfl ?_
      refine gg_X5_11 (pc' := 87) (o := 74) (r := 75) C rfl rfl dX5_findSoonest_84 rfl ?_
      refine g_iload (pc' := 89) C dX5_findSoonest_87 4 rfl rfl ?_
      obtain ⟨h25, h⟩ := chk_some h
      refine g_aaldA (pc' := 90) C (o := 75) (by decide) rfl (inb_d h25) dX5_findSoonest_89 rfl ?_
      refine g_iload (pc' := 92) C dX5_findSoonest_90 6 rfl rfl ?_
      refine g_aload_n (pc' := 93) C dX5_findSoonest_92 0 rfl rfl ?_
      refine g_aload_n (pc' := 94) C dX5_findSoonest_93 1 rfl rfl ?_
      refine gg_X5_29 (pc' := 97) (o := 1) (r := 2) C rfl rfl dX5_findSoonest_94 rfl ?_
      refine g_iload (pc' := 99) C dX5_findSoonest_97 4 rfl rfl ?_
      obtain ⟨h26, h⟩ := chk_some h
      refine g_aald (pc' := 100) C (o := 2) (by decide) rfl (cn := "ClashRocks$Pair") rfl (inb_d h26) dX5_findSoonest_99 rfl ?_
      refine g_aload_n (pc' := 101) C dX5_findSoonest_100 2 rfl rfl ?_
      refine g_iload (pc' := 103) C dX5_findSoonest_101 4 rfl rfl ?_
      refine g_iload (pc' := 105) C dX5_findSoonest_103 6 rfl rfl ?_
      obtain ⟨q27, h28, h⟩ := bind_some h
      refine g_callVi (pc' := 108) (res := q27) C [.ref (base + (9 + x5.toNatClampNeg)), .ref (base + x2), .int x5, .int x7] cY_X5_soonestEnd rfl (o := 74) (by decide) rfl mv_X5_soonestEnd mm_X5_37 ⟨Nat.le_trans (by decide) hR.1, Nat.le_trans (by decide) hR.2⟩ rfl (Nat.le_of_ble_eq_true rfl) rfl dX5_findSoonest_105 (c_X5_soonestEnd_74 l base D cA σ (9 + x5.toNatClampNeg) x2 x5 x7 q27 h28) rfl ?_
      obtain ⟨h29, h⟩ := chk_some h
      obtain ⟨h30, h⟩ := chk_some h
      obtain ⟨s31, e32, h⟩ := let_some h
      refine g_iast (pc' := 109) C (o := 76 + x5.toNatClampNeg) (kC_lt h29 (by decide)) (sfC_1346 h29) (inb_d h30) dX5_findSoonest_108 rfl e32 ?_
      obtain ⟨v33, e34, h⟩ := let_some h
      refine g_iinc (pc' := 112) (v := v33) (lv' := [(7, .int v33), (0, .ref (base + 74)), (1, .ref (base + 1)), (2, .ref (base + x2)), (3, .int x3), (5, .int x5), (6, .int x6)]) C dX5_findSoonest_109 6 rfl (by rw [e34]; rfl) (by decide) rfl rfl ?_
      refine g_goto (tgt := 76) C dX5_findSoonest_112 (by decide) ?_
      exact g_sub C [1, 2, 3, 4, 5, 6, 0] rfl (ih _ _ _ _ _ _ h)
noncomputable def f_X5_findSoonest_74_1_L41  : Nat → cr_S → Nat → Int32 → Int32 → Option (cr_S)
  | 0, _, _, _, _ => none
  | n + 1, σ, x2, x3, x5 =>
    (if x5 < 0 then f_X5_findSoonest_74_1_B121 σ x2 x3 else cr_let (100 + (x5 * 41)) (fun v18 => chk (inb x5 6) (Option.bind (f_X5_measure_74 σ (9 + x5.toNatClampNeg) x3 (v18 + 41)) (fun q21 => f_X5_findSoonest_74_1_L76 (f_X5_findSoonest_74_1_L41 n) cr_fuel q21 x2 x3 x5 v18 0))))
set_option maxRecDepth 100000 in
set_option maxHeartbeats 4000000 in
theorem w_X5_findSoonest_74_1_L41 (C : cr_C p l e R s m args below meth c sfC 97 base D cA cX5_findSoonest 8 RX5) (hr : meth.sig.returnType = none) (hR : 5 ≤ R.frames ∧ 114 ≤ R.locals) {res : cr_S}  : ∀ (n : Nat) (σ : cr_S) (x2 : Nat) (x3 : Int32) (x5 : Int32), f_X5_findSoonest_74_1_L41 n σ x2 x3 x5 = some res → cr_W p l e R s m args below meth c sfC 97 base D cA 8 (MQ below (cr_Qv sfC 97 base D cA res) args s 0 0 (cr_A 97 base)) σ 41 [(0, .ref (base + 74)), (1, .ref (base + 1)), (2, .ref (base + x2)), (3, .int x3), (5, .int x5)] [] := by
  intro n
  induction n with
  | zero =>
    intro σ x2 x3 x5 h
    cases h
  | succ n ih =>
    intro σ x2 x3 x5 h
    rw [f_X5_findSoonest_74_1_L41] at h
    refine g_iload (pc' := 43) C dX5_findSoonest_41 4 rfl rfl ?_
    refine g_if_lt (pc' := 46) (tgt := 121) C dX5_findSoonest_43 (by decide) rfl (fun hc => ?_) (fun hc => ?_)
    · rw [if_pos hc] at h
      exact g_sub C [0, 1, 2, 3] rfl (w_X5_findSoonest_74_1_B121 C hr hR _ _ _ h)
    · rw [if_neg hc] at h
      refine g_bipush (pc' := 48) (v := 100) C dX5_findSoonest_46 (by decide) rfl ?_
      refine g_iload (pc' := 50) C dX5_findSoonest_48 4 rfl rfl ?_
      refine g_bipush (pc' := 52) (v := 41) C dX5_findSoonest_50 (by decide) rfl ?_
      refine g_imul (pc' := 53) C dX5_findSoonest_52 rfl ?_
      refine g_iadd (pc' := 54) C dX5_findSoonest_53 rfl ?_
      obtain ⟨v18, e19, h⟩ := let_some h
      refine g_nameI e19 ?_
      refine g_istore (pc' := 56) (lv' := [(6, .int v18), (0, .ref (base + 74)), (1, .ref (base + 1)), (2, .ref (base + x2)), (3, .int x3), (5, .int x5)]) C dX5_findSoonest_54 (by decide) rfl rfl ?_
      refine g_aload_n (pc' := 57) C dX5_findSoonest_56 1 rfl rfl ?_
      refine g_aload_n (pc' := 58) C dX5_findSoonest_57 2 rfl rfl ?_
      refine gg_X5_29 (pc' := 61) (o := 1) (r := 2) C rfl rfl dX5_findSoonest_58 rfl ?_
      refine g_iload (pc' := 63) C dX5_findSoonest_61 5 rfl rfl ?_
      obtain ⟨h20, h⟩ := chk_some h
      refine g_aald (pc' := 64) C (o := 2) (by decide) rfl (cn := "ClashRocks$Pair") rfl (inb_d h20) dX5_findSoonest_63 rfl ?_
      refine g_iload_n (pc' := 65) C dX5_findSoonest_64 4 rfl rfl ?_
      refine g_iload (pc' := 67) C dX5_findSoonest_65 0 rfl rfl ?_
      refine g_bipush (pc' := 69) (v := 41) C dX5_findSoonest_67 (by decide) rfl ?_
      refine g_iadd (pc' := 70) C dX5_findSoonest_69 rfl ?_
      obtain ⟨q21, h22, h⟩ := bind_some h
      refine g_callVv (pc' := 73) (res := q21) C [.ref (base + (9 + x5.toNatClampNeg)), .int x3, .int (v18 + 41)] cY_X5_measure rfl (o := 74) (by decide) rfl mv_X5_measure mm_X5_33 ⟨Nat.le_trans (by decide) hR.1, Nat.le_trans (by decide) hR.2⟩ rfl (Nat.le_of_ble_eq_true rfl) rfl dX5_findSoonest_70 (c_X5_measure_74 l base D cA σ (9 + x5.toNatClampNeg) x3 (v18 + 41) q21 h22) rfl ?_
      refine g_iconst (pc' := 74) (v := 0) C dX5_findSoonest_73 (by decide) rfl ?_
      refine g_istore (pc' := 76) (lv' := [(7, .int 0), (6, .int v18), (0, .ref (base + 74)), (1, .ref (base + 1)), (2, .ref (base + x2)), (3, .int x3), (5, .int x5)]) C dX5_findSoonest_74 (by decide) rfl rfl ?_
      exact g_sub C [2, 3, 4, 5, 6, 1, 0] rfl (w_X5_findSoonest_74_1_L76 C hr hR (f_X5_findSoonest_74_1_L41 n) ih _ _ _ _ _ _ _ h)
noncomputable def f_X5_findSoonest_74_1_B35  (σ : cr_S) (x2 : Nat) (x3 : Int32) (x4 : Int32) : Option (cr_S) :=
  cr_let (x4 - 1) (fun v3 => f_X5_findSoonest_74_1_L41 cr_fuel σ x2 x3 v3)
set_option maxRecDepth 100000 in
set_option maxHeartbeats 4000000 in
theorem w_X5_findSoonest_74_1_B35 (C : cr_C p l e R s m args below meth c sfC 97 base D cA cX5_findSoonest 8 RX5) (hr : meth.sig.returnType = none) (hR : 5 ≤ R.frames ∧ 114 ≤ R.locals) {res : cr_S}  (σ : cr_S) (x2 : Nat) (x3 : Int32) (x4 : Int32) (h : f_X5_findSoonest_74_1_B35 σ x2 x3 x4 = some res) : cr_W p l e R s m args below meth c sfC 97 base D cA 8 (MQ below (cr_Qv sfC 97 base D cA res) args s 0 0 (cr_A 97 base)) σ 35 [(0, .ref (base + 74)), (1, .ref (base + 1)), (2, .ref (base + x2)), (3, .int x3), (4, .int x4)] [] := by
  unfold f_X5_findSoonest_74_1_B35 at h
  refine g_iload (pc' := 37) C dX5_findSoonest_35 4 rfl rfl ?_
  refine g_iconst (pc' := 38) (v := 1) C dX5_findSoonest_37 (by decide) rfl ?_
  refine g_isub (pc' := 39) C dX5_findSoonest_38 rfl ?_
  obtain ⟨v3, e4, h⟩ := let_some h
  refine g_nameI e4 ?_
  refine g_istore (pc' := 41) (lv' := [(5, .int v3), (0, .ref (base + 74)), (1, .ref (base + 1)), (2, .ref (base + x2)), (3, .int x3), (4, .int x4)]) C dX5_findSoonest_39 (by decide) rfl rfl ?_
  exact g_sub C [1, 2, 3, 4, 0] rfl (w_X5_findSoonest_74_1_L41 C hr hR _ _ _ _ _ h)
noncomputable def f_X5_findSoonest_74_1_L9  : Nat → cr_S → Nat → Int32 → Int32 → Int32 → Option (cr_S)
  | 0, _, _, _, _, _ => none
  | n + 1, σ, x2, x3, x4, x5 =>
    (if 346 ≤ x5 then f_X5_findSoonest_74_1_B35 σ x2 x3 x4 else chk (inb x4 7) (chk (kC (76 + x4.toNatClampNeg) = 1346) (chk (inb x5 346) (cr_let (sA σ (76 + x4.toNatClampNeg) x5 x5) (fun s38 => cr_let (x5 + 1) (fun v40 => f_X5_findSoonest_74_1_L9 n s38 x2 x3 x4 v40))))))
set_option maxRecDepth 100000 in
set_option maxHeartbeats 4000000 in
theorem w_X5_findSoonest_74_1_L9 (C : cr_C p l e R s m args below meth c sfC 97 base D cA cX5_findSoonest 8 RX5) (hr : meth.sig.returnType = none) (hR : 5 ≤ R.frames ∧ 114 ≤ R.locals) {res : cr_S}  : ∀ (n : Nat) (σ : cr_S) (x2 : Nat) (x3 : Int32) (x4 : Int32) (x5 : Int32), f_X5_findSoonest_74_1_L9 n σ x2 x3 x4 x5 = some res → cr_W p l e R s m args below meth c sfC 97 base D cA 8 (MQ below (cr_Qv sfC 97 base D cA res) args s 0 0 (cr_A 97 base)) σ 9 [(0, .ref (base + 74)), (1, .ref (base + 1)), (2, .ref (base + x2)), (3, .int x3), (4, .int x4), (5, .int x5)] [] := by
  intro n
  induction n with
  | zero =>
    intro σ x2 x3 x4 x5 h
    cases h
  | succ n ih =>
    intro σ x2 x3 x4 x5 h
    rw [f_X5_findSoonest_74_1_L9] at h
    refine g_iload (pc' := 11) C dX5_findSoonest_9 5 rfl rfl ?_
    refine g_sipush (pc' := 14) (v := 346) C dX5_findSoonest_11 (by decide) rfl ?_
    refine g_icmp_ge (pc' := 17) (tgt := 35) C dX5_findSoonest_14 (by decide) rfl (fun hc => ?_) (fun hc => ?_)
    · rw [if_pos hc] at h
      exact g_sub C [0, 1, 2, 3, 4] rfl (w_X5_findSoonest_74_1_B35 C hr hR _ _ _ _ h)
    · rw [if_neg hc] at h
      refine g_aload_n (pc' := 18) C dX5_findSoonest_17 0 rfl rfl ?_
      refine gg_X5_11 (pc' := 21) (o := 74) (r := 75) C rfl rfl dX5_findSoonest_18 rfl ?_
      refine g_iload (pc' := 23) C dX5_findSoonest_21 4 rfl rfl ?_
      obtain ⟨h35, h⟩ := chk_some h
      refine g_aaldA (pc' := 24) C (o := 75) (by decide) rfl (inb_d h35) dX5_findSoonest_23 rfl ?_
      refine g_iload (pc' := 26) C dX5_findSoonest_24 5 rfl rfl ?_
      refine g_iload (pc' := 28) C dX5_findSoonest_26 5 rfl rfl ?_
      obtain ⟨h36, h⟩ := chk_some h
      obtain ⟨h37, h⟩ := chk_some h
      obtain ⟨s38, e39, h⟩ := let_some h
      refine g_iast (pc' := 29) C (o := 76 + x4.toNatClampNeg) (kC_lt h36 (by decide)) (sfC_1346 h36) (inb_d h37) dX5_findSoonest_28 rfl e39 ?_
      obtain ⟨v40, e41, h⟩ := let_some h
      refine g_iinc (pc' := 32) (v := v40) (lv' := [(5, .int v40), (0, .ref (base + 74)), (1, .ref (base + 1)), (2, .ref (base + x2)), (3, .int x3), (4, .int x4)]) C dX5_findSoonest_29 5 rfl (by rw [e41]; rfl) (by decide) rfl rfl ?_
      refine g_goto (tgt := 9) C dX5_findSoonest_32 (by decide) ?_
      exact g_sub C [1, 2, 3, 4, 5, 0] rfl (ih _ _ _ _ _ h)
noncomputable def f_X5_findSoonest_74_1 (σ : cr_S) (o2 : Nat) (a3 : Int32) : Option (cr_S) :=
  cr_let (rF σ 1 5) (fun v1 => f_X5_findSoonest_74_1_L9 cr_fuel σ o2 a3 v1 0)
set_option maxRecDepth 100000 in
set_option maxHeartbeats 4000000 in
theorem w_X5_findSoonest_74_1 (C : cr_C p l e R s m args below meth c sfC 97 base D cA cX5_findSoonest 8 RX5) (hr : meth.sig.returnType = none) (hR : 5 ≤ R.frames ∧ 114 ≤ R.locals) {res : cr_S} (σ : cr_S) (o2 : Nat) (a3 : Int32) (h : f_X5_findSoonest_74_1 σ o2 a3 = some res) : cr_W p l e R s m args below meth c sfC 97 base D cA 8 (MQ below (cr_Qv sfC 97 base D cA res) args s 0 0 (cr_A 97 base)) σ 0 [(0, .ref (base + 74)), (1, .ref (base + 1)), (2, .ref (base + o2)), (3, .int a3)] [] := by
  unfold f_X5_findSoonest_74_1 at h
  refine g_aload_n (pc' := 1) C dX5_findSoonest_0 1 rfl rfl ?_
  refine gg_X5_23 (pc' := 4) (o := 1) C rfl dX5_findSoonest_1 rfl ?_
  obtain ⟨v1, e2, h⟩ := let_some h
  refine g_nameI e2 ?_
  refine g_istore (pc' := 6) (lv' := [(4, .int v1), (0, .ref (base + 74)), (1, .ref (base + 1)), (2, .ref (base + o2)), (3, .int a3)]) C dX5_findSoonest_4 (by decide) rfl rfl ?_
  refine g_iconst (pc' := 7) (v := 0) C dX5_findSoonest_6 (by decide) rfl ?_
  refine g_istore (pc' := 9) (lv' := [(5, .int 0), (4, .int v1), (0, .ref (base + 74)), (1, .ref (base + 1)), (2, .ref (base + o2)), (3, .int a3)]) C dX5_findSoonest_7 (by decide) rfl rfl ?_
  exact g_sub C [2, 3, 4, 5, 1, 0] rfl (w_X5_findSoonest_74_1_L9 C hr hR _ _ _ _ _ _ h)
theorem c_X5_findSoonest_74_1 (l : Launch) (base : Nat) (D : va_G) (cA : Nat → ClassId) (σ : cr_S) (o2 : Nat) (a3 : Int32) (res : cr_S) (h : f_X5_findSoonest_74_1 σ o2 a3 = some res) : cr_M l yX5_findSoonest cX5_findSoonest 8 none 5 114 sfC 97 base D cA [.ref (base + 74), .ref (base + 1), .ref (base + o2), .int a3] σ (cr_Qv sfC 97 base D cA res) := by
  refine cr_enter [.ref (base + 74), .ref (base + 1), .ref (base + o2), .int a3] [(0, .ref (base + 74)), (1, .ref (base + 1)), (2, .ref (base + o2)), (3, .int a3)] (by decide) (Nat.le_of_ble_eq_true rfl) rfl ?_
  intro p e R s m below meth c C hr hR
  exact w_X5_findSoonest_74_1 C hr hR σ o2 a3 h
noncomputable def f_X10_soonest (σ : cr_S) (a1 : Int32) (a2 : Int32) (a3 : Int32) : Option (cr_S × Int32) :=
  Option.bind (f_X10_isBegin σ a1 a2) (fun q1 => (if q1.2 = 0 then some (q1.1, (-1)) else Option.bind (f_X10_isWithin q1.1 a3 (-2) ((rF q1.1 1 5) - 1)) (fun q3 => (if q3.2 = 0 then some (q3.1, (-1)) else chk (inb a1 5) (Option.bind (f_X5_findSoonest_74_1 q3.1 (15 + a1.toNatClampNeg) a2) (fun q6 => (if (rF q6 74 4) = 1000000 then some (q6, (-4)) else (if a3 = (-2) then some (q6, a2 + (rF q6 74 4)) else (if a3 = (-1) then some (q6, a2 + (rF q6 74 3)) else chk (inb a3 6) (some (q6, rA q6 84 a3)))))))))))
set_option maxRecDepth 100000 in
set_option maxHeartbeats 4000000 in
theorem w_X10_soonest (C : cr_C p l e R s m args below meth c sfC 97 base D cA cX10_soonest 4 RX10) (hr : meth.sig.returnType = some .int) (hR : 6 ≤ R.frames ∧ 141 ≤ R.locals) {res : cr_S × Int32} (σ : cr_S) (a1 : Int32) (a2 : Int32) (a3 : Int32) (h : f_X10_soonest σ a1 a2 a3 = some res) : cr_W p l e R s m args below meth c sfC 97 base D cA 4 (MQ below (cr_Qi sfC 97 base D cA res) args s 0 0 (cr_A 97 base)) σ 0 [(0, .ref (base + 0)), (1, .int a1), (2, .int a2), (3, .int a3)] [] := by
  unfold f_X10_soonest at h
  refine g_aload_n (pc' := 1) C dX10_soonest_0 0 rfl rfl ?_
  refine g_iload_n (pc' := 2) C dX10_soonest_1 1 rfl rfl ?_
  refine g_iload_n (pc' := 3) C dX10_soonest_2 2 rfl rfl ?_
  obtain ⟨q1, h2, h⟩ := bind_some h
  refine g_callVi (pc' := 6) (res := q1) C [.int a1, .int a2] cY_X10_isBegin rfl (o := 0) (by decide) rfl mv_X10_isBegin mm_X10_210 ⟨Nat.le_trans (by decide) hR.1, Nat.le_trans (by decide) hR.2⟩ rfl (Nat.le_of_ble_eq_true rfl) rfl dX10_soonest_3 (c_X10_isBegin l base D cA σ a1 a2 q1 h2) rfl ?_
  refine g_if_eq (pc' := 9) (tgt := 27) C dX10_soonest_6 (by decide) rfl (fun hc => ?_) (fun hc => ?_)
  · rw [if_pos hc] at h
    refine g_iconst (pc' := 28) (v := (-1)) C dX10_soonest_27 (by decide) rfl ?_
    exact g_iret C hr dX10_soonest_28 h
  · rw [if_neg hc] at h
    refine g_iload_n (pc' := 10) C dX10_soonest_9 3 rfl rfl ?_
    refine g_bipush (pc' := 12) (v := (-2)) C dX10_soonest_10 (by decide) rfl ?_
    refine g_aload_n (pc' := 13) C dX10_soonest_12 0 rfl rfl ?_
    refine gg_X10_12 (pc' := 16) (o := 0) (r := 1) C rfl rfl dX10_soonest_13 rfl ?_
    refine gg_X10_58 (pc' := 19) (o := 1) C rfl dX10_soonest_16 rfl ?_
    refine g_iconst (pc' := 20) (v := 1) C dX10_soonest_19 (by decide) rfl ?_
    refine g_isub (pc' := 21) C dX10_soonest_20 rfl ?_
    obtain ⟨q3, h4, h⟩ := bind_some h
    refine g_callSi (pc' := 24) (res := q3) C [.int a3, .int (-2), .int ((rF q1.1 1 5) - 1)] cY_X10_isWithin mv_X10_isWithin mm_X10_54 ⟨Nat.le_trans (by decide) hR.1, Nat.le_trans (by decide) hR.2⟩ rfl (Nat.le_of_ble_eq_true rfl) rfl dX10_soonest_21 (c_X10_isWithin l base D cA q1.1 a3 (-2) ((rF q1.1 1 5) - 1) q3 h4) rfl ?_
    refine g_if_ne (pc' := 27) (tgt := 29) C dX10_soonest_24 (by decide) rfl (fun hc => ?_) (fun hc => ?_)
    · rw [if_neg hc] at h
      refine g_aload_n (pc' := 30) C dX10_soonest_29 0 rfl rfl ?_
      refine gg_X10_36 (pc' := 33) (o := 0) (r := 74) C rfl rfl dX10_soonest_30 rfl ?_
      refine g_aload_n (pc' := 34) C dX10_soonest_33 0 rfl rfl ?_
      refine gg_X10_12 (pc' := 37) (o := 0) (r := 1) C rfl rfl dX10_soonest_34 rfl ?_
      refine g_aload_n (pc' := 38) C dX10_soonest_37 0 rfl rfl ?_
      refine gg_X10_12 (pc' := 41) (o := 0) (r := 1) C rfl rfl dX10_soonest_38 rfl ?_
      refine gg_X10_85 (pc' := 44) (o := 1) (r := 3) C rfl rfl dX10_soonest_41 rfl ?_
      refine g_iload_n (pc' := 45) C dX10_soonest_44 1 rfl rfl ?_
      obtain ⟨h5, h⟩ := chk_some h
      refine g_aald (pc' := 46) C (o := 3) (by decide) rfl (cn := "ClashRocks$Ship") rfl (inb_d h5) dX10_soonest_45 rfl ?_
      refine g_iload_n (pc' := 47) C dX10_soonest_46 2 rfl rfl ?_
      obtain ⟨q6, h7, h⟩ := bind_some h
      refine g_callVv (pc' := 50) (res := q6) C [.ref (base + 1), .ref (base + (15 + a1.toNatClampNeg)), .int a2] cY_X5_findSoonest rfl (o := 74) (by decide) rfl mv_X5_findSoonest mm_X10_214 ⟨Nat.le_trans (by decide) hR.1, Nat.le_trans (by decide) hR.2⟩ rfl (Nat.le_of_ble_eq_true rfl) rfl dX10_soonest_47 (c_X5_findSoonest_74_1 l base D cA q3.1 (15 + a1.toNatClampNeg) a2 q6 h7) rfl ?_
      refine g_aload_n (pc' := 51) C dX10_soonest_50 0 rfl rfl ?_
      refine gg_X10_36 (pc' := 54) (o := 0) (r := 74) C rfl rfl dX10_soonest_51 rfl ?_
      refine gg_X10_218 (pc' := 57) (o := 74) C rfl dX10_soonest_54 rfl ?_
      refine g_ldc (pc' := 59) (v := 1000000) C dX10_soonest_57 mk_X10_221 rfl ?_
      refine g_icmp_ne (pc' := 62) (tgt := 65) C dX10_soonest_59 (by decide) rfl (fun hc => ?_) (fun hc => ?_)
      · rw [if_neg hc] at h
        refine g_iload_n (pc' := 66) C dX10_soonest_65 3 rfl rfl ?_
        refine g_bipush (pc' := 68) (v := (-2)) C dX10_soonest_66 (by decide) rfl ?_
        refine g_icmp_ne (pc' := 71) (tgt := 81) C dX10_soonest_68 (by decide) rfl (fun hc => ?_) (fun hc => ?_)
        · rw [if_neg hc] at h
          refine g_iload_n (pc' := 82) C dX10_soonest_81 3 rfl rfl ?_
          refine g_iconst (pc' := 83) (v := (-1)) C dX10_soonest_82 (by decide) rfl ?_
          refine g_icmp_ne (pc' := 86) (tgt := 98) C dX10_soonest_83 (by decide) rfl (fun hc => ?_) (fun hc => ?_)
          · rw [if_neg hc] at h
            refine g_aload_n (pc' := 99) C dX10_soonest_98 0 rfl rfl ?_
            refine gg_X10_36 (pc' := 102) (o := 0) (r := 74) C rfl rfl dX10_soonest_99 rfl ?_
            refine gg_X10_224 (pc' := 105) (o := 74) (r := 84) C rfl rfl dX10_soonest_102 rfl ?_
            refine g_iload_n (pc' := 106) C dX10_soonest_105 3 rfl rfl ?_
            obtain ⟨h8, h⟩ := chk_some h
            refine g_iald (pc' := 107) C (o := 84) (by decide) rfl (inb_d h8) dX10_soonest_106 rfl ?_
            exact g_iret C hr dX10_soonest_107 h
          · rw [if_pos hc] at h
            refine g_iload_n (pc' := 87) C dX10_soonest_86 2 rfl rfl ?_
            refine g_aload_n (pc' := 88) C dX10_soonest_87 0 rfl rfl ?_
            refine gg_X10_36 (pc' := 91) (o := 0) (r := 74) C rfl rfl dX10_soonest_88 rfl ?_
            refine gg_X10_222 (pc' := 94) (o := 74) C rfl dX10_soonest_91 rfl ?_
            refine g_iadd (pc' := 95) C dX10_soonest_94 rfl ?_
            refine g_goto (tgt := 107) C dX10_soonest_95 (by decide) ?_
            exact g_iret C hr dX10_soonest_107 h
        · rw [if_pos hc] at h
          refine g_iload_n (pc' := 72) C dX10_soonest_71 2 rfl rfl ?_
          refine g_aload_n (pc' := 73) C dX10_soonest_72 0 rfl rfl ?_
          refine gg_X10_36 (pc' := 76) (o := 0) (r := 74) C rfl rfl dX10_soonest_73 rfl ?_
          refine gg_X10_218 (pc' := 79) (o := 74) C rfl dX10_soonest_76 rfl ?_
          refine g_iadd (pc' := 80) C dX10_soonest_79 rfl ?_
          exact g_iret C hr dX10_soonest_80 h
      · rw [if_pos hc] at h
        refine g_bipush (pc' := 64) (v := (-4)) C dX10_soonest_62 (by decide) rfl ?_
        exact g_iret C hr dX10_soonest_64 h
    · rw [if_pos hc] at h
      refine g_iconst (pc' := 28) (v := (-1)) C dX10_soonest_27 (by decide) rfl ?_
      exact g_iret C hr dX10_soonest_28 h
theorem c_X10_soonest (l : Launch) (base : Nat) (D : va_G) (cA : Nat → ClassId) (σ : cr_S) (a1 : Int32) (a2 : Int32) (a3 : Int32) (res : cr_S × Int32) (h : f_X10_soonest σ a1 a2 a3 = some res) : cr_M l yX10_soonest cX10_soonest 4 (some .int) 6 141 sfC 97 base D cA [.ref (base + 0), .int a1, .int a2, .int a3] σ (cr_Qi sfC 97 base D cA res) := by
  refine cr_enter [.ref (base + 0), .int a1, .int a2, .int a3] [(0, .ref (base + 0)), (1, .int a1), (2, .int a2), (3, .int a3)] (by decide) (Nat.le_of_ble_eq_true rfl) rfl ?_
  intro p e R s m below meth c C hr hR
  exact w_X10_soonest C hr hR σ a1 a2 a3 h
noncomputable def f_X0_judgement_70 (σ : cr_S) (a1 : Int32) : Option (cr_S × Int32) :=
  (if a1 = 0 then some (σ, rF σ 70 3) else (if a1 = 1 then some (σ, rF σ 70 4) else some (σ, rF σ 70 5)))
set_option maxRecDepth 100000 in
set_option maxHeartbeats 4000000 in
theorem w_X0_judgement_70 (C : cr_C p l e R s m args below meth c sfC 97 base D cA cX0_judgement 2 RX0) (hr : meth.sig.returnType = some .int) (hR : 0 ≤ R.frames ∧ 0 ≤ R.locals) {res : cr_S × Int32} (σ : cr_S) (a1 : Int32) (h : f_X0_judgement_70 σ a1 = some res) : cr_W p l e R s m args below meth c sfC 97 base D cA 2 (MQ below (cr_Qi sfC 97 base D cA res) args s 0 0 (cr_A 97 base)) σ 0 [(0, .ref (base + 70)), (1, .int a1)] [] := by
  unfold f_X0_judgement_70 at h
  refine g_iload_n (pc' := 1) C dX0_judgement_0 1 rfl rfl ?_
  by_cases hc0 : a1 = 0
  · rw [if_pos hc0] at h
    refine g_lookup (off := 27) (tgt := 28) C dX0_judgement_1 (by decide) (by rw [hc0]; decide) (by decide) ?_
    refine g_aload_n (pc' := 29) C dX0_judgement_28 0 rfl rfl ?_
    refine gg_X0_21 (pc' := 32) (o := 70) C rfl dX0_judgement_29 rfl ?_
    exact g_iret C hr dX0_judgement_32 h
  rw [if_neg hc0] at h
  by_cases hc1 : a1 = 1
  · rw [if_pos hc1] at h
    refine g_lookup (off := 32) (tgt := 33) C dX0_judgement_1 (by decide) (by rw [hc1]; decide) (by decide) ?_
    refine g_aload_n (pc' := 34) C dX0_judgement_33 0 rfl rfl ?_
    refine gg_X0_50 (pc' := 37) (o := 70) C rfl dX0_judgement_34 rfl ?_
    exact g_iret C hr dX0_judgement_37 h
  rw [if_neg hc1] at h
  refine g_lookup (off := 37) (tgt := 38) C dX0_judgement_1 (by decide) (by have q0 : (0 : Int) ≠ a1.toInt := Ne.symm (ne_toInt hc0); have q1 : (1 : Int) ≠ a1.toInt := Ne.symm (ne_toInt hc1); show Op.lookupswitch.offset [(0, 27), (1, 32)] _ _ = _; rw [Op.lookupswitch.offset_cons, if_neg q0, Op.lookupswitch.offset_cons, if_neg q1]; rfl) (by decide) ?_
  refine g_aload_n (pc' := 39) C dX0_judgement_38 0 rfl rfl ?_
  refine gg_X0_47 (pc' := 42) (o := 70) C rfl dX0_judgement_39 rfl ?_
  exact g_iret C hr dX0_judgement_42 h
theorem c_X0_judgement_70 (l : Launch) (base : Nat) (D : va_G) (cA : Nat → ClassId) (σ : cr_S) (a1 : Int32) (res : cr_S × Int32) (h : f_X0_judgement_70 σ a1 = some res) : cr_M l yX0_judgement cX0_judgement 2 (some .int) 0 0 sfC 97 base D cA [.ref (base + 70), .int a1] σ (cr_Qi sfC 97 base D cA res) := by
  refine cr_enter [.ref (base + 70), .int a1] [(0, .ref (base + 70)), (1, .int a1)] (by decide) (Nat.le_of_ble_eq_true rfl) rfl ?_
  intro p e R s m below meth c C hr hR
  exact w_X0_judgement_70 C hr hR σ a1 h
noncomputable def f_X10_full (σ : cr_S) (a1 : Int32) (a2 : Int32) (a3 : Int32) : Option (cr_S × Int32) :=
  Option.bind (f_X10_isBegin σ a1 a2) (fun q1 => (if q1.2 = 0 then some (q1.1, (-1)) else Option.bind (f_X10_isWithin q1.1 a3 0 2) (fun q3 => (if q3.2 = 0 then some (q3.1, (-1)) else Option.bind (f_X10_goFull q3.1 a1 a2) (fun q5 => Option.bind (f_X0_judgement_70 q5 a3) (fun q7 => some (q7.1, q7.2)))))))
set_option maxRecDepth 100000 in
set_option maxHeartbeats 4000000 in
theorem w_X10_full (C : cr_C p l e R s m args below meth c sfC 97 base D cA cX10_full 4 RX10) (hr : meth.sig.returnType = some .int) (hR : 6 ≤ R.frames ∧ 143 ≤ R.locals) {res : cr_S × Int32} (σ : cr_S) (a1 : Int32) (a2 : Int32) (a3 : Int32) (h : f_X10_full σ a1 a2 a3 = some res) : cr_W p l e R s m args below meth c sfC 97 base D cA 4 (MQ below (cr_Qi sfC 97 base D cA res) args s 0 0 (cr_A 97 base)) σ 0 [(0, .ref (base + 0)), (1, .int a1), (2, .int a2), (3, .int a3)] [] := by
  unfold f_X10_full at h
  refine g_aload_n (pc' := 1) C dX10_full_0 0 rfl rfl ?_
  refine g_iload_n (pc' := 2) C dX10_full_1 1 rfl rfl ?_
  refine g_iload_n (pc' := 3) C dX10_full_2 2 rfl rfl ?_
  obtain ⟨q1, h2, h⟩ := bind_some h
  refine g_callVi (pc' := 6) (res := q1) C [.int a1, .int a2] cY_X10_isBegin rfl (o := 0) (by decide) rfl mv_X10_isBegin mm_X10_210 ⟨Nat.le_trans (by decide) hR.1, Nat.le_trans (by decide) hR.2⟩ rfl (Nat.le_of_ble_eq_true rfl) rfl dX10_full_3 (c_X10_isBegin l base D cA σ a1 a2 q1 h2) rfl ?_
  refine g_if_eq (pc' := 9) (tgt := 18) C dX10_full_6 (by decide) rfl (fun hc => ?_) (fun hc => ?_)
  · rw [if_pos hc] at h
    refine g_iconst (pc' := 19) (v := (-1)) C dX10_full_18 (by decide) rfl ?_
    exact g_iret C hr dX10_full_19 h
  · rw [if_neg hc] at h
    refine g_iload_n (pc' := 10) C dX10_full_9 3 rfl rfl ?_
    refine g_iconst (pc' := 11) (v := 0) C dX10_full_10 (by decide) rfl ?_
    refine g_iconst (pc' := 12) (v := 2) C dX10_full_11 (by decide) rfl ?_
    obtain ⟨q3, h4, h⟩ := bind_some h
    refine g_callSi (pc' := 15) (res := q3) C [.int a3, .int 0, .int 2] cY_X10_isWithin mv_X10_isWithin mm_X10_54 ⟨Nat.le_trans (by decide) hR.1, Nat.le_trans (by decide) hR.2⟩ rfl (Nat.le_of_ble_eq_true rfl) rfl dX10_full_12 (c_X10_isWithin l base D cA q1.1 a3 0 2 q3 h4) rfl ?_
    refine g_if_ne (pc' := 18) (tgt := 20) C dX10_full_15 (by decide) rfl (fun hc => ?_) (fun hc => ?_)
    · rw [if_neg hc] at h
      refine g_aload_n (pc' := 21) C dX10_full_20 0 rfl rfl ?_
      refine g_iload_n (pc' := 22) C dX10_full_21 1 rfl rfl ?_
      refine g_iload_n (pc' := 23) C dX10_full_22 2 rfl rfl ?_
      obtain ⟨q5, h6, h⟩ := bind_some h
      refine g_callVv (pc' := 26) (res := q5) C [.int a1, .int a2] cY_X10_goFull rfl (o := 0) (by decide) rfl mv_X10_goFull mm_X10_200 ⟨Nat.le_trans (by decide) hR.1, Nat.le_trans (by decide) hR.2⟩ rfl (Nat.le_of_ble_eq_true rfl) rfl dX10_full_23 (c_X10_goFull l base D cA q3.1 a1 a2 q5 h6) rfl ?_
      refine g_aload_n (pc' := 27) C dX10_full_26 0 rfl rfl ?_
      refine gg_X10_29 (pc' := 30) (o := 0) (r := 70) C rfl rfl dX10_full_27 rfl ?_
      refine g_iload_n (pc' := 31) C dX10_full_30 3 rfl rfl ?_
      obtain ⟨q7, h8, h⟩ := bind_some h
      refine g_callVi (pc' := 34) (res := q7) C [.int a3] cY_X0_judgement rfl (o := 70) (by decide) rfl mv_X0_judgement mm_X10_228 ⟨Nat.le_trans (by decide) hR.1, Nat.le_trans (by decide) hR.2⟩ rfl (Nat.le_of_ble_eq_true rfl) rfl dX10_full_31 (c_X0_judgement_70 l base D cA q5 a3 q7 h8) rfl ?_
      exact g_iret C hr dX10_full_34 h
    · rw [if_pos hc] at h
      refine g_iconst (pc' := 19) (v := (-1)) C dX10_full_18 (by decide) rfl ?_
      exact g_iret C hr dX10_full_19 h
theorem c_X10_full (l : Launch) (base : Nat) (D : va_G) (cA : Nat → ClassId) (σ : cr_S) (a1 : Int32) (a2 : Int32) (a3 : Int32) (res : cr_S × Int32) (h : f_X10_full σ a1 a2 a3 = some res) : cr_M l yX10_full cX10_full 4 (some .int) 6 143 sfC 97 base D cA [.ref (base + 0), .int a1, .int a2, .int a3] σ (cr_Qi sfC 97 base D cA res) := by
  refine cr_enter [.ref (base + 0), .int a1, .int a2, .int a3] [(0, .ref (base + 0)), (1, .int a1), (2, .int a2), (3, .int a3)] (by decide) (Nat.le_of_ble_eq_true rfl) rfl ?_
  intro p e R s m below meth c C hr hR
  exact w_X10_full C hr hR σ a1 a2 a3 h
noncomputable def f_X0_planFull_70_1_L6  : Nat → cr_S → Nat → Int32 → Int32 → Option (cr_S)
  | 0, _, _, _, _ => none
  | n + 1, σ, x2, x4, x5 =>
    (if (rF σ 1 5) ≤ x5 then some σ else chk (inb x5 6) (chk (kC (9 + x5.toNatClampNeg) = 3) (Option.bind (f_X6_high σ x2) (fun q3 => chk (kC x2 = 6) (Option.bind (f_X10_secondsFor q3.1 (rF σ (9 + x5.toNatClampNeg) 1) q3.2) (fun q6 => chk (inb x5 6) (cr_let (sA q6.1 72 x5 (x4 + q6.2)) (fun s9 => chk (inb x5 6) (Option.bind (f_X6_span s9 x2) (fun q12 => chk (kC x2 = 6) (Option.bind (f_X6_high q12.1 x2) (fun q15 => chk (kC x2 = 6) (Option.bind (f_X10_secondsFor q15.1 q12.2 q15.2) (fun q18 => chk (inb x5 6) (cr_let (sA q18.1 73 x5 ((rA s9 72 x5) + q18.2)) (fun s21 => chk (inb x5 6) (cr_let (rA s21 73 x5) (fun v24 => cr_let (x5 + 1) (fun v26 => f_X0_planFull_70_1_L6 n s21 x2 v24 v26)))))))))))))))))))
set_option maxRecDepth 100000 in
set_option maxHeartbeats 4000000 in
theorem w_X0_planFull_70_1_L6 (C : cr_C p l e R s m args below meth c sfC 97 base D cA cX0_planFull 6 RX0) (hr : meth.sig.returnType = none) (hR : 1 ≤ R.frames ∧ 21 ≤ R.locals) {res : cr_S}  : ∀ (n : Nat) (σ : cr_S) (x2 : Nat) (x4 : Int32) (x5 : Int32), f_X0_planFull_70_1_L6 n σ x2 x4 x5 = some res → cr_W p l e R s m args below meth c sfC 97 base D cA 6 (MQ below (cr_Qv sfC 97 base D cA res) args s 0 0 (cr_A 97 base)) σ 6 [(0, .ref (base + 70)), (1, .ref (base + 1)), (2, .ref (base + x2)), (4, .int x4), (5, .int x5)] [] := by
  intro n
  induction n with
  | zero =>
    intro σ x2 x4 x5 h
    cases h
  | succ n ih =>
    intro σ x2 x4 x5 h
    rw [f_X0_planFull_70_1_L6] at h
    refine g_iload (pc' := 8) C dX0_planFull_6 4 rfl rfl ?_
    refine g_aload_n (pc' := 9) C dX0_planFull_8 1 rfl rfl ?_
    refine gg_X0_53 (pc' := 12) (o := 1) C rfl dX0_planFull_9 rfl ?_
    refine g_icmp_ge (pc' := 15) (tgt := 83) C dX0_planFull_12 (by decide) rfl (fun hc => ?_) (fun hc => ?_)
    · rw [if_pos hc] at h
      exact g_vret C hr dX0_planFull_83 h
    · rw [if_neg hc] at h
      refine g_aload_n (pc' := 16) C dX0_planFull_15 0 rfl rfl ?_
      refine gg_X0_15 (pc' := 19) (o := 70) (r := 72) C rfl rfl dX0_planFull_16 rfl ?_
      refine g_iload (pc' := 21) C dX0_planFull_19 4 rfl rfl ?_
      refine g_iload (pc' := 23) C dX0_planFull_21 3 rfl rfl ?_
      refine g_aload_n (pc' := 24) C dX0_planFull_23 1 rfl rfl ?_
      refine gg_X0_58 (pc' := 27) (o := 1) (r := 2) C rfl rfl dX0_planFull_24 rfl ?_
      refine g_iload (pc' := 29) C dX0_planFull_27 4 rfl rfl ?_
      obtain ⟨h1, h⟩ := chk_some h
      refine g_aald (pc' := 30) C (o := 2) (by decide) rfl (cn := "ClashRocks$Pair") rfl (inb_d h1) dX0_planFull_29 rfl ?_
      obtain ⟨h2, h⟩ := chk_some h
      refine gg_X0_25 (pc' := 33) (o := 9 + x5.toNatClampNeg) C h2 dX0_planFull_30 rfl ?_
      refine g_aload_n (pc' := 34) C dX0_planFull_33 2 rfl rfl ?_
      obtain ⟨q3, h4, h⟩ := bind_some h
      obtain ⟨h5, h⟩ := chk_some h
      refine g_callVi (pc' := 37) (res := q3) C [] cY_X6_high rfl (o := x2) (kC_lt h5 (by decide)) (sfC_6 h5) mv_X6_high mm_X0_66 ⟨Nat.le_trans (by decide) hR.1, Nat.le_trans (by decide) hR.2⟩ rfl (Nat.le_of_ble_eq_true rfl) rfl dX0_planFull_34 (c_X6_high l base D cA σ x2 q3 h4) rfl ?_
      obtain ⟨q6, h7, h⟩ := bind_some h
      refine g_callNi (pc' := 40) (res := q6) C [.int (rF σ (9 + x5.toNatClampNeg) 1), .int q3.2] cY_X10_secondsFor mv_X10_secondsFor mn_X0_30 ⟨Nat.le_trans (by decide) hR.1, Nat.le_trans (by decide) hR.2⟩ rfl (Nat.le_of_ble_eq_true rfl) rfl dX0_planFull_37 (c_X10_secondsFor l base D cA q3.1 (rF σ (9 + x5.toNatClampNeg) 1) q3.2 q6 h7) rfl ?_
      refine g_iadd (pc' := 41) C dX0_planFull_40 rfl ?_
      obtain ⟨h8, h⟩ := chk_some h
      obtain ⟨s9, e10, h⟩ := let_some h
      refine g_iast (pc' := 42) C (o := 72) (by decide) rfl (inb_d h8) dX0_planFull_41 rfl e10 ?_
      refine g_aload_n (pc' := 43) C dX0_planFull_42 0 rfl rfl ?_
      refine gg_X0_18 (pc' := 46) (o := 70) (r := 73) C rfl rfl dX0_planFull_43 rfl ?_
      refine g_iload (pc' := 48) C dX0_planFull_46 4 rfl rfl ?_
      refine g_aload_n (pc' := 49) C dX0_planFull_48 0 rfl rfl ?_
      refine gg_X0_15 (pc' := 52) (o := 70) (r := 72) C rfl rfl dX0_planFull_49 rfl ?_
      refine g_iload (pc' := 54) C dX0_planFull_52 4 rfl rfl ?_
      obtain ⟨h11, h⟩ := chk_some h
      refine g_iald (pc' := 55) C (o := 72) (by decide) rfl (inb_d h11) dX0_planFull_54 rfl ?_
      refine g_aload_n (pc' := 56) C dX0_planFull_55 2 rfl rfl ?_
      obtain ⟨q12, h13, h⟩ := bind_some h
      obtain ⟨h14, h⟩ := chk_some h
      refine g_callVi (pc' := 59) (res := q12) C [] cY_X6_span rfl (o := x2) (kC_lt h14 (by decide)) (sfC_6 h14) mv_X6_span mm_X0_34 ⟨Nat.le_trans (by decide) hR.1, Nat.le_trans (by decide) hR.2⟩ rfl (Nat.le_of_ble_eq_true rfl) rfl dX0_planFull_56 (c_X6_span l base D cA s9 x2 q12 h13) rfl ?_
      refine g_aload_n (pc' := 60) C dX0_planFull_59 2 rfl rfl ?_
      obtain ⟨q15, h16, h⟩ := bind_some h
      obtain ⟨h17, h⟩ := chk_some h
      refine g_callVi (pc' := 63) (res := q15) C [] cY_X6_high rfl (o := x2) (kC_lt h17 (by decide)) (sfC_6 h17) mv_X6_high mm_X0_66 ⟨Nat.le_trans (by decide) hR.1, Nat.le_trans (by decide) hR.2⟩ rfl (Nat.le_of_ble_eq_true rfl) rfl dX0_planFull_60 (c_X6_high l base D cA q12.1 x2 q15 h16) rfl ?_
      obtain ⟨q18, h19, h⟩ := bind_some h
      refine g_callNi (pc' := 66) (res := q18) C [.int q12.2, .int q15.2] cY_X10_secondsFor mv_X10_secondsFor mn_X0_30 ⟨Nat.le_trans (by decide) hR.1, Nat.le_trans (by decide) hR.2⟩ rfl (Nat.le_of_ble_eq_true rfl) rfl dX0_planFull_63 (c_X10_secondsFor l base D cA q15.1 q12.2 q15.2 q18 h19) rfl ?_
      refine g_iadd (pc' := 67) C dX0_planFull_66 rfl ?_
      obtain ⟨h20, h⟩ := chk_some h
      obtain ⟨s21, e22, h⟩ := let_some h
      refine g_iast (pc' := 68) C (o := 73) (by decide) rfl (inb_d h20) dX0_planFull_67 rfl e22 ?_
      refine g_aload_n (pc' := 69) C dX0_planFull_68 0 rfl rfl ?_
      refine gg_X0_18 (pc' := 72) (o := 70) (r := 73) C rfl rfl dX0_planFull_69 rfl ?_
      refine g_iload (pc' := 74) C dX0_planFull_72 4 rfl rfl ?_
      obtain ⟨h23, h⟩ := chk_some h
      refine g_iald (pc' := 75) C (o := 73) (by decide) rfl (inb_d h23) dX0_planFull_74 rfl ?_
      obtain ⟨v24, e25, h⟩ := let_some h
      refine g_nameI e25 ?_
      refine g_istore (pc' := 77) (lv' := [(4, .int v24), (0, .ref (base + 70)), (1, .ref (base + 1)), (2, .ref (base + x2)), (5, .int x5)]) C dX0_planFull_75 (by decide) rfl rfl ?_
      obtain ⟨v26, e27, h⟩ := let_some h
      refine g_iinc (pc' := 80) (v := v26) (lv' := [(5, .int v26), (4, .int v24), (0, .ref (base + 70)), (1, .ref (base + 1)), (2, .ref (base + x2))]) C dX0_planFull_77 4 rfl (by rw [e27]; rfl) (by decide) rfl rfl ?_
      refine g_goto (tgt := 6) C dX0_planFull_80 (by decide) ?_
      exact g_sub C [2, 3, 4, 1, 0] rfl (ih _ _ _ _ h)
noncomputable def f_X0_planFull_70_1 (σ : cr_S) (o2 : Nat) (a3 : Int32) : Option (cr_S) :=
  f_X0_planFull_70_1_L6 cr_fuel σ o2 a3 0
set_option maxRecDepth 100000 in
set_option maxHeartbeats 4000000 in
theorem w_X0_planFull_70_1 (C : cr_C p l e R s m args below meth c sfC 97 base D cA cX0_planFull 6 RX0) (hr : meth.sig.returnType = none) (hR : 1 ≤ R.frames ∧ 21 ≤ R.locals) {res : cr_S} (σ : cr_S) (o2 : Nat) (a3 : Int32) (h : f_X0_planFull_70_1 σ o2 a3 = some res) : cr_W p l e R s m args below meth c sfC 97 base D cA 6 (MQ below (cr_Qv sfC 97 base D cA res) args s 0 0 (cr_A 97 base)) σ 0 [(0, .ref (base + 70)), (1, .ref (base + 1)), (2, .ref (base + o2)), (3, .int a3)] [] := by
  unfold f_X0_planFull_70_1 at h
  refine g_iload_n (pc' := 1) C dX0_planFull_0 3 rfl rfl ?_
  refine g_istore (pc' := 3) (lv' := [(4, .int a3), (0, .ref (base + 70)), (1, .ref (base + 1)), (2, .ref (base + o2)), (3, .int a3)]) C dX0_planFull_1 (by decide) rfl rfl ?_
  refine g_iconst (pc' := 4) (v := 0) C dX0_planFull_3 (by decide) rfl ?_
  refine g_istore (pc' := 6) (lv' := [(5, .int 0), (4, .int a3), (0, .ref (base + 70)), (1, .ref (base + 1)), (2, .ref (base + o2)), (3, .int a3)]) C dX0_planFull_4 (by decide) rfl rfl ?_
  exact g_sub C [2, 3, 4, 1, 0] rfl (w_X0_planFull_70_1_L6 C hr hR _ _ _ _ _ h)
theorem c_X0_planFull_70_1 (l : Launch) (base : Nat) (D : va_G) (cA : Nat → ClassId) (σ : cr_S) (o2 : Nat) (a3 : Int32) (res : cr_S) (h : f_X0_planFull_70_1 σ o2 a3 = some res) : cr_M l yX0_planFull cX0_planFull 6 none 1 21 sfC 97 base D cA [.ref (base + 70), .ref (base + 1), .ref (base + o2), .int a3] σ (cr_Qv sfC 97 base D cA res) := by
  refine cr_enter [.ref (base + 70), .ref (base + 1), .ref (base + o2), .int a3] [(0, .ref (base + 70)), (1, .ref (base + 1)), (2, .ref (base + o2)), (3, .int a3)] (by decide) (Nat.le_of_ble_eq_true rfl) rfl ?_
  intro p e R s m below meth c C hr hR
  exact w_X0_planFull_70_1 C hr hR σ o2 a3 h
noncomputable def f_X0_isThroughBy_70_1 (σ : cr_S) (a2 : Int32) (a3 : Int32) : Option (cr_S × Int32) :=
  chk (inb a2 6) (chk (inb a2 6) (chk (inb a2 6) (Option.bind (f_X3_firstShut σ (9 + a2.toNatClampNeg) (rA σ 72 a2) (rA σ 73 a2) a3) (fun q4 => chk (kC (9 + a2.toNatClampNeg) = 3) (chk (inb a2 6) (chk (isB (if q4.2 = (rA q4.1 73 a2) then 1 else 0)) (some (q4.1, if q4.2 = (rA q4.1 73 a2) then 1 else 0))))))))
set_option maxRecDepth 100000 in
set_option maxHeartbeats 4000000 in
theorem w_X0_isThroughBy_70_1 (C : cr_C p l e R s m args below meth c sfC 97 base D cA cX0_isThroughBy 4 RX0) (hr : meth.sig.returnType = some .boolean) (hR : 3 ≤ R.frames ∧ 68 ≤ R.locals) {res : cr_S × Int32} (σ : cr_S) (a2 : Int32) (a3 : Int32) (h : f_X0_isThroughBy_70_1 σ a2 a3 = some res) : cr_W p l e R s m args below meth c sfC 97 base D cA 4 (MQ below (cr_Qi sfC 97 base D cA res) args s 0 0 (cr_A 97 base)) σ 0 [(0, .ref (base + 70)), (1, .ref (base + 1)), (2, .int a2), (3, .int a3)] [] := by
  unfold f_X0_isThroughBy_70_1 at h
  refine g_aload_n (pc' := 1) C dX0_isThroughBy_0 1 rfl rfl ?_
  refine gg_X0_58 (pc' := 4) (o := 1) (r := 2) C rfl rfl dX0_isThroughBy_1 rfl ?_
  refine g_iload_n (pc' := 5) C dX0_isThroughBy_4 2 rfl rfl ?_
  obtain ⟨h1, h⟩ := chk_some h
  refine g_aald (pc' := 6) C (o := 2) (by decide) rfl (cn := "ClashRocks$Pair") rfl (inb_d h1) dX0_isThroughBy_5 rfl ?_
  refine g_aload_n (pc' := 7) C dX0_isThroughBy_6 0 rfl rfl ?_
  refine gg_X0_15 (pc' := 10) (o := 70) (r := 72) C rfl rfl dX0_isThroughBy_7 rfl ?_
  refine g_iload_n (pc' := 11) C dX0_isThroughBy_10 2 rfl rfl ?_
  obtain ⟨h2, h⟩ := chk_some h
  refine g_iald (pc' := 12) C (o := 72) (by decide) rfl (inb_d h2) dX0_isThroughBy_11 rfl ?_
  refine g_aload_n (pc' := 13) C dX0_isThroughBy_12 0 rfl rfl ?_
  refine gg_X0_18 (pc' := 16) (o := 70) (r := 73) C rfl rfl dX0_isThroughBy_13 rfl ?_
  refine g_iload_n (pc' := 17) C dX0_isThroughBy_16 2 rfl rfl ?_
  obtain ⟨h3, h⟩ := chk_some h
  refine g_iald (pc' := 18) C (o := 73) (by decide) rfl (inb_d h3) dX0_isThroughBy_17 rfl ?_
  refine g_iload_n (pc' := 19) C dX0_isThroughBy_18 3 rfl rfl ?_
  obtain ⟨q4, h5, h⟩ := bind_some h
  obtain ⟨h6, h⟩ := chk_some h
  refine g_callVi (pc' := 22) (res := q4) C [.int (rA σ 72 a2), .int (rA σ 73 a2), .int a3] cY_X3_firstShut rfl (o := 9 + a2.toNatClampNeg) (kC_lt h6 (by decide)) (sfC_3 h6) mv_X3_firstShut mm_X0_43 ⟨Nat.le_trans (by decide) hR.1, Nat.le_trans (by decide) hR.2⟩ rfl (Nat.le_of_ble_eq_true rfl) rfl dX0_isThroughBy_19 (c_X3_firstShut l base D cA σ (9 + a2.toNatClampNeg) (rA σ 72 a2) (rA σ 73 a2) a3 q4 h5) rfl ?_
  refine g_aload_n (pc' := 23) C dX0_isThroughBy_22 0 rfl rfl ?_
  refine gg_X0_18 (pc' := 26) (o := 70) (r := 73) C rfl rfl dX0_isThroughBy_23 rfl ?_
  refine g_iload_n (pc' := 27) C dX0_isThroughBy_26 2 rfl rfl ?_
  obtain ⟨h7, h⟩ := chk_some h
  refine g_iald (pc' := 28) C (o := 73) (by decide) rfl (inb_d h7) dX0_isThroughBy_27 rfl ?_
  refine g_iteI (σ := q4.1) (pj := 36) (lv := [(0, .ref (base + 70)), (1, .ref (base + 1)), (2, .int a2), (3, .int a3)]) (st := []) (cd := q4.2 = (rA q4.1 73 a2)) (a := 1) (b := 0) C ?_ (fun kt kf => ?_)
  · obtain ⟨h8, h⟩ := chk_some h
    exact g_zret C hr (isB_n h8) dX0_isThroughBy_36 h
  · refine g_icmp_ne (pc' := 31) (tgt := 35) C dX0_isThroughBy_28 (by decide) rfl (fun hc => ?_) (fun hc => ?_)
    · refine g_iconst (pc' := 36) (v := 0) C dX0_isThroughBy_35 (by decide) rfl ?_
      exact kf hc
    · refine g_iconst (pc' := 32) (v := 1) C dX0_isThroughBy_31 (by decide) rfl ?_
      refine g_goto (tgt := 36) C dX0_isThroughBy_32 (by decide) ?_
      exact kt hc
theorem c_X0_isThroughBy_70_1 (l : Launch) (base : Nat) (D : va_G) (cA : Nat → ClassId) (σ : cr_S) (a2 : Int32) (a3 : Int32) (res : cr_S × Int32) (h : f_X0_isThroughBy_70_1 σ a2 a3 = some res) : cr_M l yX0_isThroughBy cX0_isThroughBy 4 (some .boolean) 3 68 sfC 97 base D cA [.ref (base + 70), .ref (base + 1), .int a2, .int a3] σ (cr_Qi sfC 97 base D cA res) := by
  refine cr_enter [.ref (base + 70), .ref (base + 1), .int a2, .int a3] [(0, .ref (base + 70)), (1, .ref (base + 1)), (2, .int a2), (3, .int a3)] (by decide) (Nat.le_of_ble_eq_true rfl) rfl ?_
  intro p e R s m below meth c C hr hR
  exact w_X0_isThroughBy_70_1 C hr hR σ a2 a3 h
noncomputable def f_X0_isThrough_70_1 (σ : cr_S) (a2 : Int32) : Option (cr_S × Int32) :=
  chk (inb a2 6) (chk (kC (9 + a2.toNatClampNeg) = 3) (Option.bind (f_X0_isThroughBy_70_1 σ a2 (rF σ (9 + a2.toNatClampNeg) 4)) (fun q3 => chk (isB q3.2) (some (q3.1, q3.2)))))
set_option maxRecDepth 100000 in
set_option maxHeartbeats 4000000 in
theorem w_X0_isThrough_70_1 (C : cr_C p l e R s m args below meth c sfC 97 base D cA cX0_isThrough 3 RX0) (hr : meth.sig.returnType = some .boolean) (hR : 4 ≤ R.frames ∧ 91 ≤ R.locals) {res : cr_S × Int32} (σ : cr_S) (a2 : Int32) (h : f_X0_isThrough_70_1 σ a2 = some res) : cr_W p l e R s m args below meth c sfC 97 base D cA 3 (MQ below (cr_Qi sfC 97 base D cA res) args s 0 0 (cr_A 97 base)) σ 0 [(0, .ref (base + 70)), (1, .ref (base + 1)), (2, .int a2)] [] := by
  unfold f_X0_isThrough_70_1 at h
  refine g_aload_n (pc' := 1) C dX0_isThrough_0 0 rfl rfl ?_
  refine g_aload_n (pc' := 2) C dX0_isThrough_1 1 rfl rfl ?_
  refine g_iload_n (pc' := 3) C dX0_isThrough_2 2 rfl rfl ?_
  refine g_aload_n (pc' := 4) C dX0_isThrough_3 1 rfl rfl ?_
  refine gg_X0_58 (pc' := 7) (o := 1) (r := 2) C rfl rfl dX0_isThrough_4 rfl ?_
  refine g_iload_n (pc' := 8) C dX0_isThrough_7 2 rfl rfl ?_
  obtain ⟨h1, h⟩ := chk_some h
  refine g_aald (pc' := 9) C (o := 2) (by decide) rfl (cn := "ClashRocks$Pair") rfl (inb_d h1) dX0_isThrough_8 rfl ?_
  obtain ⟨h2, h⟩ := chk_some h
  refine gg_X0_40 (pc' := 12) (o := 9 + a2.toNatClampNeg) C h2 dX0_isThrough_9 rfl ?_
  obtain ⟨q3, h4, h⟩ := bind_some h
  refine g_callVi (pc' := 15) (res := q3) C [.ref (base + 1), .int a2, .int (rF σ (9 + a2.toNatClampNeg) 4)] cY_X0_isThroughBy rfl (o := 70) (by decide) rfl mv_X0_isThroughBy mm_X0_69 ⟨Nat.le_trans (by decide) hR.1, Nat.le_trans (by decide) hR.2⟩ rfl (Nat.le_of_ble_eq_true rfl) rfl dX0_isThrough_12 (c_X0_isThroughBy_70_1 l base D cA σ a2 (rF σ (9 + a2.toNatClampNeg) 4) q3 h4) rfl ?_
  obtain ⟨h5, h⟩ := chk_some h
  exact g_zret C hr (isB_n h5) dX0_isThrough_15 h
theorem c_X0_isThrough_70_1 (l : Launch) (base : Nat) (D : va_G) (cA : Nat → ClassId) (σ : cr_S) (a2 : Int32) (res : cr_S × Int32) (h : f_X0_isThrough_70_1 σ a2 = some res) : cr_M l yX0_isThrough cX0_isThrough 3 (some .boolean) 4 91 sfC 97 base D cA [.ref (base + 70), .ref (base + 1), .int a2] σ (cr_Qi sfC 97 base D cA res) := by
  refine cr_enter [.ref (base + 70), .ref (base + 1), .int a2] [(0, .ref (base + 70)), (1, .ref (base + 1)), (2, .int a2)] (by decide) (Nat.le_of_ble_eq_true rfl) rfl ?_
  intro p e R s m below meth c C hr hR
  exact w_X0_isThrough_70_1 C hr hR σ a2 h
noncomputable def f_X3_phaseBehind (σ : cr_S) (o0 : Nat) (a1 : Int32) : Option (cr_S × Int32) :=
  chk (kC o0 = 3) ((if (rF σ o0 2) ≤ 0 then chk (kC o0 = 3) (some (σ, rF σ o0 4)) else chk (kC o0 = 3) (chk (kC o0 = 3) (chk (kC o0 = 3) (chk (¬ (rF σ o0 2) = 0) (some (σ, (((rF σ o0 4) + (rF σ o0 2)) + a1) - (((rF σ o0 4) + (rF σ o0 2)) + a1) / (rF σ o0 2) * (rF σ o0 2))))))))
set_option maxRecDepth 100000 in
set_option maxHeartbeats 4000000 in
theorem w_X3_phaseBehind (C : cr_C p l e R s m args below meth c sfC 97 base D cA cX3_phaseBehind 2 RX3) (hr : meth.sig.returnType = some .int) (hR : 0 ≤ R.frames ∧ 0 ≤ R.locals) {res : cr_S × Int32} (σ : cr_S) (o0 : Nat) (a1 : Int32) (h : f_X3_phaseBehind σ o0 a1 = some res) : cr_W p l e R s m args below meth c sfC 97 base D cA 2 (MQ below (cr_Qi sfC 97 base D cA res) args s 0 0 (cr_A 97 base)) σ 0 [(0, .ref (base + o0)), (1, .int a1)] [] := by
  unfold f_X3_phaseBehind at h
  refine g_aload_n (pc' := 1) C dX3_phaseBehind_0 0 rfl rfl ?_
  obtain ⟨h1, h⟩ := chk_some h
  refine gg_X3_15 (pc' := 4) (o := o0) C h1 dX3_phaseBehind_1 rfl ?_
  refine g_if_le (pc' := 7) (tgt := 26) C dX3_phaseBehind_4 (by decide) rfl (fun hc => ?_) (fun hc => ?_)
  · rw [if_pos hc] at h
    refine g_aload_n (pc' := 27) C dX3_phaseBehind_26 0 rfl rfl ?_
    obtain ⟨h2, h⟩ := chk_some h
    refine gg_X3_24 (pc' := 30) (o := o0) C h2 dX3_phaseBehind_27 rfl ?_
    exact g_iret C hr dX3_phaseBehind_30 h
  · rw [if_neg hc] at h
    refine g_aload_n (pc' := 8) C dX3_phaseBehind_7 0 rfl rfl ?_
    obtain ⟨h3, h⟩ := chk_some h
    refine gg_X3_24 (pc' := 11) (o := o0) C h3 dX3_phaseBehind_8 rfl ?_
    refine g_aload_n (pc' := 12) C dX3_phaseBehind_11 0 rfl rfl ?_
    obtain ⟨h4, h⟩ := chk_some h
    refine gg_X3_15 (pc' := 15) (o := o0) C h4 dX3_phaseBehind_12 rfl ?_
    refine g_iadd (pc' := 16) C dX3_phaseBehind_15 rfl ?_
    refine g_iload_n (pc' := 17) C dX3_phaseBehind_16 1 rfl rfl ?_
    refine g_iadd (pc' := 18) C dX3_phaseBehind_17 rfl ?_
    refine g_aload_n (pc' := 19) C dX3_phaseBehind_18 0 rfl rfl ?_
    obtain ⟨h5, h⟩ := chk_some h
    refine gg_X3_15 (pc' := 22) (o := o0) C h5 dX3_phaseBehind_19 rfl ?_
    obtain ⟨h6, h⟩ := chk_some h
    refine g_irem (pc' := 23) C dX3_phaseBehind_22 h6 rfl ?_
    refine g_goto (tgt := 30) C dX3_phaseBehind_23 (by decide) ?_
    exact g_iret C hr dX3_phaseBehind_30 h
theorem c_X3_phaseBehind (l : Launch) (base : Nat) (D : va_G) (cA : Nat → ClassId) (σ : cr_S) (o0 : Nat) (a1 : Int32) (res : cr_S × Int32) (h : f_X3_phaseBehind σ o0 a1 = some res) : cr_M l yX3_phaseBehind cX3_phaseBehind 2 (some .int) 0 0 sfC 97 base D cA [.ref (base + o0), .int a1] σ (cr_Qi sfC 97 base D cA res) := by
  refine cr_enter [.ref (base + o0), .int a1] [(0, .ref (base + o0)), (1, .int a1)] (by decide) (Nat.le_of_ble_eq_true rfl) rfl ?_
  intro p e R s m below meth c C hr hR
  exact w_X3_phaseBehind C hr hR σ o0 a1 h
noncomputable def f_X0_fogWeight_70_1_L4  : Nat → cr_S → Int32 → Int32 → Option (cr_S × Int32)
  | 0, _, _, _ => none
  | n + 1, σ, x2, x3 =>
    (if (rF σ 1 5) ≤ x3 then some (σ, x2) else (if x2 ≤ 0 then some (σ, x2) else chk (inb x3 6) (Option.bind (f_X0_isThrough_70_1 σ x3) (fun q2 => Option.bind (f_X10_oneIf q2.1 q2.2) (fun q4 => Option.bind (f_X3_phaseBehind q4.1 (9 + x3.toNatClampNeg) (-1)) (fun q6 => chk (kC (9 + x3.toNatClampNeg) = 3) (Option.bind (f_X0_isThroughBy_70_1 q6.1 x3 q6.2) (fun q9 => Option.bind (f_X10_oneIf q9.1 q9.2) (fun q11 => Option.bind (f_X3_phaseBehind q11.1 (9 + x3.toNatClampNeg) 1) (fun q13 => chk (kC (9 + x3.toNatClampNeg) = 3) (Option.bind (f_X0_isThroughBy_70_1 q13.1 x3 q13.2) (fun q16 => Option.bind (f_X10_oneIf q16.1 q16.2) (fun q18 => cr_let (x2 * (((2 * q4.2) + q11.2) + q18.2)) (fun v20 => cr_let (x3 + 1) (fun v22 => f_X0_fogWeight_70_1_L4 n q18.1 v20 v22)))))))))))))))
set_option maxRecDepth 100000 in
set_option maxHeartbeats 4000000 in
theorem w_X0_fogWeight_70_1_L4 (C : cr_C p l e R s m args below meth c sfC 97 base D cA cX0_fogWeight 5 RX0) (hr : meth.sig.returnType = some .int) (hR : 5 ≤ R.frames ∧ 113 ≤ R.locals) {res : cr_S × Int32}  : ∀ (n : Nat) (σ : cr_S) (x2 : Int32) (x3 : Int32), f_X0_fogWeight_70_1_L4 n σ x2 x3 = some res → cr_W p l e R s m args below meth c sfC 97 base D cA 5 (MQ below (cr_Qi sfC 97 base D cA res) args s 0 0 (cr_A 97 base)) σ 4 [(0, .ref (base + 70)), (1, .ref (base + 1)), (2, .int x2), (3, .int x3)] [] := by
  intro n
  induction n with
  | zero =>
    intro σ x2 x3 h
    cases h
  | succ n ih =>
    intro σ x2 x3 h
    rw [f_X0_fogWeight_70_1_L4] at h
    refine g_iload_n (pc' := 5) C dX0_fogWeight_4 3 rfl rfl ?_
    refine g_aload_n (pc' := 6) C dX0_fogWeight_5 1 rfl rfl ?_
    refine gg_X0_53 (pc' := 9) (o := 1) C rfl dX0_fogWeight_6 rfl ?_
    refine g_icmp_ge (pc' := 12) (tgt := 76) C dX0_fogWeight_9 (by decide) rfl (fun hc => ?_) (fun hc => ?_)
    · rw [if_pos hc] at h
      refine g_iload_n (pc' := 77) C dX0_fogWeight_76 2 rfl rfl ?_
      exact g_iret C hr dX0_fogWeight_77 h
    · rw [if_neg hc] at h
      refine g_iload_n (pc' := 13) C dX0_fogWeight_12 2 rfl rfl ?_
      refine g_if_le (pc' := 16) (tgt := 76) C dX0_fogWeight_13 (by decide) rfl (fun hc => ?_) (fun hc => ?_)
      · rw [if_pos hc] at h
        refine g_iload_n (pc' := 77) C dX0_fogWeight_76 2 rfl rfl ?_
        exact g_iret C hr dX0_fogWeight_77 h
      · rw [if_neg hc] at h
        refine g_aload_n (pc' := 17) C dX0_fogWeight_16 1 rfl rfl ?_
        refine gg_X0_58 (pc' := 20) (o := 1) (r := 2) C rfl rfl dX0_fogWeight_17 rfl ?_
        refine g_iload_n (pc' := 21) C dX0_fogWeight_20 3 rfl rfl ?_
        obtain ⟨h1, h⟩ := chk_some h
        refine g_aald (pc' := 22) C (o := 2) (by decide) rfl (cn := "ClashRocks$Pair") rfl (inb_d h1) dX0_fogWeight_21 rfl ?_
        refine g_astore (pc' := 24) (lv' := [(4, .ref (base + (9 + x3.toNatClampNeg))), (0, .ref (base + 70)), (1, .ref (base + 1)), (2, .int x2), (3, .int x3)]) C dX0_fogWeight_22 (by decide) rfl rfl ?_
        refine g_iload_n (pc' := 25) C dX0_fogWeight_24 3 rfl rfl ?_
        refine g_iconst (pc' := 26) (v := 2) C dX0_fogWeight_25 (by decide) rfl ?_
        refine g_aload_n (pc' := 27) C dX0_fogWeight_26 1 rfl rfl ?_
        refine g_aload_n (pc' := 28) C dX0_fogWeight_27 2 rfl rfl ?_
        refine g_iload_n (pc' := 29) C dX0_fogWeight_28 4 rfl rfl ?_
        obtain ⟨q2, h3, h⟩ := bind_some h
        refine g_callVi (pc' := 32) (res := q2) C [.ref (base + 1), .int x3] cY_X0_isThrough rfl (o := 70) (by decide) rfl mv_X0_isThrough mm_X0_73 ⟨Nat.le_trans (by decide) hR.1, Nat.le_trans (by decide) hR.2⟩ rfl (Nat.le_of_ble_eq_true rfl) rfl dX0_fogWeight_29 (c_X0_isThrough_70_1 l base D cA σ x3 q2 h3) rfl ?_
        obtain ⟨q4, h5, h⟩ := bind_some h
        refine g_callNi (pc' := 35) (res := q4) C [.int q2.2] cY_X10_oneIf mv_X10_oneIf mn_X0_77 ⟨Nat.le_trans (by decide) hR.1, Nat.le_trans (by decide) hR.2⟩ rfl (Nat.le_of_ble_eq_true rfl) rfl dX0_fogWeight_32 (c_X10_oneIf l base D cA q2.1 q2.2 q4 h5) rfl ?_
        refine g_imul (pc' := 36) C dX0_fogWeight_35 rfl ?_
        refine g_aload_n (pc' := 37) C dX0_fogWeight_36 1 rfl rfl ?_
        refine g_aload_n (pc' := 38) C dX0_fogWeight_37 2 rfl rfl ?_
        refine g_iload_n (pc' := 39) C dX0_fogWeight_38 4 rfl rfl ?_
        refine g_aload (pc' := 41) C dX0_fogWeight_39 0 rfl rfl ?_
        refine g_iconst (pc' := 42) (v := (-1)) C dX0_fogWeight_41 (by decide) rfl ?_
        obtain ⟨q6, h7, h⟩ := bind_some h
        obtain ⟨h8, h⟩ := chk_some h
        refine g_callVi (pc' := 45) (res := q6) C [.int (-1)] cY_X3_phaseBehind rfl (o := 9 + x3.toNatClampNeg) (kC_lt h8 (by decide)) (sfC_3 h8) mv_X3_phaseBehind mm_X0_81 ⟨Nat.le_trans (by decide) hR.1, Nat.le_trans (by decide) hR.2⟩ rfl (Nat.le_of_ble_eq_true rfl) rfl dX0_fogWeight_42 (c_X3_phaseBehind l base D cA q4.1 (9 + x3.toNatClampNeg) (-1) q6 h7) rfl ?_
        obtain ⟨q9, h10, h⟩ := bind_some h
        refine g_callVi (pc' := 48) (res := q9) C [.ref (base + 1), .int x3, .int q6.2] cY_X0_isThroughBy rfl (o := 70) (by decide) rfl mv_X0_isThroughBy mm_X0_69 ⟨Nat.le_trans (by decide) hR.1, Nat.le_trans (by decide) hR.2⟩ rfl (Nat.le_of_ble_eq_true rfl) rfl dX0_fogWeight_45 (c_X0_isThroughBy_70_1 l base D cA q6.1 x3 q6.2 q9 h10) rfl ?_
        obtain ⟨q11, h12, h⟩ := bind_some h
        refine g_callNi (pc' := 51) (res := q11) C [.int q9.2] cY_X10_oneIf mv_X10_oneIf mn_X0_77 ⟨Nat.le_trans (by decide) hR.1, Nat.le_trans (by decide) hR.2⟩ rfl (Nat.le_of_ble_eq_true rfl) rfl dX0_fogWeight_48 (c_X10_oneIf l base D cA q9.1 q9.2 q11 h12) rfl ?_
        refine g_iadd (pc' := 52) C dX0_fogWeight_51 rfl ?_
        refine g_aload_n (pc' := 53) C dX0_fogWeight_52 1 rfl rfl ?_
        refine g_aload_n (pc' := 54) C dX0_fogWeight_53 2 rfl rfl ?_
        refine g_iload_n (pc' := 55) C dX0_fogWeight_54 4 rfl rfl ?_
        refine g_aload (pc' := 57) C dX0_fogWeight_55 0 rfl rfl ?_
        refine g_iconst (pc' := 58) (v := 1) C dX0_fogWeight_57 (by decide) rfl ?_
        obtain ⟨q13, h14, h⟩ := bind_some h
        obtain ⟨h15, h⟩ := chk_some h
        refine g_callVi (pc' := 61) (res := q13) C [.int 1] cY_X3_phaseBehind rfl (o := 9 + x3.toNatClampNeg) (kC_lt h15 (by decide)) (sfC_3 h15) mv_X3_phaseBehind mm_X0_81 ⟨Nat.le_trans (by decide) hR.1, Nat.le_trans (by decide) hR.2⟩ rfl (Nat.le_of_ble_eq_true rfl) rfl dX0_fogWeight_58 (c_X3_phaseBehind l base D cA q11.1 (9 + x3.toNatClampNeg) 1 q13 h14) rfl ?_
        obtain ⟨q16, h17, h⟩ := bind_some h
        refine g_callVi (pc' := 64) (res := q16) C [.ref (base + 1), .int x3, .int q13.2] cY_X0_isThroughBy rfl (o := 70) (by decide) rfl mv_X0_isThroughBy mm_X0_69 ⟨Nat.le_trans (by decide) hR.1, Nat.le_trans (by decide) hR.2⟩ rfl (Nat.le_of_ble_eq_true rfl) rfl dX0_fogWeight_61 (c_X0_isThroughBy_70_1 l base D cA q13.1 x3 q13.2 q16 h17) rfl ?_
        obtain ⟨q18, h19, h⟩ := bind_some h
        refine g_callNi (pc' := 67) (res := q18) C [.int q16.2] cY_X10_oneIf mv_X10_oneIf mn_X0_77 ⟨Nat.le_trans (by decide) hR.1, Nat.le_trans (by decide) hR.2⟩ rfl (Nat.le_of_ble_eq_true rfl) rfl dX0_fogWeight_64 (c_X10_oneIf l base D cA q16.1 q16.2 q18 h19) rfl ?_
        refine g_iadd (pc' := 68) C dX0_fogWeight_67 rfl ?_
        refine g_imul (pc' := 69) C dX0_fogWeight_68 rfl ?_
        obtain ⟨v20, e21, h⟩ := let_some h
        refine g_nameI e21 ?_
        refine g_istore_n (pc' := 70) (lv' := [(2, .int v20), (4, .ref (base + (9 + x3.toNatClampNeg))), (0, .ref (base + 70)), (1, .ref (base + 1)), (3, .int x3)]) C dX0_fogWeight_69 rfl (by decide) rfl rfl ?_
        obtain ⟨v22, e23, h⟩ := let_some h
        refine g_iinc (pc' := 73) (v := v22) (lv' := [(3, .int v22), (2, .int v20), (4, .ref (base + (9 + x3.toNatClampNeg))), (0, .ref (base + 70)), (1, .ref (base + 1))]) C dX0_fogWeight_70 4 rfl (by rw [e23]; rfl) (by decide) rfl rfl ?_
        refine g_goto (tgt := 4) C dX0_fogWeight_73 (by decide) ?_
        exact g_sub C [3, 4, 1, 0] rfl (ih _ _ _ h)
noncomputable def f_X0_fogWeight_70_1 (σ : cr_S) : Option (cr_S × Int32) :=
  f_X0_fogWeight_70_1_L4 cr_fuel σ 1 0
set_option maxRecDepth 100000 in
set_option maxHeartbeats 4000000 in
theorem w_X0_fogWeight_70_1 (C : cr_C p l e R s m args below meth c sfC 97 base D cA cX0_fogWeight 5 RX0) (hr : meth.sig.returnType = some .int) (hR : 5 ≤ R.frames ∧ 113 ≤ R.locals) {res : cr_S × Int32} (σ : cr_S) (h : f_X0_fogWeight_70_1 σ = some res) : cr_W p l e R s m args below meth c sfC 97 base D cA 5 (MQ below (cr_Qi sfC 97 base D cA res) args s 0 0 (cr_A 97 base)) σ 0 [(0, .ref (base + 70)), (1, .ref (base + 1))] [] := by
  unfold f_X0_fogWeight_70_1 at h
  refine g_iconst (pc' := 1) (v := 1) C dX0_fogWeight_0 (by decide) rfl ?_
  refine g_istore_n (pc' := 2) (lv' := [(2, .int 1), (0, .ref (base + 70)), (1, .ref (base + 1))]) C dX0_fogWeight_1 rfl (by decide) rfl rfl ?_
  refine g_iconst (pc' := 3) (v := 0) C dX0_fogWeight_2 (by decide) rfl ?_
  refine g_istore_n (pc' := 4) (lv' := [(3, .int 0), (2, .int 1), (0, .ref (base + 70)), (1, .ref (base + 1))]) C dX0_fogWeight_3 rfl (by decide) rfl rfl ?_
  exact g_sub C [2, 3, 1, 0] rfl (w_X0_fogWeight_70_1_L4 C hr hR _ _ _ _ h)
theorem c_X0_fogWeight_70_1 (l : Launch) (base : Nat) (D : va_G) (cA : Nat → ClassId) (σ : cr_S) (res : cr_S × Int32) (h : f_X0_fogWeight_70_1 σ = some res) : cr_M l yX0_fogWeight cX0_fogWeight 5 (some .int) 5 113 sfC 97 base D cA [.ref (base + 70), .ref (base + 1)] σ (cr_Qi sfC 97 base D cA res) := by
  refine cr_enter [.ref (base + 70), .ref (base + 1)] [(0, .ref (base + 70)), (1, .ref (base + 1))] (by decide) (Nat.le_of_ble_eq_true rfl) rfl ?_
  intro p e R s m below meth c C hr hR
  exact w_X0_fogWeight_70_1 C hr hR σ h
noncomputable def f_X10_fog_B102  (σ : cr_S) (x3 : Int32) (x4 : Int32) (x5 : Int32) : Option (cr_S × Int32) :=
  some (σ, if x3 = 0 then x4 else x5)
set_option maxRecDepth 100000 in
set_option maxHeartbeats 4000000 in
theorem w_X10_fog_B102 (C : cr_C p l e R s m args below meth c sfC 97 base D cA cX10_fog 6 RX10) (hr : meth.sig.returnType = some .int) (hR : 6 ≤ R.frames ∧ 137 ≤ R.locals) {res : cr_S × Int32}  (σ : cr_S) (x3 : Int32) (x4 : Int32) (x5 : Int32) (h : f_X10_fog_B102 σ x3 x4 x5 = some res) : cr_W p l e R s m args below meth c sfC 97 base D cA 6 (MQ below (cr_Qi sfC 97 base D cA res) args s 0 0 (cr_A 97 base)) σ 102 [(3, .int x3), (4, .int x4), (5, .int x5)] [] := by
  unfold f_X10_fog_B102 at h
  refine g_iload_n (pc' := 103) C dX10_fog_102 0 rfl rfl ?_
  refine g_iteI (σ := σ) (pj := 113) (lv := [(3, .int x3), (4, .int x4), (5, .int x5)]) (st := []) (cd := x3 = 0) (a := x4) (b := x5) C ?_ (fun kt kf => ?_)
  · exact g_iret C hr dX10_fog_113 h
  · refine g_if_ne (pc' := 106) (tgt := 111) C dX10_fog_103 (by decide) rfl (fun hc => ?_) (fun hc => ?_)
    · refine g_iload (pc' := 113) C dX10_fog_111 2 rfl rfl ?_
      exact kf hc
    · refine g_iload (pc' := 108) C dX10_fog_106 1 rfl rfl ?_
      refine g_goto (tgt := 113) C dX10_fog_108 (by decide) ?_
      exact kt hc
noncomputable def f_X10_fog_L74  : Nat → cr_S → Int32 → Int32 → Int32 → Option (cr_S × Int32)
  | 0, _, _, _, _ => none
  | n + 1, σ, x3, x4, x5 =>
    (if (x4 - x4 / 2 * 2) = 0 then (if x5 ≤ 1 then f_X10_fog_B102 σ x3 x4 x5 else cr_let (x4 / 2) (fun v14 => cr_let (x5 / 2) (fun v16 => f_X10_fog_L74 n σ x3 v14 v16))) else f_X10_fog_B102 σ x3 x4 x5)
set_option maxRecDepth 100000 in
set_option maxHeartbeats 4000000 in
theorem w_X10_fog_L74 (C : cr_C p l e R s m args below meth c sfC 97 base D cA cX10_fog 6 RX10) (hr : meth.sig.returnType = some .int) (hR : 6 ≤ R.frames ∧ 137 ≤ R.locals) {res : cr_S × Int32}  : ∀ (n : Nat) (σ : cr_S) (x3 : Int32) (x4 : Int32) (x5 : Int32), f_X10_fog_L74 n σ x3 x4 x5 = some res → cr_W p l e R s m args below meth c sfC 97 base D cA 6 (MQ below (cr_Qi sfC 97 base D cA res) args s 0 0 (cr_A 97 base)) σ 74 [(3, .int x3), (4, .int x4), (5, .int x5)] [] := by
  intro n
  induction n with
  | zero =>
    intro σ x3 x4 x5 h
    cases h
  | succ n ih =>
    intro σ x3 x4 x5 h
    rw [f_X10_fog_L74] at h
    refine g_iload (pc' := 76) C dX10_fog_74 1 rfl rfl ?_
    refine g_iconst (pc' := 77) (v := 2) C dX10_fog_76 (by decide) rfl ?_
    refine g_irem (pc' := 78) C dX10_fog_77 (by decide) rfl ?_
    refine g_if_ne (pc' := 81) (tgt := 102) C dX10_fog_78 (by decide) rfl (fun hc => ?_) (fun hc => ?_)
    · rw [if_neg hc] at h
      exact g_sub C [0, 1, 2] rfl (w_X10_fog_B102 C hr hR _ _ _ _ h)
    · rw [if_pos hc] at h
      refine g_iload (pc' := 83) C dX10_fog_81 2 rfl rfl ?_
      refine g_iconst (pc' := 84) (v := 1) C dX10_fog_83 (by decide) rfl ?_
      refine g_icmp_le (pc' := 87) (tgt := 102) C dX10_fog_84 (by decide) rfl (fun hc => ?_) (fun hc => ?_)
      · rw [if_pos hc] at h
        exact g_sub C [0, 1, 2] rfl (w_X10_fog_B102 C hr hR _ _ _ _ h)
      · rw [if_neg hc] at h
        refine g_iload (pc' := 89) C dX10_fog_87 1 rfl rfl ?_
        refine g_iconst (pc' := 90) (v := 2) C dX10_fog_89 (by decide) rfl ?_
        refine g_idiv (pc' := 91) C dX10_fog_90 (by decide) rfl ?_
        obtain ⟨v14, e15, h⟩ := let_some h
        refine g_nameI e15 ?_
        refine g_istore (pc' := 93) (lv' := [(4, .int v14), (3, .int x3), (5, .int x5)]) C dX10_fog_91 (by decide) rfl rfl ?_
        refine g_iload (pc' := 95) C dX10_fog_93 2 rfl rfl ?_
        refine g_iconst (pc' := 96) (v := 2) C dX10_fog_95 (by decide) rfl ?_
        refine g_idiv (pc' := 97) C dX10_fog_96 (by decide) rfl ?_
        obtain ⟨v16, e17, h⟩ := let_some h
        refine g_nameI e17 ?_
        refine g_istore (pc' := 99) (lv' := [(5, .int v16), (4, .int v14), (3, .int x3)]) C dX10_fog_97 (by decide) rfl rfl ?_
        refine g_goto (tgt := 74) C dX10_fog_99 (by decide) ?_
        exact g_sub C [2, 1, 0] rfl (ih _ _ _ _ h)
noncomputable def f_X10_fog (σ : cr_S) (a1 : Int32) (a2 : Int32) (a3 : Int32) : Option (cr_S × Int32) :=
  Option.bind (f_X10_isBegin σ a1 a2) (fun q1 => (if q1.2 = 0 then some (q1.1, (-1)) else Option.bind (f_X10_isWithin q1.1 a3 0 1) (fun q3 => (if q3.2 = 0 then some (q3.1, (-1)) else chk (inb a1 5) (Option.bind (f_X0_planFull_70_1 q3.1 (15 + a1.toNatClampNeg) a2) (fun q6 => Option.bind (f_X0_fogWeight_70_1 q6) (fun q8 => cr_let q8.2 (fun v10 => (if v10 = 0 then some (q8.1, a3) else cr_let (1 <<< ((2 * (rF q8.1 1 5)) &&& 31)) (fun v12 => f_X10_fog_L74 cr_fuel q8.1 a3 v10 v12))))))))))
set_option maxRecDepth 100000 in
set_option maxHeartbeats 4000000 in
theorem w_X10_fog (C : cr_C p l e R s m args below meth c sfC 97 base D cA cX10_fog 6 RX10) (hr : meth.sig.returnType = some .int) (hR : 6 ≤ R.frames ∧ 137 ≤ R.locals) {res : cr_S × Int32} (σ : cr_S) (a1 : Int32) (a2 : Int32) (a3 : Int32) (h : f_X10_fog σ a1 a2 a3 = some res) : cr_W p l e R s m args below meth c sfC 97 base D cA 6 (MQ below (cr_Qi sfC 97 base D cA res) args s 0 0 (cr_A 97 base)) σ 0 [(0, .ref (base + 0)), (1, .int a1), (2, .int a2), (3, .int a3)] [] := by
  unfold f_X10_fog at h
  refine g_aload_n (pc' := 1) C dX10_fog_0 0 rfl rfl ?_
  refine g_iload_n (pc' := 2) C dX10_fog_1 1 rfl rfl ?_
  refine g_iload_n (pc' := 3) C dX10_fog_2 2 rfl rfl ?_
  obtain ⟨q1, h2, h⟩ := bind_some h
  refine g_callVi (pc' := 6) (res := q1) C [.int a1, .int a2] cY_X10_isBegin rfl (o := 0) (by decide) rfl mv_X10_isBegin mm_X10_210 ⟨Nat.le_trans (by decide) hR.1, Nat.le_trans (by decide) hR.2⟩ rfl (Nat.le_of_ble_eq_true rfl) rfl dX10_fog_3 (c_X10_isBegin l base D cA σ a1 a2 q1 h2) rfl ?_
  refine g_if_eq (pc' := 9) (tgt := 18) C dX10_fog_6 (by decide) rfl (fun hc => ?_) (fun hc => ?_)
  · rw [if_pos hc] at h
    refine g_iconst (pc' := 19) (v := (-1)) C dX10_fog_18 (by decide) rfl ?_
    exact g_iret C hr dX10_fog_19 h
  · rw [if_neg hc] at h
    refine g_iload_n (pc' := 10) C dX10_fog_9 3 rfl rfl ?_
    refine g_iconst (pc' := 11) (v := 0) C dX10_fog_10 (by decide) rfl ?_
    refine g_iconst (pc' := 12) (v := 1) C dX10_fog_11 (by decide) rfl ?_
    obtain ⟨q3, h4, h⟩ := bind_some h
    refine g_callSi (pc' := 15) (res := q3) C [.int a3, .int 0, .int 1] cY_X10_isWithin mv_X10_isWithin mm_X10_54 ⟨Nat.le_trans (by decide) hR.1, Nat.le_trans (by decide) hR.2⟩ rfl (Nat.le_of_ble_eq_true rfl) rfl dX10_fog_12 (c_X10_isWithin l base D cA q1.1 a3 0 1 q3 h4) rfl ?_
    refine g_if_ne (pc' := 18) (tgt := 20) C dX10_fog_15 (by decide) rfl (fun hc => ?_) (fun hc => ?_)
    · rw [if_neg hc] at h
      refine g_aload_n (pc' := 21) C dX10_fog_20 0 rfl rfl ?_
      refine gg_X10_29 (pc' := 24) (o := 0) (r := 70) C rfl rfl dX10_fog_21 rfl ?_
      refine g_aload_n (pc' := 25) C dX10_fog_24 0 rfl rfl ?_
      refine gg_X10_12 (pc' := 28) (o := 0) (r := 1) C rfl rfl dX10_fog_25 rfl ?_
      refine g_aload_n (pc' := 29) C dX10_fog_28 0 rfl rfl ?_
      refine gg_X10_12 (pc' := 32) (o := 0) (r := 1) C rfl rfl dX10_fog_29 rfl ?_
      refine gg_X10_85 (pc' := 35) (o := 1) (r := 3) C rfl rfl dX10_fog_32 rfl ?_
      refine g_iload_n (pc' := 36) C dX10_fog_35 1 rfl rfl ?_
      obtain ⟨h5, h⟩ := chk_some h
      refine g_aald (pc' := 37) C (o := 3) (by decide) rfl (cn := "ClashRocks$Ship") rfl (inb_d h5) dX10_fog_36 rfl ?_
      refine g_iload_n (pc' := 38) C dX10_fog_37 2 rfl rfl ?_
      obtain ⟨q6, h7, h⟩ := bind_some h
      refine g_callVv (pc' := 41) (res := q6) C [.ref (base + 1), .ref (base + (15 + a1.toNatClampNeg)), .int a2] cY_X0_planFull rfl (o := 70) (by decide) rfl mv_X0_planFull mm_X10_232 ⟨Nat.le_trans (by decide) hR.1, Nat.le_trans (by decide) hR.2⟩ rfl (Nat.le_of_ble_eq_true rfl) rfl dX10_fog_38 (c_X0_planFull_70_1 l base D cA q3.1 (15 + a1.toNatClampNeg) a2 q6 h7) rfl ?_
      refine g_aload_n (pc' := 42) C dX10_fog_41 0 rfl rfl ?_
      refine gg_X10_29 (pc' := 45) (o := 0) (r := 70) C rfl rfl dX10_fog_42 rfl ?_
      refine g_aload_n (pc' := 46) C dX10_fog_45 0 rfl rfl ?_
      refine gg_X10_12 (pc' := 49) (o := 0) (r := 1) C rfl rfl dX10_fog_46 rfl ?_
      obtain ⟨q8, h9, h⟩ := bind_some h
      refine g_callVi (pc' := 52) (res := q8) C [.ref (base + 1)] cY_X0_fogWeight rfl (o := 70) (by decide) rfl mv_X0_fogWeight mm_X10_235 ⟨Nat.le_trans (by decide) hR.1, Nat.le_trans (by decide) hR.2⟩ rfl (Nat.le_of_ble_eq_true rfl) rfl dX10_fog_49 (c_X0_fogWeight_70_1 l base D cA q6 q8 h9) rfl ?_
      obtain ⟨v10, e11, h⟩ := let_some h
      refine g_nameI e11 ?_
      refine g_istore (pc' := 54) (lv' := [(4, .int v10), (0, .ref (base + 0)), (1, .int a1), (2, .int a2), (3, .int a3)]) C dX10_fog_52 (by decide) rfl rfl ?_
      refine g_iload (pc' := 56) C dX10_fog_54 0 rfl rfl ?_
      refine g_if_ne (pc' := 59) (tgt := 61) C dX10_fog_56 (by decide) rfl (fun hc => ?_) (fun hc => ?_)
      · rw [if_neg hc] at h
        refine g_iconst (pc' := 62) (v := 1) C dX10_fog_61 (by decide) rfl ?_
        refine g_iconst (pc' := 63) (v := 2) C dX10_fog_62 (by decide) rfl ?_
        refine g_aload_n (pc' := 64) C dX10_fog_63 1 rfl rfl ?_
        refine gg_X10_12 (pc' := 67) (o := 0) (r := 1) C rfl rfl dX10_fog_64 rfl ?_
        refine gg_X10_58 (pc' := 70) (o := 1) C rfl dX10_fog_67 rfl ?_
        refine g_imul (pc' := 71) C dX10_fog_70 rfl ?_
        refine g_ishl (pc' := 72) C dX10_fog_71 rfl ?_
        obtain ⟨v12, e13, h⟩ := let_some h
        refine g_nameI e13 ?_
        refine g_istore (pc' := 74) (lv' := [(5, .int v12), (4, .int v10), (0, .ref (base + 0)), (1, .int a1), (2, .int a2), (3, .int a3)]) C dX10_fog_72 (by decide) rfl rfl ?_
        exact g_sub C [5, 1, 0] rfl (w_X10_fog_L74 C hr hR _ _ _ _ _ h)
      · rw [if_pos hc] at h
        refine g_iload_n (pc' := 60) C dX10_fog_59 4 rfl rfl ?_
        exact g_iret C hr dX10_fog_60 h
    · rw [if_pos hc] at h
      refine g_iconst (pc' := 19) (v := (-1)) C dX10_fog_18 (by decide) rfl ?_
      exact g_iret C hr dX10_fog_19 h
theorem c_X10_fog (l : Launch) (base : Nat) (D : va_G) (cA : Nat → ClassId) (σ : cr_S) (a1 : Int32) (a2 : Int32) (a3 : Int32) (res : cr_S × Int32) (h : f_X10_fog σ a1 a2 a3 = some res) : cr_M l yX10_fog cX10_fog 6 (some .int) 6 137 sfC 97 base D cA [.ref (base + 0), .int a1, .int a2, .int a3] σ (cr_Qi sfC 97 base D cA res) := by
  refine cr_enter [.ref (base + 0), .int a1, .int a2, .int a3] [(0, .ref (base + 0)), (1, .int a1), (2, .int a2), (3, .int a3)] (by decide) (Nat.le_of_ble_eq_true rfl) rfl ?_
  intro p e R s m below meth c C hr hR
  exact w_X10_fog C hr hR σ a1 a2 a3 h
end

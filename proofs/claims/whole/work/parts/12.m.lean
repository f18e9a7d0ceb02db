section
variable {p : Program} {l : Launch} {e : Env} {R : Room} {s : State} {m : MethodId} {args : Array Value} {below : List Frame} {meth : Method} {c : Code} {base : Nat} {D : va_G} {cA : Nat → ClassId}
noncomputable def f_X11_readShip (σ : cr_S) : Option (cr_S) :=
  cr_let (3 * (rF σ 0 18)) (fun v1 => Option.bind (f_X11_letter σ 80 84 66 76) (fun q3 => chk (inb v1 15) (cr_let (sA q3.1 7 v1 q3.2) (fun s6 => Option.bind (f_X11_digit s6 9) (fun q8 => chk (inb (v1 + 1) 15) (cr_let (sA q8.1 7 (v1 + 1) q8.2) (fun s11 => Option.bind (f_X11_digit s11 5) (fun q13 => chk (inb (v1 + 2) 15) (cr_let (sA q13.1 7 (v1 + 2) q13.2) (fun s16 => cr_let (sF s16 0 18 ((rF s16 0 18) + 1)) (fun s18 => some s18)))))))))))
set_option maxRecDepth 100000 in
set_option maxHeartbeats 4000000 in
theorem w_X11_readShip (C : cr_C p l e R s m args below meth c sfM 17 base D cA cX11_readShip 2 RX11) (hr : meth.sig.returnType = none) (hR : 2 ≤ R.frames ∧ 47 ≤ R.locals) {res : cr_S} (σ : cr_S) (h : f_X11_readShip σ = some res) : cr_W p l e R s m args below meth c sfM 17 base D cA 2 (MQ below (cr_Qv sfM 17 base D cA res) args s 0 0 (cr_A 17 base)) σ 0 [(0, .ref (base + 0))] [] := by
  unfold f_X11_readShip at h
  refine g_iconst (pc' := 1) (v := 3) C dX11_readShip_0 (by decide) rfl ?_
  refine g_aload_n (pc' := 2) C dX11_readShip_1 0 rfl rfl ?_
  refine gg_X11_185 (pc' := 5) C dX11_readShip_2 rfl ?_
  refine g_imul (pc' := 6) C dX11_readShip_5 rfl ?_
  obtain ⟨v1, e2, h⟩ := let_some h
  refine g_nameI e2 ?_
  refine g_istore_n (pc' := 7) (lv' := [(1, .int v1), (0, .ref (base + 0))]) C dX11_readShip_6 rfl (by decide) rfl rfl ?_
  refine g_aload_n (pc' := 8) C dX11_readShip_7 1 rfl rfl ?_
  refine gg_X11_32 (pc' := 11) C dX11_readShip_8 rfl ?_
  refine g_iload_n (pc' := 12) C dX11_readShip_11 0 rfl rfl ?_
  refine g_aload_n (pc' := 13) C dX11_readShip_12 1 rfl rfl ?_
  refine g_bipush (pc' := 15) (v := 80) C dX11_readShip_13 (by decide) rfl ?_
  refine g_bipush (pc' := 17) (v := 84) C dX11_readShip_15 (by decide) rfl ?_
  refine g_bipush (pc' := 19) (v := 66) C dX11_readShip_17 (by decide) rfl ?_
  refine g_bipush (pc' := 21) (v := 76) C dX11_readShip_19 (by decide) rfl ?_
  obtain ⟨q3, h4, h⟩ := bind_some h
  refine g_callVi (pc' := 24) (res := q3) C [.int 80, .int 84, .int 66, .int 76] cY_X11_letter rfl (o := 0) (by decide) rfl mv_X11_letter mm_X11_174 ⟨Nat.le_trans (by decide) hR.1, Nat.le_trans (by decide) hR.2⟩ rfl (Nat.le_of_ble_eq_true rfl) rfl dX11_readShip_21 (c_X11_letter l base D cA σ 80 84 66 76 q3 h4) rfl ?_
  obtain ⟨h5, h⟩ := chk_some h
  obtain ⟨s6, e7, h⟩ := let_some h
  refine g_iast (pc' := 25) C (o := 7) (by decide) rfl (inb_d h5) dX11_readShip_24 rfl e7 ?_
  refine g_aload_n (pc' := 26) C dX11_readShip_25 1 rfl rfl ?_
  refine gg_X11_32 (pc' := 29) C dX11_readShip_26 rfl ?_
  refine g_iload_n (pc' := 30) C dX11_readShip_29 0 rfl rfl ?_
  refine g_iconst (pc' := 31) (v := 1) C dX11_readShip_30 (by decide) rfl ?_
  refine g_iadd (pc' := 32) C dX11_readShip_31 rfl ?_
  refine g_aload_n (pc' := 33) C dX11_readShip_32 1 rfl rfl ?_
  refine g_bipush (pc' := 35) (v := 9) C dX11_readShip_33 (by decide) rfl ?_
  obtain ⟨q8, h9, h⟩ := bind_some h
  refine g_callVi (pc' := 38) (res := q8) C [.int 9] cY_X11_digit rfl (o := 0) (by decide) rfl mv_X11_digit mm_X11_188 ⟨Nat.le_trans (by decide) hR.1, Nat.le_trans (by decide) hR.2⟩ rfl (Nat.le_of_ble_eq_true rfl) rfl dX11_readShip_35 (c_X11_digit l base D cA s6 9 q8 h9) rfl ?_
  obtain ⟨h10, h⟩ := chk_some h
  obtain ⟨s11, e12, h⟩ := let_some h
  refine g_iast (pc' := 39) C (o := 7) (by decide) rfl (inb_d h10) dX11_readShip_38 rfl e12 ?_
  refine g_aload_n (pc' := 40) C dX11_readShip_39 1 rfl rfl ?_
  refine gg_X11_32 (pc' := 43) C dX11_readShip_40 rfl ?_
  refine g_iload_n (pc' := 44) C dX11_readShip_43 0 rfl rfl ?_
  refine g_iconst (pc' := 45) (v := 2) C dX11_readShip_44 (by decide) rfl ?_
  refine g_iadd (pc' := 46) C dX11_readShip_45 rfl ?_
  refine g_aload_n (pc' := 47) C dX11_readShip_46 1 rfl rfl ?_
  refine g_iconst (pc' := 48) (v := 5) C dX11_readShip_47 (by decide) rfl ?_
  obtain ⟨q13, h14, h⟩ := bind_some h
  refine g_callVi (pc' := 51) (res := q13) C [.int 5] cY_X11_digit rfl (o := 0) (by decide) rfl mv_X11_digit mm_X11_188 ⟨Nat.le_trans (by decide) hR.1, Nat.le_trans (by decide) hR.2⟩ rfl (Nat.le_of_ble_eq_true rfl) rfl dX11_readShip_48 (c_X11_digit l base D cA s11 5 q13 h14) rfl ?_
  obtain ⟨h15, h⟩ := chk_some h
  obtain ⟨s16, e17, h⟩ := let_some h
  refine g_iast (pc' := 52) C (o := 7) (by decide) rfl (inb_d h15) dX11_readShip_51 rfl e17 ?_
  refine g_aload_n (pc' := 53) C dX11_readShip_52 1 rfl rfl ?_
  refine g_dup (pc' := 54) C dX11_readShip_53 rfl rfl ?_
  refine gg_X11_185 (pc' := 57) C dX11_readShip_54 rfl ?_
  refine g_iconst (pc' := 58) (v := 1) C dX11_readShip_57 (by decide) rfl ?_
  refine g_iadd (pc' := 59) C dX11_readShip_58 rfl ?_
  obtain ⟨s18, e19, h⟩ := let_some h
  refine gp_X11_185 (pc' := 62) C dX11_readShip_59 rfl e19 ?_
  exact g_vret C hr dX11_readShip_62 h
theorem c_X11_readShip (l : Launch) (base : Nat) (D : va_G) (cA : Nat → ClassId) (σ : cr_S) (res : cr_S) (h : f_X11_readShip σ = some res) : cr_M l yX11_readShip cX11_readShip 2 none 2 47 sfM 17 base D cA [.ref (base + 0)] σ (cr_Qv sfM 17 base D cA res) := by
  refine cr_enter [.ref (base + 0)] [(0, .ref (base + 0))] (by decide) (Nat.le_of_ble_eq_true rfl) rfl ?_
  intro p e R s m below meth c C hr hR
  exact w_X11_readShip C hr hR σ h
noncomputable def f_X11_strait_B267  (σ : cr_S) : Option (cr_S × Int32) :=
  cr_let (sA σ 3 1 (-4)) (fun s22 => cr_let (sA s22 3 2 0) (fun s24 => cr_let (sA s24 3 3 0) (fun s26 => cr_let (sF s26 0 20 0) (fun s28 => some (s28, rF s28 0 0)))))
set_option maxRecDepth 100000 in
set_option maxHeartbeats 4000000 in
theorem w_X11_strait_B267 (C : cr_C p l e R s m args below meth c sfM 17 base D cA cX11_strait 3 RX11) (hr : meth.sig.returnType = some .int) (hR : 4 ≤ R.frames ∧ 84 ≤ R.locals) {res : cr_S × Int32}  (σ : cr_S) (h : f_X11_strait_B267 σ = some res) : cr_W p l e R s m args below meth c sfM 17 base D cA 3 (MQ below (cr_Qi sfM 17 base D cA res) args s 0 0 (cr_A 17 base)) σ 267 [(0, .ref (base + 0))] [] := by
  unfold f_X11_strait_B267 at h
  refine g_aload_n (pc' := 268) C dX11_strait_267 0 rfl rfl ?_
  refine gg_X11_16 (pc' := 271) C dX11_strait_268 rfl ?_
  refine g_iconst (pc' := 272) (v := 1) C dX11_strait_271 (by decide) rfl ?_
  refine g_bipush (pc' := 274) (v := (-4)) C dX11_strait_272 (by decide) rfl ?_
  obtain ⟨s22, e23, h⟩ := let_some h
  refine g_iast (pc' := 275) C (o := 3) (by decide) rfl (inb_d (by decide)) dX11_strait_274 rfl e23 ?_
  refine g_aload_n (pc' := 276) C dX11_strait_275 0 rfl rfl ?_
  refine gg_X11_16 (pc' := 279) C dX11_strait_276 rfl ?_
  refine g_iconst (pc' := 280) (v := 2) C dX11_strait_279 (by decide) rfl ?_
  refine g_iconst (pc' := 281) (v := 0) C dX11_strait_280 (by decide) rfl ?_
  obtain ⟨s24, e25, h⟩ := let_some h
  refine g_iast (pc' := 282) C (o := 3) (by decide) rfl (inb_d (by decide)) dX11_strait_281 rfl e25 ?_
  refine g_aload_n (pc' := 283) C dX11_strait_282 0 rfl rfl ?_
  refine gg_X11_16 (pc' := 286) C dX11_strait_283 rfl ?_
  refine g_iconst (pc' := 287) (v := 3) C dX11_strait_286 (by decide) rfl ?_
  refine g_iconst (pc' := 288) (v := 0) C dX11_strait_287 (by decide) rfl ?_
  obtain ⟨s26, e27, h⟩ := let_some h
  refine g_iast (pc' := 289) C (o := 3) (by decide) rfl (inb_d (by decide)) dX11_strait_288 rfl e27 ?_
  refine g_aload_n (pc' := 290) C dX11_strait_289 0 rfl rfl ?_
  refine g_iconst (pc' := 291) (v := 0) C dX11_strait_290 (by decide) rfl ?_
  obtain ⟨s28, e29, h⟩ := let_some h
  refine gp_X11_197 (pc' := 294) C dX11_strait_291 rfl e29 ?_
  refine g_aload_n (pc' := 295) C dX11_strait_294 0 rfl rfl ?_
  refine gg_X11_63 (pc' := 298) C dX11_strait_295 rfl ?_
  exact g_iret C hr dX11_strait_298 h
noncomputable def f_X11_strait_L221  : Nat → cr_S → Int32 → Option (cr_S × Int32)
  | 0, _, _ => none
  | n + 1, σ, x2 =>
    (if (rF σ 0 18) ≤ x2 then f_X11_strait_B267 σ else chk (inb (3 * x2) 15) (chk (inb ((3 * x2) + 1) 15) (chk (inb ((3 * x2) + 2) 15) (Option.bind (f_X11_shipComes σ (rA σ 7 (3 * x2)) (rA σ 7 ((3 * x2) + 1)) (rA σ 7 ((3 * x2) + 2))) (fun q33 => cr_let (x2 + 1) (fun v35 => f_X11_strait_L221 n q33 v35))))))
set_option maxRecDepth 100000 in
set_option maxHeartbeats 4000000 in
theorem w_X11_strait_L221 (C : cr_C p l e R s m args below meth c sfM 17 base D cA cX11_strait 3 RX11) (hr : meth.sig.returnType = some .int) (hR : 4 ≤ R.frames ∧ 84 ≤ R.locals) {res : cr_S × Int32}  : ∀ (n : Nat) (σ : cr_S) (x2 : Int32), f_X11_strait_L221 n σ x2 = some res → cr_W p l e R s m args below meth c sfM 17 base D cA 3 (MQ below (cr_Qi sfM 17 base D cA res) args s 0 0 (cr_A 17 base)) σ 221 [(0, .ref (base + 0)), (2, .int x2)] [] := by
  intro n
  induction n with
  | zero =>
    intro σ x2 h
    cases h
  | succ n ih =>
    intro σ x2 h
    rw [f_X11_strait_L221] at h
    refine g_iload_n (pc' := 222) C dX11_strait_221 1 rfl rfl ?_
    refine g_aload_n (pc' := 223) C dX11_strait_222 0 rfl rfl ?_
    refine gg_X11_185 (pc' := 226) C dX11_strait_223 rfl ?_
    refine g_icmp_ge (pc' := 229) (tgt := 267) C dX11_strait_226 (by decide) rfl (fun hc => ?_) (fun hc => ?_)
    · rw [if_pos hc] at h
      exact g_sub C [0] rfl (w_X11_strait_B267 C hr hR _ h)
    · rw [if_neg hc] at h
      refine g_aload_n (pc' := 230) C dX11_strait_229 0 rfl rfl ?_
      refine g_aload_n (pc' := 231) C dX11_strait_230 0 rfl rfl ?_
      refine gg_X11_32 (pc' := 234) C dX11_strait_231 rfl ?_
      refine g_iconst (pc' := 235) (v := 3) C dX11_strait_234 (by decide) rfl ?_
      refine g_iload_n (pc' := 236) C dX11_strait_235 1 rfl rfl ?_
      refine g_imul (pc' := 237) C dX11_strait_236 rfl ?_
      obtain ⟨h30, h⟩ := chk_some h
      refine g_iald (pc' := 238) C (o := 7) (by decide) rfl (inb_d h30) dX11_strait_237 rfl ?_
      refine g_aload_n (pc' := 239) C dX11_strait_238 0 rfl rfl ?_
      refine gg_X11_32 (pc' := 242) C dX11_strait_239 rfl ?_
      refine g_iconst (pc' := 243) (v := 3) C dX11_strait_242 (by decide) rfl ?_
      refine g_iload_n (pc' := 244) C dX11_strait_243 1 rfl rfl ?_
      refine g_imul (pc' := 245) C dX11_strait_244 rfl ?_
      refine g_iconst (pc' := 246) (v := 1) C dX11_strait_245 (by decide) rfl ?_
      refine g_iadd (pc' := 247) C dX11_strait_246 rfl ?_
      obtain ⟨h31, h⟩ := chk_some h
      refine g_iald (pc' := 248) C (o := 7) (by decide) rfl (inb_d h31) dX11_strait_247 rfl ?_
      refine g_aload_n (pc' := 249) C dX11_strait_248 0 rfl rfl ?_
      refine gg_X11_32 (pc' := 252) C dX11_strait_249 rfl ?_
      refine g_iconst (pc' := 253) (v := 3) C dX11_strait_252 (by decide) rfl ?_
      refine g_iload_n (pc' := 254) C dX11_strait_253 1 rfl rfl ?_
      refine g_imul (pc' := 255) C dX11_strait_254 rfl ?_
      refine g_iconst (pc' := 256) (v := 2) C dX11_strait_255 (by decide) rfl ?_
      refine g_iadd (pc' := 257) C dX11_strait_256 rfl ?_
      obtain ⟨h32, h⟩ := chk_some h
      refine g_iald (pc' := 258) C (o := 7) (by decide) rfl (inb_d h32) dX11_strait_257 rfl ?_
      obtain ⟨q33, h34, h⟩ := bind_some h
      refine g_callVv (pc' := 261) (res := q33) C [.int (rA σ 7 (3 * x2)), .int (rA σ 7 ((3 * x2) + 1)), .int (rA σ 7 ((3 * x2) + 2))] cY_X11_shipComes rfl (o := 0) (by decide) rfl mv_X11_shipComes mm_X11_95 ⟨Nat.le_trans (by decide) hR.1, Nat.le_trans (by decide) hR.2⟩ rfl (Nat.le_of_ble_eq_true rfl) rfl dX11_strait_258 (c_X11_shipComes l base D cA σ (rA σ 7 (3 * x2)) (rA σ 7 ((3 * x2) + 1)) (rA σ 7 ((3 * x2) + 2)) q33 h34) rfl ?_
      obtain ⟨v35, e36, h⟩ := let_some h
      refine g_iinc (pc' := 264) (v := v35) (lv' := [(2, .int v35), (0, .ref (base + 0))]) C dX11_strait_261 1 rfl (by rw [e36]; rfl) (by decide) rfl rfl ?_
      refine g_goto (tgt := 221) C dX11_strait_264 (by decide) ?_
      exact g_sub C [1, 0] rfl (ih _ _ h)
noncomputable def f_X11_strait_B219  (σ : cr_S) : Option (cr_S × Int32) :=
  f_X11_strait_L221 cr_fuel σ 0
set_option maxRecDepth 100000 in
set_option maxHeartbeats 4000000 in
theorem w_X11_strait_B219 (C : cr_C p l e R s m args below meth c sfM 17 base D cA cX11_strait 3 RX11) (hr : meth.sig.returnType = some .int) (hR : 4 ≤ R.frames ∧ 84 ≤ R.locals) {res : cr_S × Int32}  (σ : cr_S) (h : f_X11_strait_B219 σ = some res) : cr_W p l e R s m args below meth c sfM 17 base D cA 3 (MQ below (cr_Qi sfM 17 base D cA res) args s 0 0 (cr_A 17 base)) σ 219 [(0, .ref (base + 0))] [] := by
  unfold f_X11_strait_B219 at h
  refine g_iconst (pc' := 220) (v := 0) C dX11_strait_219 (by decide) rfl ?_
  refine g_istore_n (pc' := 221) (lv' := [(2, .int 0), (0, .ref (base + 0))]) C dX11_strait_220 rfl (by decide) rfl rfl ?_
  exact g_sub C [1, 0] rfl (w_X11_strait_L221 C hr hR _ _ _ h)
noncomputable def f_X11_strait_L153  : Nat → cr_S → Int32 → Option (cr_S × Int32)
  | 0, _, _ => none
  | n + 1, σ, x2 =>
    (if (rF σ 0 17) ≤ x2 then f_X11_strait_B219 σ else chk (inb (5 * x2) 30) (chk (inb ((5 * x2) + 1) 30) (chk (inb ((5 * x2) + 2) 30) (chk (inb ((5 * x2) + 3) 30) (chk (inb ((5 * x2) + 4) 30) (Option.bind (f_X11_pairComes σ (rA σ 6 (5 * x2)) (rA σ 6 ((5 * x2) + 1)) (rA σ 6 ((5 * x2) + 2)) (rA σ 6 ((5 * x2) + 3)) (rA σ 6 ((5 * x2) + 4))) (fun q42 => cr_let (x2 + 1) (fun v44 => f_X11_strait_L153 n q42 v44))))))))
set_option maxRecDepth 100000 in
set_option maxHeartbeats 4000000 in
theorem w_X11_strait_L153 (C : cr_C p l e R s m args below meth c sfM 17 base D cA cX11_strait 3 RX11) (hr : meth.sig.returnType = some .int) (hR : 4 ≤ R.frames ∧ 84 ≤ R.locals) {res : cr_S × Int32}  : ∀ (n : Nat) (σ : cr_S) (x2 : Int32), f_X11_strait_L153 n σ x2 = some res → cr_W p l e R s m args below meth c sfM 17 base D cA 3 (MQ below (cr_Qi sfM 17 base D cA res) args s 0 0 (cr_A 17 base)) σ 153 [(0, .ref (base + 0)), (2, .int x2)] [] := by
  intro n
  induction n with
  | zero =>
    intro σ x2 h
    cases h
  | succ n ih =>
    intro σ x2 h
    rw [f_X11_strait_L153] at h
    refine g_iload_n (pc' := 154) C dX11_strait_153 1 rfl rfl ?_
    refine g_aload_n (pc' := 155) C dX11_strait_154 0 rfl rfl ?_
    refine gg_X11_171 (pc' := 158) C dX11_strait_155 rfl ?_
    refine g_icmp_ge (pc' := 161) (tgt := 219) C dX11_strait_158 (by decide) rfl (fun hc => ?_) (fun hc => ?_)
    · rw [if_pos hc] at h
      exact g_sub C [0] rfl (w_X11_strait_B219 C hr hR _ h)
    · rw [if_neg hc] at h
      refine g_aload_n (pc' := 162) C dX11_strait_161 0 rfl rfl ?_
      refine g_aload_n (pc' := 163) C dX11_strait_162 0 rfl rfl ?_
      refine gg_X11_29 (pc' := 166) C dX11_strait_163 rfl ?_
      refine g_iconst (pc' := 167) (v := 5) C dX11_strait_166 (by decide) rfl ?_
      refine g_iload_n (pc' := 168) C dX11_strait_167 1 rfl rfl ?_
      refine g_imul (pc' := 169) C dX11_strait_168 rfl ?_
      obtain ⟨h37, h⟩ := chk_some h
      refine g_iald (pc' := 170) C (o := 6) (by decide) rfl (inb_d h37) dX11_strait_169 rfl ?_
      refine g_aload_n (pc' := 171) C dX11_strait_170 0 rfl rfl ?_
      refine gg_X11_29 (pc' := 174) C dX11_strait_171 rfl ?_
      refine g_iconst (pc' := 175) (v := 5) C dX11_strait_174 (by decide) rfl ?_
      refine g_iload_n (pc' := 176) C dX11_strait_175 1 rfl rfl ?_
      refine g_imul (pc' := 177) C dX11_strait_176 rfl ?_
      refine g_iconst (pc' := 178) (v := 1) C dX11_strait_177 (by decide) rfl ?_
      refine g_iadd (pc' := 179) C dX11_strait_178 rfl ?_
      obtain ⟨h38, h⟩ := chk_some h
      refine g_iald (pc' := 180) C (o := 6) (by decide) rfl (inb_d h38) dX11_strait_179 rfl ?_
      refine g_aload_n (pc' := 181) C dX11_strait_180 0 rfl rfl ?_
      refine gg_X11_29 (pc' := 184) C dX11_strait_181 rfl ?_
      refine g_iconst (pc' := 185) (v := 5) C dX11_strait_184 (by decide) rfl ?_
      refine g_iload_n (pc' := 186) C dX11_strait_185 1 rfl rfl ?_
      refine g_imul (pc' := 187) C dX11_strait_186 rfl ?_
      refine g_iconst (pc' := 188) (v := 2) C dX11_strait_187 (by decide) rfl ?_
      refine g_iadd (pc' := 189) C dX11_strait_188 rfl ?_
      obtain ⟨h39, h⟩ := chk_some h
      refine g_iald (pc' := 190) C (o := 6) (by decide) rfl (inb_d h39) dX11_strait_189 rfl ?_
      refine g_aload_n (pc' := 191) C dX11_strait_190 0 rfl rfl ?_
      refine gg_X11_29 (pc' := 194) C dX11_strait_191 rfl ?_
      refine g_iconst (pc' := 195) (v := 5) C dX11_strait_194 (by decide) rfl ?_
      refine g_iload_n (pc' := 196) C dX11_strait_195 1 rfl rfl ?_
      refine g_imul (pc' := 197) C dX11_strait_196 rfl ?_
      refine g_iconst (pc' := 198) (v := 3) C dX11_strait_197 (by decide) rfl ?_
      refine g_iadd (pc' := 199) C dX11_strait_198 rfl ?_
      obtain ⟨h40, h⟩ := chk_some h
      refine g_iald (pc' := 200) C (o := 6) (by decide) rfl (inb_d h40) dX11_strait_199 rfl ?_
      refine g_aload_n (pc' := 201) C dX11_strait_200 0 rfl rfl ?_
      refine gg_X11_29 (pc' := 204) C dX11_strait_201 rfl ?_
      refine g_iconst (pc' := 205) (v := 5) C dX11_strait_204 (by decide) rfl ?_
      refine g_iload_n (pc' := 206) C dX11_strait_205 1 rfl rfl ?_
      refine g_imul (pc' := 207) C dX11_strait_206 rfl ?_
      refine g_iconst (pc' := 208) (v := 4) C dX11_strait_207 (by decide) rfl ?_
      refine g_iadd (pc' := 209) C dX11_strait_208 rfl ?_
      obtain ⟨h41, h⟩ := chk_some h
      refine g_iald (pc' := 210) C (o := 6) (by decide) rfl (inb_d h41) dX11_strait_209 rfl ?_
      obtain ⟨q42, h43, h⟩ := bind_some h
      refine g_callVv (pc' := 213) (res := q42) C [.int (rA σ 6 (5 * x2)), .int (rA σ 6 ((5 * x2) + 1)), .int (rA σ 6 ((5 * x2) + 2)), .int (rA σ 6 ((5 * x2) + 3)), .int (rA σ 6 ((5 * x2) + 4))] cY_X11_pairComes rfl (o := 0) (by decide) rfl mv_X11_pairComes mm_X11_83 ⟨Nat.le_trans (by decide) hR.1, Nat.le_trans (by decide) hR.2⟩ rfl (Nat.le_of_ble_eq_true rfl) rfl dX11_strait_210 (c_X11_pairComes l base D cA σ (rA σ 6 (5 * x2)) (rA σ 6 ((5 * x2) + 1)) (rA σ 6 ((5 * x2) + 2)) (rA σ 6 ((5 * x2) + 3)) (rA σ 6 ((5 * x2) + 4)) q42 h43) rfl ?_
      obtain ⟨v44, e45, h⟩ := let_some h
      refine g_iinc (pc' := 216) (v := v44) (lv' := [(2, .int v44), (0, .ref (base + 0))]) C dX11_strait_213 1 rfl (by rw [e45]; rfl) (by decide) rfl rfl ?_
      refine g_goto (tgt := 153) C dX11_strait_216 (by decide) ?_
      exact g_sub C [1, 0] rfl (ih _ _ h)
noncomputable def f_X11_strait_B118  (σ : cr_S) (t0 : Int32) : Option (cr_S × Int32) :=
  chk (isB t0) (cr_let (sF σ 0 14 t0) (fun s14 => cr_let (sF s14 0 12 0) (fun s16 => (if (rF s16 0 14) = 0 then cr_let (sF s16 0 0 0) (fun s18 => cr_let (sF s18 0 1 0) (fun s20 => f_X11_strait_L153 cr_fuel s20 0)) else some (s16, (-20) - (rF s16 0 13))))))
set_option maxRecDepth 100000 in
set_option maxHeartbeats 4000000 in
theorem w_X11_strait_B118 (C : cr_C p l e R s m args below meth c sfM 17 base D cA cX11_strait 3 RX11) (hr : meth.sig.returnType = some .int) (hR : 4 ≤ R.frames ∧ 84 ≤ R.locals) {res : cr_S × Int32}  (σ : cr_S) (t0 : Int32) (h : f_X11_strait_B118 σ t0 = some res) : cr_W p l e R s m args below meth c sfM 17 base D cA 3 (MQ below (cr_Qi sfM 17 base D cA res) args s 0 0 (cr_A 17 base)) σ 118 [(0, .ref (base + 0))] [.int t0, .ref (base + 0)] := by
  unfold f_X11_strait_B118 at h
  obtain ⟨h13, h⟩ := chk_some h
  obtain ⟨s14, e15, h⟩ := let_some h
  refine gp_X11_156 (pc' := 121) C (isB_n h13) (isB_f h13) dX11_strait_118 rfl e15 ?_
  refine g_aload_n (pc' := 122) C dX11_strait_121 0 rfl rfl ?_
  refine g_iconst (pc' := 123) (v := 0) C dX11_strait_122 (by decide) rfl ?_
  obtain ⟨s16, e17, h⟩ := let_some h
  refine gp_X11_150 (pc' := 126) C dX11_strait_123 rfl e17 ?_
  refine g_aload_n (pc' := 127) C dX11_strait_126 0 rfl rfl ?_
  refine gg_X11_156 (pc' := 130) C dX11_strait_127 rfl ?_
  refine g_if_eq (pc' := 133) (tgt := 141) C dX11_strait_130 (by decide) rfl (fun hc => ?_) (fun hc => ?_)
  · rw [if_pos hc] at h
    refine g_aload_n (pc' := 142) C dX11_strait_141 0 rfl rfl ?_
    refine g_iconst (pc' := 143) (v := 0) C dX11_strait_142 (by decide) rfl ?_
    obtain ⟨s18, e19, h⟩ := let_some h
    refine gp_X11_63 (pc' := 146) C dX11_strait_143 rfl e19 ?_
    refine g_aload_n (pc' := 147) C dX11_strait_146 0 rfl rfl ?_
    refine g_iconst (pc' := 148) (v := 0) C dX11_strait_147 (by decide) rfl ?_
    obtain ⟨s20, e21, h⟩ := let_some h
    refine gp_X11_70 (pc' := 151) C dX11_strait_148 rfl e21 ?_
    refine g_iconst (pc' := 152) (v := 0) C dX11_strait_151 (by decide) rfl ?_
    refine g_istore_n (pc' := 153) (lv' := [(2, .int 0), (0, .ref (base + 0))]) C dX11_strait_152 rfl (by decide) rfl rfl ?_
    exact g_sub C [1, 0] rfl (w_X11_strait_L153 C hr hR _ _ _ h)
  · rw [if_neg hc] at h
    refine g_bipush (pc' := 135) (v := (-20)) C dX11_strait_133 (by decide) rfl ?_
    refine g_aload_n (pc' := 136) C dX11_strait_135 0 rfl rfl ?_
    refine gg_X11_153 (pc' := 139) C dX11_strait_136 rfl ?_
    refine g_isub (pc' := 140) C dX11_strait_139 rfl ?_
    exact g_iret C hr dX11_strait_140 h
noncomputable def f_X11_strait_B113  (σ : cr_S) : Option (cr_S × Int32) :=
  f_X11_strait_B118 σ 1
set_option maxRecDepth 100000 in
set_option maxHeartbeats 4000000 in
theorem w_X11_strait_B113 (C : cr_C p l e R s m args below meth c sfM 17 base D cA cX11_strait 3 RX11) (hr : meth.sig.returnType = some .int) (hR : 4 ≤ R.frames ∧ 84 ≤ R.locals) {res : cr_S × Int32}  (σ : cr_S) (h : f_X11_strait_B113 σ = some res) : cr_W p l e R s m args below meth c sfM 17 base D cA 3 (MQ below (cr_Qi sfM 17 base D cA res) args s 0 0 (cr_A 17 base)) σ 113 [(0, .ref (base + 0))] [.ref (base + 0)] := by
  unfold f_X11_strait_B113 at h
  refine g_iconst (pc' := 114) (v := 1) C dX11_strait_113 (by decide) rfl ?_
  refine g_goto (tgt := 118) C dX11_strait_114 (by decide) ?_
  exact g_sub C [0] rfl (w_X11_strait_B118 C hr hR _ _ h)
noncomputable def f_X11_strait_B98  (σ : cr_S) : Option (cr_S × Int32) :=
  (if (rF σ 0 14) = 0 then Option.bind (f_X11_here σ) (fun q46 => f_X11_strait_B118 q46.1 (if q46.2 = 0 then 0 else 1)) else f_X11_strait_B113 σ)
set_option maxRecDepth 100000 in
set_option maxHeartbeats 4000000 in
theorem w_X11_strait_B98 (C : cr_C p l e R s m args below meth c sfM 17 base D cA cX11_strait 3 RX11) (hr : meth.sig.returnType = some .int) (hR : 4 ≤ R.frames ∧ 84 ≤ R.locals) {res : cr_S × Int32}  (σ : cr_S) (h : f_X11_strait_B98 σ = some res) : cr_W p l e R s m args below meth c sfM 17 base D cA 3 (MQ below (cr_Qi sfM 17 base D cA res) args s 0 0 (cr_A 17 base)) σ 98 [(0, .ref (base + 0))] [] := by
  unfold f_X11_strait_B98 at h
  refine g_aload_n (pc' := 99) C dX11_strait_98 0 rfl rfl ?_
  refine g_aload_n (pc' := 100) C dX11_strait_99 0 rfl rfl ?_
  refine gg_X11_156 (pc' := 103) C dX11_strait_100 rfl ?_
  refine g_if_ne (pc' := 106) (tgt := 113) C dX11_strait_103 (by decide) rfl (fun hc => ?_) (fun hc => ?_)
  · rw [if_neg hc] at h
    exact g_sub C [0] rfl (w_X11_strait_B113 C hr hR _ h)
  · rw [if_pos hc] at h
    refine g_aload_n (pc' := 107) C dX11_strait_106 0 rfl rfl ?_
    obtain ⟨q46, h47, h⟩ := bind_some h
    refine g_callVi (pc' := 110) (res := q46) C [] cY_X11_here rfl (o := 0) (by decide) rfl mv_X11_here mm_X11_160 ⟨Nat.le_trans (by decide) hR.1, Nat.le_trans (by decide) hR.2⟩ rfl (Nat.le_of_ble_eq_true rfl) rfl dX11_strait_107 (c_X11_here l base D cA σ q46 h47) rfl ?_
    refine g_iteI (σ := q46.1) (pj := 118) (lv := [(0, .ref (base + 0))]) (st := [.ref (base + 0)]) (cd := q46.2 = 0) (a := 0) (b := 1) C ?_ (fun kt kf => ?_)
    · exact g_sub C [0] rfl (w_X11_strait_B118 C hr hR _ _ h)
    · refine g_if_eq (pc' := 113) (tgt := 117) C dX11_strait_110 (by decide) rfl (fun hc => ?_) (fun hc => ?_)
      · refine g_iconst (pc' := 118) (v := 0) C dX11_strait_117 (by decide) rfl ?_
        exact kt hc
      · refine g_iconst (pc' := 114) (v := 1) C dX11_strait_113 (by decide) rfl ?_
        refine g_goto (tgt := 118) C dX11_strait_114 (by decide) ?_
        exact kf hc
noncomputable def f_X11_strait_B94 (r64 : cr_S → Int32 → Option (cr_S × Int32)) (σ : cr_S) (t0 : Int32) : Option (cr_S × Int32) :=
  r64 σ t0
set_option maxRecDepth 100000 in
set_option maxHeartbeats 4000000 in
theorem w_X11_strait_B94 (C : cr_C p l e R s m args below meth c sfM 17 base D cA cX11_strait 3 RX11) (hr : meth.sig.returnType = some .int) (hR : 4 ≤ R.frames ∧ 84 ≤ R.locals) {res : cr_S × Int32} (r64 : cr_S → Int32 → Option (cr_S × Int32)) (hr64 : ∀ (σ : cr_S) (x1 : Int32), r64 σ x1 = some res → cr_W p l e R s m args below meth c sfM 17 base D cA 3 (MQ below (cr_Qi sfM 17 base D cA res) args s 0 0 (cr_A 17 base)) σ 64 [(0, .ref (base + 0)), (1, .int x1)] []) (σ : cr_S) (t0 : Int32) (h : f_X11_strait_B94 r64 σ t0 = some res) : cr_W p l e R s m args below meth c sfM 17 base D cA 3 (MQ below (cr_Qi sfM 17 base D cA res) args s 0 0 (cr_A 17 base)) σ 94 [(0, .ref (base + 0))] [.int t0] := by
  unfold f_X11_strait_B94 at h
  refine g_istore_n (pc' := 95) (lv' := [(1, .int t0), (0, .ref (base + 0))]) C dX11_strait_94 rfl (by decide) rfl rfl ?_
  refine g_goto (tgt := 64) C dX11_strait_95 (by decide) ?_
  exact g_sub C [1, 0] rfl (hr64 _ _ h)
noncomputable def f_X11_strait_B93 (r64 : cr_S → Int32 → Option (cr_S × Int32)) (σ : cr_S) : Option (cr_S × Int32) :=
  f_X11_strait_B94 r64 σ 0
set_option maxRecDepth 100000 in
set_option maxHeartbeats 4000000 in
theorem w_X11_strait_B93 (C : cr_C p l e R s m args below meth c sfM 17 base D cA cX11_strait 3 RX11) (hr : meth.sig.returnType = some .int) (hR : 4 ≤ R.frames ∧ 84 ≤ R.locals) {res : cr_S × Int32} (r64 : cr_S → Int32 → Option (cr_S × Int32)) (hr64 : ∀ (σ : cr_S) (x1 : Int32), r64 σ x1 = some res → cr_W p l e R s m args below meth c sfM 17 base D cA 3 (MQ below (cr_Qi sfM 17 base D cA res) args s 0 0 (cr_A 17 base)) σ 64 [(0, .ref (base + 0)), (1, .int x1)] []) (σ : cr_S) (h : f_X11_strait_B93 r64 σ = some res) : cr_W p l e R s m args below meth c sfM 17 base D cA 3 (MQ below (cr_Qi sfM 17 base D cA res) args s 0 0 (cr_A 17 base)) σ 93 [(0, .ref (base + 0))] [] := by
  unfold f_X11_strait_B93 at h
  refine g_iconst (pc' := 94) (v := 0) C dX11_strait_93 (by decide) rfl ?_
  exact g_sub C [0] rfl (w_X11_strait_B94 C hr hR r64 hr64 _ _ h)
noncomputable def f_X11_strait_L64  : Nat → cr_S → Int32 → Option (cr_S × Int32)
  | 0, _, _ => none
  | n + 1, σ, x1 =>
    (if x1 = 0 then f_X11_strait_B98 σ else Option.bind (f_X11_readShip σ) (fun q48 => (if 5 ≤ (rF q48 0 18) then f_X11_strait_B93 (f_X11_strait_L64 n) q48 else Option.bind (f_X11_has q48 44) (fun q50 => (if q50.2 = 0 then f_X11_strait_B93 (f_X11_strait_L64 n) q50.1 else f_X11_strait_B94 (f_X11_strait_L64 n) q50.1 1)))))
set_option maxRecDepth 100000 in
set_option maxHeartbeats 4000000 in
theorem w_X11_strait_L64 (C : cr_C p l e R s m args below meth c sfM 17 base D cA cX11_strait 3 RX11) (hr : meth.sig.returnType = some .int) (hR : 4 ≤ R.frames ∧ 84 ≤ R.locals) {res : cr_S × Int32}  : ∀ (n : Nat) (σ : cr_S) (x1 : Int32), f_X11_strait_L64 n σ x1 = some res → cr_W p l e R s m args below meth c sfM 17 base D cA 3 (MQ below (cr_Qi sfM 17 base D cA res) args s 0 0 (cr_A 17 base)) σ 64 [(0, .ref (base + 0)), (1, .int x1)] [] := by
  intro n
  induction n with
  | zero =>
    intro σ x1 h
    cases h
  | succ n ih =>
    intro σ x1 h
    rw [f_X11_strait_L64] at h
    refine g_iload_n (pc' := 65) C dX11_strait_64 1 rfl rfl ?_
    refine g_if_eq (pc' := 68) (tgt := 98) C dX11_strait_65 (by decide) rfl (fun hc => ?_) (fun hc => ?_)
    · rw [if_pos hc] at h
      exact g_sub C [0] rfl (w_X11_strait_B98 C hr hR _ h)
    · rw [if_neg hc] at h
      refine g_aload_n (pc' := 69) C dX11_strait_68 0 rfl rfl ?_
      obtain ⟨q48, h49, h⟩ := bind_some h
      refine g_callVv (pc' := 72) (res := q48) C [] cY_X11_readShip rfl (o := 0) (by decide) rfl mv_X11_readShip mm_X11_194 ⟨Nat.le_trans (by decide) hR.1, Nat.le_trans (by decide) hR.2⟩ rfl (Nat.le_of_ble_eq_true rfl) rfl dX11_strait_69 (c_X11_readShip l base D cA σ q48 h49) rfl ?_
      refine g_aload_n (pc' := 73) C dX11_strait_72 0 rfl rfl ?_
      refine gg_X11_185 (pc' := 76) C dX11_strait_73 rfl ?_
      refine g_iconst (pc' := 77) (v := 5) C dX11_strait_76 (by decide) rfl ?_
      refine g_icmp_ge (pc' := 80) (tgt := 93) C dX11_strait_77 (by decide) rfl (fun hc => ?_) (fun hc => ?_)
      · rw [if_pos hc] at h
        exact g_sub C [0] rfl (w_X11_strait_B93 C hr hR (f_X11_strait_L64 n) ih _ h)
      · rw [if_neg hc] at h
        refine g_aload_n (pc' := 81) C dX11_strait_80 0 rfl rfl ?_
        refine g_bipush (pc' := 83) (v := 44) C dX11_strait_81 (by decide) rfl ?_
        obtain ⟨q50, h51, h⟩ := bind_some h
        refine g_callVi (pc' := 86) (res := q50) C [.int 44] cY_X11_has rfl (o := 0) (by decide) rfl mv_X11_has mm_X11_164 ⟨Nat.le_trans (by decide) hR.1, Nat.le_trans (by decide) hR.2⟩ rfl (Nat.le_of_ble_eq_true rfl) rfl dX11_strait_83 (c_X11_has l base D cA q48 44 q50 h51) rfl ?_
        refine g_if_eq (pc' := 89) (tgt := 93) C dX11_strait_86 (by decide) rfl (fun hc => ?_) (fun hc => ?_)
        · rw [if_pos hc] at h
          exact g_sub C [0] rfl (w_X11_strait_B93 C hr hR (f_X11_strait_L64 n) ih _ h)
        · rw [if_neg hc] at h
          refine g_iconst (pc' := 90) (v := 1) C dX11_strait_89 (by decide) rfl ?_
          refine g_goto (tgt := 94) C dX11_strait_90 (by decide) ?_
          exact g_sub C [0] rfl (w_X11_strait_B94 C hr hR (f_X11_strait_L64 n) ih _ _ h)
noncomputable def f_X11_strait_B57  (σ : cr_S) : Option (cr_S × Int32) :=
  Option.bind (f_X11_has σ 59) (fun q9 => cr_let q9.2 (fun v11 => f_X11_strait_L64 cr_fuel q9.1 v11))
set_option maxRecDepth 100000 in
set_option maxHeartbeats 4000000 in
theorem w_X11_strait_B57 (C : cr_C p l e R s m args below meth c sfM 17 base D cA cX11_strait 3 RX11) (hr : meth.sig.returnType = some .int) (hR : 4 ≤ R.frames ∧ 84 ≤ R.locals) {res : cr_S × Int32}  (σ : cr_S) (h : f_X11_strait_B57 σ = some res) : cr_W p l e R s m args below meth c sfM 17 base D cA 3 (MQ below (cr_Qi sfM 17 base D cA res) args s 0 0 (cr_A 17 base)) σ 57 [(0, .ref (base + 0))] [] := by
  unfold f_X11_strait_B57 at h
  refine g_aload_n (pc' := 58) C dX11_strait_57 0 rfl rfl ?_
  refine g_bipush (pc' := 60) (v := 59) C dX11_strait_58 (by decide) rfl ?_
  obtain ⟨q9, h10, h⟩ := bind_some h
  refine g_callVi (pc' := 63) (res := q9) C [.int 59] cY_X11_has rfl (o := 0) (by decide) rfl mv_X11_has mm_X11_164 ⟨Nat.le_trans (by decide) hR.1, Nat.le_trans (by decide) hR.2⟩ rfl (Nat.le_of_ble_eq_true rfl) rfl dX11_strait_60 (c_X11_has l base D cA σ 59 q9 h10) rfl ?_
  obtain ⟨v11, e12, h⟩ := let_some h
  refine g_nameI e12 ?_
  refine g_istore_n (pc' := 64) (lv' := [(1, .int v11), (0, .ref (base + 0))]) C dX11_strait_63 rfl (by decide) rfl rfl ?_
  exact g_sub C [1, 0] rfl (w_X11_strait_L64 C hr hR _ _ _ h)
noncomputable def f_X11_strait_B53 (r22 : cr_S → Int32 → Option (cr_S × Int32)) (σ : cr_S) (t0 : Int32) : Option (cr_S × Int32) :=
  r22 σ t0
set_option maxRecDepth 100000 in
set_option maxHeartbeats 4000000 in
theorem w_X11_strait_B53 (C : cr_C p l e R s m args below meth c sfM 17 base D cA cX11_strait 3 RX11) (hr : meth.sig.returnType = some .int) (hR : 4 ≤ R.frames ∧ 84 ≤ R.locals) {res : cr_S × Int32} (r22 : cr_S → Int32 → Option (cr_S × Int32)) (hr22 : ∀ (σ : cr_S) (x1 : Int32), r22 σ x1 = some res → cr_W p l e R s m args below meth c sfM 17 base D cA 3 (MQ below (cr_Qi sfM 17 base D cA res) args s 0 0 (cr_A 17 base)) σ 22 [(0, .ref (base + 0)), (1, .int x1)] []) (σ : cr_S) (t0 : Int32) (h : f_X11_strait_B53 r22 σ t0 = some res) : cr_W p l e R s m args below meth c sfM 17 base D cA 3 (MQ below (cr_Qi sfM 17 base D cA res) args s 0 0 (cr_A 17 base)) σ 53 [(0, .ref (base + 0))] [.int t0] := by
  unfold f_X11_strait_B53 at h
  refine g_istore_n (pc' := 54) (lv' := [(1, .int t0), (0, .ref (base + 0))]) C dX11_strait_53 rfl (by decide) rfl rfl ?_
  refine g_goto (tgt := 22) C dX11_strait_54 (by decide) ?_
  exact g_sub C [1, 0] rfl (hr22 _ _ h)
noncomputable def f_X11_strait_B52 (r22 : cr_S → Int32 → Option (cr_S × Int32)) (σ : cr_S) : Option (cr_S × Int32) :=
  f_X11_strait_B53 r22 σ 0
set_option maxRecDepth 100000 in
set_option maxHeartbeats 4000000 in
theorem w_X11_strait_B52 (C : cr_C p l e R s m args below meth c sfM 17 base D cA cX11_strait 3 RX11) (hr : meth.sig.returnType = some .int) (hR : 4 ≤ R.frames ∧ 84 ≤ R.locals) {res : cr_S × Int32} (r22 : cr_S → Int32 → Option (cr_S × Int32)) (hr22 : ∀ (σ : cr_S) (x1 : Int32), r22 σ x1 = some res → cr_W p l e R s m args below meth c sfM 17 base D cA 3 (MQ below (cr_Qi sfM 17 base D cA res) args s 0 0 (cr_A 17 base)) σ 22 [(0, .ref (base + 0)), (1, .int x1)] []) (σ : cr_S) (h : f_X11_strait_B52 r22 σ = some res) : cr_W p l e R s m args below meth c sfM 17 base D cA 3 (MQ below (cr_Qi sfM 17 base D cA res) args s 0 0 (cr_A 17 base)) σ 52 [(0, .ref (base + 0))] [] := by
  unfold f_X11_strait_B52 at h
  refine g_iconst (pc' := 53) (v := 0) C dX11_strait_52 (by decide) rfl ?_
  exact g_sub C [0] rfl (w_X11_strait_B53 C hr hR r22 hr22 _ _ h)
noncomputable def f_X11_strait_L22  : Nat → cr_S → Int32 → Option (cr_S × Int32)
  | 0, _, _ => none
  | n + 1, σ, x1 =>
    (if x1 = 0 then f_X11_strait_B57 σ else Option.bind (f_X11_readPair σ) (fun q52 => (if 6 ≤ (rF q52 0 17) then f_X11_strait_B52 (f_X11_strait_L22 n) q52 else Option.bind (f_X11_has q52 44) (fun q54 => (if q54.2 = 0 then f_X11_strait_B52 (f_X11_strait_L22 n) q54.1 else f_X11_strait_B53 (f_X11_strait_L22 n) q54.1 1)))))
set_option maxRecDepth 100000 in
set_option maxHeartbeats 4000000 in
theorem w_X11_strait_L22 (C : cr_C p l e R s m args below meth c sfM 17 base D cA cX11_strait 3 RX11) (hr : meth.sig.returnType = some .int) (hR : 4 ≤ R.frames ∧ 84 ≤ R.locals) {res : cr_S × Int32}  : ∀ (n : Nat) (σ : cr_S) (x1 : Int32), f_X11_strait_L22 n σ x1 = some res → cr_W p l e R s m args below meth c sfM 17 base D cA 3 (MQ below (cr_Qi sfM 17 base D cA res) args s 0 0 (cr_A 17 base)) σ 22 [(0, .ref (base + 0)), (1, .int x1)] [] := by
  intro n
  induction n with
  | zero =>
    intro σ x1 h
    cases h
  | succ n ih =>
    intro σ x1 h
    rw [f_X11_strait_L22] at h
    refine g_iload_n (pc' := 23) C dX11_strait_22 1 rfl rfl ?_
    refine g_if_eq (pc' := 26) (tgt := 57) C dX11_strait_23 (by decide) rfl (fun hc => ?_) (fun hc => ?_)
    · rw [if_pos hc] at h
      exact g_sub C [0] rfl (w_X11_strait_B57 C hr hR _ h)
    · rw [if_neg hc] at h
      refine g_aload_n (pc' := 27) C dX11_strait_26 0 rfl rfl ?_
      obtain ⟨q52, h53, h⟩ := bind_some h
      refine g_callVv (pc' := 30) (res := q52) C [] cY_X11_readPair rfl (o := 0) (by decide) rfl mv_X11_readPair mm_X11_191 ⟨Nat.le_trans (by decide) hR.1, Nat.le_trans (by decide) hR.2⟩ rfl (Nat.le_of_ble_eq_true rfl) rfl dX11_strait_27 (c_X11_readPair l base D cA σ q52 h53) rfl ?_
      refine g_aload_n (pc' := 31) C dX11_strait_30 0 rfl rfl ?_
      refine gg_X11_171 (pc' := 34) C dX11_strait_31 rfl ?_
      refine g_bipush (pc' := 36) (v := 6) C dX11_strait_34 (by decide) rfl ?_
      refine g_icmp_ge (pc' := 39) (tgt := 52) C dX11_strait_36 (by decide) rfl (fun hc => ?_) (fun hc => ?_)
      · rw [if_pos hc] at h
        exact g_sub C [0] rfl (w_X11_strait_B52 C hr hR (f_X11_strait_L22 n) ih _ h)
      · rw [if_neg hc] at h
        refine g_aload_n (pc' := 40) C dX11_strait_39 0 rfl rfl ?_
        refine g_bipush (pc' := 42) (v := 44) C dX11_strait_40 (by decide) rfl ?_
        obtain ⟨q54, h55, h⟩ := bind_some h
        refine g_callVi (pc' := 45) (res := q54) C [.int 44] cY_X11_has rfl (o := 0) (by decide) rfl mv_X11_has mm_X11_164 ⟨Nat.le_trans (by decide) hR.1, Nat.le_trans (by decide) hR.2⟩ rfl (Nat.le_of_ble_eq_true rfl) rfl dX11_strait_42 (c_X11_has l base D cA q52 44 q54 h55) rfl ?_
        refine g_if_eq (pc' := 48) (tgt := 52) C dX11_strait_45 (by decide) rfl (fun hc => ?_) (fun hc => ?_)
        · rw [if_pos hc] at h
          exact g_sub C [0] rfl (w_X11_strait_B52 C hr hR (f_X11_strait_L22 n) ih _ h)
        · rw [if_neg hc] at h
          refine g_iconst (pc' := 49) (v := 1) C dX11_strait_48 (by decide) rfl ?_
          refine g_goto (tgt := 53) C dX11_strait_49 (by decide) ?_
          exact g_sub C [0] rfl (w_X11_strait_B53 C hr hR (f_X11_strait_L22 n) ih _ _ h)
noncomputable def f_X11_strait (σ : cr_S) : Option (cr_S × Int32) :=
  cr_let (sF σ 0 13 0) (fun s1 => cr_let (sF s1 0 14 0) (fun s3 => cr_let (sF s3 0 17 0) (fun s5 => cr_let (sF s5 0 18 0) (fun s7 => f_X11_strait_L22 cr_fuel s7 1))))
set_option maxRecDepth 100000 in
set_option maxHeartbeats 4000000 in
theorem w_X11_strait (C : cr_C p l e R s m args below meth c sfM 17 base D cA cX11_strait 3 RX11) (hr : meth.sig.returnType = some .int) (hR : 4 ≤ R.frames ∧ 84 ≤ R.locals) {res : cr_S × Int32} (σ : cr_S) (h : f_X11_strait σ = some res) : cr_W p l e R s m args below meth c sfM 17 base D cA 3 (MQ below (cr_Qi sfM 17 base D cA res) args s 0 0 (cr_A 17 base)) σ 0 [(0, .ref (base + 0))] [] := by
  unfold f_X11_strait at h
  refine g_aload_n (pc' := 1) C dX11_strait_0 0 rfl rfl ?_
  refine g_iconst (pc' := 2) (v := 0) C dX11_strait_1 (by decide) rfl ?_
  obtain ⟨s1, e2, h⟩ := let_some h
  refine gp_X11_153 (pc' := 5) C dX11_strait_2 rfl e2 ?_
  refine g_aload_n (pc' := 6) C dX11_strait_5 0 rfl rfl ?_
  refine g_iconst (pc' := 7) (v := 0) C dX11_strait_6 (by decide) rfl ?_
  obtain ⟨s3, e4, h⟩ := let_some h
  refine gp_X11_156 (pc' := 10) C rfl rfl dX11_strait_7 rfl e4 ?_
  refine g_aload_n (pc' := 11) C dX11_strait_10 0 rfl rfl ?_
  refine g_iconst (pc' := 12) (v := 0) C dX11_strait_11 (by decide) rfl ?_
  obtain ⟨s5, e6, h⟩ := let_some h
  refine gp_X11_171 (pc' := 15) C dX11_strait_12 rfl e6 ?_
  refine g_aload_n (pc' := 16) C dX11_strait_15 0 rfl rfl ?_
  refine g_iconst (pc' := 17) (v := 0) C dX11_strait_16 (by decide) rfl ?_
  obtain ⟨s7, e8, h⟩ := let_some h
  refine gp_X11_185 (pc' := 20) C dX11_strait_17 rfl e8 ?_
  refine g_iconst (pc' := 21) (v := 1) C dX11_strait_20 (by decide) rfl ?_
  refine g_istore_n (pc' := 22) (lv' := [(1, .int 1), (0, .ref (base + 0))]) C dX11_strait_21 rfl (by decide) rfl rfl ?_
  exact g_sub C [1, 0] rfl (w_X11_strait_L22 C hr hR _ _ _ h)
theorem c_X11_strait (l : Launch) (base : Nat) (D : va_G) (cA : Nat → ClassId) (σ : cr_S) (res : cr_S × Int32) (h : f_X11_strait σ = some res) : cr_M l yX11_strait cX11_strait 3 (some .int) 4 84 sfM 17 base D cA [.ref (base + 0)] σ (cr_Qi sfM 17 base D cA res) := by
  refine cr_enter [.ref (base + 0)] [(0, .ref (base + 0))] (by decide) (Nat.le_of_ble_eq_true rfl) rfl ?_
  intro p e R s m below meth c C hr hR
  exact w_X11_strait C hr hR σ h
noncomputable def f_X11_count (σ : cr_S) (a1 : Int32) : Option (cr_S × Int32) :=
  (if a1 = 0 then some (σ, rF σ 0 0) else (if a1 = 1 then some (σ, rF σ 0 1) else (if a1 = 2 then chk (inb (a1 - 2) 4) (some (σ, rA σ 3 (a1 - 2))) else (if a1 = 3 then chk (inb (a1 - 2) 4) (some (σ, rA σ 3 (a1 - 2))) else (if a1 = 4 then chk (inb (a1 - 2) 4) (some (σ, rA σ 3 (a1 - 2))) else (if a1 = 5 then chk (inb (a1 - 2) 4) (some (σ, rA σ 3 (a1 - 2))) else (if a1 = 6 then some (σ, rF σ 0 20) else (if a1 = 7 then some (σ, rF σ 0 22) else some (σ, (-1))))))))))
set_option maxRecDepth 100000 in
set_option maxHeartbeats 4000000 in
theorem w_X11_count (C : cr_C p l e R s m args below meth c sfM 17 base D cA cX11_count 2 RX11) (hr : meth.sig.returnType = some .int) (hR : 0 ≤ R.frames ∧ 0 ≤ R.locals) {res : cr_S × Int32} (σ : cr_S) (a1 : Int32) (h : f_X11_count σ a1 = some res) : cr_W p l e R s m args below meth c sfM 17 base D cA 2 (MQ below (cr_Qi sfM 17 base D cA res) args s 0 0 (cr_A 17 base)) σ 0 [(0, .ref (base + 0)), (1, .int a1)] [] := by
  unfold f_X11_count at h
  refine g_iload_n (pc' := 1) C dX11_count_0 1 rfl rfl ?_
  by_cases hc0 : a1 = 0
  · rw [if_pos hc0] at h
    refine g_tableIn (off := 47) (tgt := 48) C dX11_count_1 (by rw [hc0]; decide) (by rw [hc0]; decide) (by rw [hc0]; decide) (by decide) ?_
    refine g_aload_n (pc' := 49) C dX11_count_48 0 rfl rfl ?_
    refine gg_X11_63 (pc' := 52) C dX11_count_49 rfl ?_
    exact g_iret C hr dX11_count_52 h
  rw [if_neg hc0] at h
  by_cases hc1 : a1 = 1
  · rw [if_pos hc1] at h
    refine g_tableIn (off := 52) (tgt := 53) C dX11_count_1 (by rw [hc1]; decide) (by rw [hc1]; decide) (by rw [hc1]; decide) (by decide) ?_
    refine g_aload_n (pc' := 54) C dX11_count_53 0 rfl rfl ?_
    refine gg_X11_70 (pc' := 57) C dX11_count_54 rfl ?_
    exact g_iret C hr dX11_count_57 h
  rw [if_neg hc1] at h
  by_cases hc2 : a1 = 2
  · rw [if_pos hc2] at h
    refine g_tableIn (off := 57) (tgt := 58) C dX11_count_1 (by rw [hc2]; decide) (by rw [hc2]; decide) (by rw [hc2]; decide) (by decide) ?_
    refine g_aload_n (pc' := 59) C dX11_count_58 0 rfl rfl ?_
    refine gg_X11_16 (pc' := 62) C dX11_count_59 rfl ?_
    refine g_iload_n (pc' := 63) C dX11_count_62 1 rfl rfl ?_
    refine g_iconst (pc' := 64) (v := 2) C dX11_count_63 (by decide) rfl ?_
    refine g_isub (pc' := 65) C dX11_count_64 rfl ?_
    obtain ⟨h1, h⟩ := chk_some h
    refine g_iald (pc' := 66) C (o := 3) (by decide) rfl (inb_d h1) dX11_count_65 rfl ?_
    exact g_iret C hr dX11_count_66 h
  rw [if_neg hc2] at h
  by_cases hc3 : a1 = 3
  · rw [if_pos hc3] at h
    refine g_tableIn (off := 57) (tgt := 58) C dX11_count_1 (by rw [hc3]; decide) (by rw [hc3]; decide) (by rw [hc3]; decide) (by decide) ?_
    refine g_aload_n (pc' := 59) C dX11_count_58 0 rfl rfl ?_
    refine gg_X11_16 (pc' := 62) C dX11_count_59 rfl ?_
    refine g_iload_n (pc' := 63) C dX11_count_62 1 rfl rfl ?_
    refine g_iconst (pc' := 64) (v := 2) C dX11_count_63 (by decide) rfl ?_
    refine g_isub (pc' := 65) C dX11_count_64 rfl ?_
    obtain ⟨h2, h⟩ := chk_some h
    refine g_iald (pc' := 66) C (o := 3) (by decide) rfl (inb_d h2) dX11_count_65 rfl ?_
    exact g_iret C hr dX11_count_66 h
  rw [if_neg hc3] at h
  by_cases hc4 : a1 = 4
  · rw [if_pos hc4] at h
    refine g_tableIn (off := 57) (tgt := 58) C dX11_count_1 (by rw [hc4]; decide) (by rw [hc4]; decide) (by rw [hc4]; decide) (by decide) ?_
    refine g_aload_n (pc' := 59) C dX11_count_58 0 rfl rfl ?_
    refine gg_X11_16 (pc' := 62) C dX11_count_59 rfl ?_
    refine g_iload_n (pc' := 63) C dX11_count_62 1 rfl rfl ?_
    refine g_iconst (pc' := 64) (v := 2) C dX11_count_63 (by decide) rfl ?_
    refine g_isub (pc' := 65) C dX11_count_64 rfl ?_
    obtain ⟨h3, h⟩ := chk_some h
    refine g_iald (pc' := 66) C (o := 3) (by decide) rfl (inb_d h3) dX11_count_65 rfl ?_
    exact g_iret C hr dX11_count_66 h
  rw [if_neg hc4] at h
  by_cases hc5 : a1 = 5
  · rw [if_pos hc5] at h
    refine g_tableIn (off := 57) (tgt := 58) C dX11_count_1 (by rw [hc5]; decide) (by rw [hc5]; decide) (by rw [hc5]; decide) (by decide) ?_
    refine g_aload_n (pc' := 59) C dX11_count_58 0 rfl rfl ?_
    refine gg_X11_16 (pc' := 62) C dX11_count_59 rfl ?_
    refine g_iload_n (pc' := 63) C dX11_count_62 1 rfl rfl ?_
    refine g_iconst (pc' := 64) (v := 2) C dX11_count_63 (by decide) rfl ?_
    refine g_isub (pc' := 65) C dX11_count_64 rfl ?_
    obtain ⟨h4, h⟩ := chk_some h
    refine g_iald (pc' := 66) C (o := 3) (by decide) rfl (inb_d h4) dX11_count_65 rfl ?_
    exact g_iret C hr dX11_count_66 h
  rw [if_neg hc5] at h
  by_cases hc6 : a1 = 6
  · rw [if_pos hc6] at h
    refine g_tableIn (off := 66) (tgt := 67) C dX11_count_1 (by rw [hc6]; decide) (by rw [hc6]; decide) (by rw [hc6]; decide) (by decide) ?_
    refine g_aload_n (pc' := 68) C dX11_count_67 0 rfl rfl ?_
    refine gg_X11_197 (pc' := 71) C dX11_count_68 rfl ?_
    exact g_iret C hr dX11_count_71 h
  rw [if_neg hc6] at h
  by_cases hc7 : a1 = 7
  · rw [if_pos hc7] at h
    refine g_tableIn (off := 71) (tgt := 72) C dX11_count_1 (by rw [hc7]; decide) (by rw [hc7]; decide) (by rw [hc7]; decide) (by decide) ?_
    refine g_aload_n (pc' := 73) C dX11_count_72 0 rfl rfl ?_
    refine gg_X11_200 (pc' := 76) C dX11_count_73 rfl ?_
    exact g_iret C hr dX11_count_76 h
  rw [if_neg hc7] at h
  refine g_tableOut (tgt := 77) C dX11_count_1 (by have q0 : a1.toInt ≠ 0 := ne_toInt hc0; have q1 : a1.toInt ≠ 1 := ne_toInt hc1; have q2 : a1.toInt ≠ 2 := ne_toInt hc2; have q3 : a1.toInt ≠ 3 := ne_toInt hc3; have q4 : a1.toInt ≠ 4 := ne_toInt hc4; have q5 : a1.toInt ≠ 5 := ne_toInt hc5; have q6 : a1.toInt ≠ 6 := ne_toInt hc6; have q7 : a1.toInt ≠ 7 := ne_toInt hc7; omega) (by decide) ?_
  refine g_iconst (pc' := 78) (v := (-1)) C dX11_count_77 (by decide) rfl ?_
  exact g_iret C hr dX11_count_78 h
theorem c_X11_count (l : Launch) (base : Nat) (D : va_G) (cA : Nat → ClassId) (σ : cr_S) (a1 : Int32) (res : cr_S × Int32) (h : f_X11_count σ a1 = some res) : cr_M l yX11_count cX11_count 2 (some .int) 0 0 sfM 17 base D cA [.ref (base + 0), .int a1] σ (cr_Qi sfM 17 base D cA res) := by
  refine cr_enter [.ref (base + 0), .int a1] [(0, .ref (base + 0)), (1, .int a1)] (by decide) (Nat.le_of_ble_eq_true rfl) rfl ?_
  intro p e R s m below meth c C hr hR
  exact w_X11_count C hr hR σ a1 h
noncomputable def f_X11_notes_B75  (σ : cr_S) : Option (cr_S) :=
  cr_let (sF σ 0 20 ((rF σ 0 20) + 1)) (fun s1 => some s1)
set_option maxRecDepth 100000 in
set_option maxHeartbeats 4000000 in
theorem w_X11_notes_B75 (C : cr_C p l e R s m args below meth c sfM 17 base D cA cX11_notes 2 RX11) (hr : meth.sig.returnType = none) (hR : 0 ≤ R.frames ∧ 0 ≤ R.locals) {res : cr_S}  (σ : cr_S) (h : f_X11_notes_B75 σ = some res) : cr_W p l e R s m args below meth c sfM 17 base D cA 2 (MQ below (cr_Qv sfM 17 base D cA res) args s 0 0 (cr_A 17 base)) σ 75 [(0, .ref (base + 0))] [] := by
  unfold f_X11_notes_B75 at h
  refine g_aload_n (pc' := 76) C dX11_notes_75 0 rfl rfl ?_
  refine g_dup (pc' := 77) C dX11_notes_76 rfl rfl ?_
  refine gg_X11_197 (pc' := 80) C dX11_notes_77 rfl ?_
  refine g_iconst (pc' := 81) (v := 1) C dX11_notes_80 (by decide) rfl ?_
  refine g_iadd (pc' := 82) C dX11_notes_81 rfl ?_
  obtain ⟨s1, e2, h⟩ := let_some h
  refine gp_X11_197 (pc' := 85) C dX11_notes_82 rfl e2 ?_
  exact g_vret C hr dX11_notes_85 h
noncomputable def f_X11_notes_L45  : Nat → cr_S → Int32 → Option (cr_S)
  | 0, _, _ => none
  | n + 1, σ, x1 =>
    (if 4 ≤ x1 then f_X11_notes_B75 σ else chk (inb x1 4) (chk (inb ((4 * (rF σ 0 20)) + x1) 32) (cr_let (sA σ 8 ((4 * (rF σ 0 20)) + x1) (rA σ 3 x1)) (fun s5 => cr_let (x1 + 1) (fun v7 => f_X11_notes_L45 n s5 v7)))))
set_option maxRecDepth 100000 in
set_option maxHeartbeats 4000000 in
theorem w_X11_notes_L45 (C : cr_C p l e R s m args below meth c sfM 17 base D cA cX11_notes 2 RX11) (hr : meth.sig.returnType = none) (hR : 0 ≤ R.frames ∧ 0 ≤ R.locals) {res : cr_S}  : ∀ (n : Nat) (σ : cr_S) (x1 : Int32), f_X11_notes_L45 n σ x1 = some res → cr_W p l e R s m args below meth c sfM 17 base D cA 2 (MQ below (cr_Qv sfM 17 base D cA res) args s 0 0 (cr_A 17 base)) σ 45 [(0, .ref (base + 0)), (1, .int x1)] [] := by
  intro n
  induction n with
  | zero =>
    intro σ x1 h
    cases h
  | succ n ih =>
    intro σ x1 h
    rw [f_X11_notes_L45] at h
    refine g_iload_n (pc' := 46) C dX11_notes_45 1 rfl rfl ?_
    refine g_iconst (pc' := 47) (v := 4) C dX11_notes_46 (by decide) rfl ?_
    refine g_icmp_ge (pc' := 50) (tgt := 75) C dX11_notes_47 (by decide) rfl (fun hc => ?_) (fun hc => ?_)
    · rw [if_pos hc] at h
      exact g_sub C [0] rfl (w_X11_notes_B75 C hr hR _ h)
    · rw [if_neg hc] at h
      refine g_aload_n (pc' := 51) C dX11_notes_50 0 rfl rfl ?_
      refine gg_X11_35 (pc' := 54) C dX11_notes_51 rfl ?_
      refine g_iconst (pc' := 55) (v := 4) C dX11_notes_54 (by decide) rfl ?_
      refine g_aload_n (pc' := 56) C dX11_notes_55 0 rfl rfl ?_
      refine gg_X11_197 (pc' := 59) C dX11_notes_56 rfl ?_
      refine g_imul (pc' := 60) C dX11_notes_59 rfl ?_
      refine g_iload_n (pc' := 61) C dX11_notes_60 1 rfl rfl ?_
      refine g_iadd (pc' := 62) C dX11_notes_61 rfl ?_
      refine g_aload_n (pc' := 63) C dX11_notes_62 0 rfl rfl ?_
      refine gg_X11_16 (pc' := 66) C dX11_notes_63 rfl ?_
      refine g_iload_n (pc' := 67) C dX11_notes_66 1 rfl rfl ?_
      obtain ⟨h3, h⟩ := chk_some h
      refine g_iald (pc' := 68) C (o := 3) (by decide) rfl (inb_d h3) dX11_notes_67 rfl ?_
      obtain ⟨h4, h⟩ := chk_some h
      obtain ⟨s5, e6, h⟩ := let_some h
      refine g_iast (pc' := 69) C (o := 8) (by decide) rfl (inb_d h4) dX11_notes_68 rfl e6 ?_
      obtain ⟨v7, e8, h⟩ := let_some h
      refine g_iinc (pc' := 72) (v := v7) (lv' := [(1, .int v7), (0, .ref (base + 0))]) C dX11_notes_69 1 rfl (by rw [e8]; rfl) (by decide) rfl rfl ?_
      refine g_goto (tgt := 45) C dX11_notes_72 (by decide) ?_
      exact g_sub C [1, 0] rfl (ih _ _ h)
noncomputable def f_X11_notes_B43  (σ : cr_S) : Option (cr_S) :=
  f_X11_notes_L45 cr_fuel σ 0
set_option maxRecDepth 100000 in
set_option maxHeartbeats 4000000 in
theorem w_X11_notes_B43 (C : cr_C p l e R s m args below meth c sfM 17 base D cA cX11_notes 2 RX11) (hr : meth.sig.returnType = none) (hR : 0 ≤ R.frames ∧ 0 ≤ R.locals) {res : cr_S}  (σ : cr_S) (h : f_X11_notes_B43 σ = some res) : cr_W p l e R s m args below meth c sfM 17 base D cA 2 (MQ below (cr_Qv sfM 17 base D cA res) args s 0 0 (cr_A 17 base)) σ 43 [(0, .ref (base + 0))] [] := by
  unfold f_X11_notes_B43 at h
  refine g_iconst (pc' := 44) (v := 0) C dX11_notes_43 (by decide) rfl ?_
  refine g_istore_n (pc' := 45) (lv' := [(1, .int 0), (0, .ref (base + 0))]) C dX11_notes_44 rfl (by decide) rfl rfl ?_
  exact g_sub C [1, 0] rfl (w_X11_notes_L45 C hr hR _ _ _ h)
noncomputable def f_X11_notes_B37  (σ : cr_S) : Option (cr_S) :=
  cr_let (sF σ 0 20 7) (fun s9 => f_X11_notes_B43 s9)
set_option maxRecDepth 100000 in
set_option maxHeartbeats 4000000 in
theorem w_X11_notes_B37 (C : cr_C p l e R s m args below meth c sfM 17 base D cA cX11_notes 2 RX11) (hr : meth.sig.returnType = none) (hR : 0 ≤ R.frames ∧ 0 ≤ R.locals) {res : cr_S}  (σ : cr_S) (h : f_X11_notes_B37 σ = some res) : cr_W p l e R s m args below meth c sfM 17 base D cA 2 (MQ below (cr_Qv sfM 17 base D cA res) args s 0 0 (cr_A 17 base)) σ 37 [(0, .ref (base + 0))] [] := by
  unfold f_X11_notes_B37 at h
  refine g_aload_n (pc' := 38) C dX11_notes_37 0 rfl rfl ?_
  refine g_bipush (pc' := 40) (v := 7) C dX11_notes_38 (by decide) rfl ?_
  obtain ⟨s9, e10, h⟩ := let_some h
  refine gp_X11_197 (pc' := 43) C dX11_notes_40 rfl e10 ?_
  exact g_sub C [0] rfl (w_X11_notes_B43 C hr hR _ h)
noncomputable def f_X11_notes_L11  : Nat → cr_S → Int32 → Option (cr_S)
  | 0, _, _ => none
  | n + 1, σ, x1 =>
    (if 32 ≤ x1 then f_X11_notes_B37 σ else chk (inb x1 32) (chk (inb (x1 - 4) 32) (cr_let (sA σ 8 (x1 - 4) (rA σ 8 x1)) (fun s13 => cr_let (x1 + 1) (fun v15 => f_X11_notes_L11 n s13 v15)))))
set_option maxRecDepth 100000 in
set_option maxHeartbeats 4000000 in
theorem w_X11_notes_L11 (C : cr_C p l e R s m args below meth c sfM 17 base D cA cX11_notes 2 RX11) (hr : meth.sig.returnType = none) (hR : 0 ≤ R.frames ∧ 0 ≤ R.locals) {res : cr_S}  : ∀ (n : Nat) (σ : cr_S) (x1 : Int32), f_X11_notes_L11 n σ x1 = some res → cr_W p l e R s m args below meth c sfM 17 base D cA 2 (MQ below (cr_Qv sfM 17 base D cA res) args s 0 0 (cr_A 17 base)) σ 11 [(0, .ref (base + 0)), (1, .int x1)] [] := by
  intro n
  induction n with
  | zero =>
    intro σ x1 h
    cases h
  | succ n ih =>
    intro σ x1 h
    rw [f_X11_notes_L11] at h
    refine g_iload_n (pc' := 12) C dX11_notes_11 1 rfl rfl ?_
    refine g_bipush (pc' := 14) (v := 32) C dX11_notes_12 (by decide) rfl ?_
    refine g_icmp_ge (pc' := 17) (tgt := 37) C dX11_notes_14 (by decide) rfl (fun hc => ?_) (fun hc => ?_)
    · rw [if_pos hc] at h
      exact g_sub C [0] rfl (w_X11_notes_B37 C hr hR _ h)
    · rw [if_neg hc] at h
      refine g_aload_n (pc' := 18) C dX11_notes_17 0 rfl rfl ?_
      refine gg_X11_35 (pc' := 21) C dX11_notes_18 rfl ?_
      refine g_iload_n (pc' := 22) C dX11_notes_21 1 rfl rfl ?_
      refine g_iconst (pc' := 23) (v := 4) C dX11_notes_22 (by decide) rfl ?_
      refine g_isub (pc' := 24) C dX11_notes_23 rfl ?_
      refine g_aload_n (pc' := 25) C dX11_notes_24 0 rfl rfl ?_
      refine gg_X11_35 (pc' := 28) C dX11_notes_25 rfl ?_
      refine g_iload_n (pc' := 29) C dX11_notes_28 1 rfl rfl ?_
      obtain ⟨h11, h⟩ := chk_some h
      refine g_iald (pc' := 30) C (o := 8) (by decide) rfl (inb_d h11) dX11_notes_29 rfl ?_
      obtain ⟨h12, h⟩ := chk_some h
      obtain ⟨s13, e14, h⟩ := let_some h
      refine g_iast (pc' := 31) C (o := 8) (by decide) rfl (inb_d h12) dX11_notes_30 rfl e14 ?_
      obtain ⟨v15, e16, h⟩ := let_some h
      refine g_iinc (pc' := 34) (v := v15) (lv' := [(1, .int v15), (0, .ref (base + 0))]) C dX11_notes_31 1 rfl (by rw [e16]; rfl) (by decide) rfl rfl ?_
      refine g_goto (tgt := 11) C dX11_notes_34 (by decide) ?_
      exact g_sub C [1, 0] rfl (ih _ _ h)
noncomputable def f_X11_notes (σ : cr_S) : Option (cr_S) :=
  (if (rF σ 0 20) = 8 then f_X11_notes_L11 cr_fuel σ 4 else f_X11_notes_B43 σ)
set_option maxRecDepth 100000 in
set_option maxHeartbeats 4000000 in
theorem w_X11_notes (C : cr_C p l e R s m args below meth c sfM 17 base D cA cX11_notes 2 RX11) (hr : meth.sig.returnType = none) (hR : 0 ≤ R.frames ∧ 0 ≤ R.locals) {res : cr_S} (σ : cr_S) (h : f_X11_notes σ = some res) : cr_W p l e R s m args below meth c sfM 17 base D cA 2 (MQ below (cr_Qv sfM 17 base D cA res) args s 0 0 (cr_A 17 base)) σ 0 [(0, .ref (base + 0))] [] := by
  unfold f_X11_notes at h
  refine g_aload_n (pc' := 1) C dX11_notes_0 0 rfl rfl ?_
  refine gg_X11_197 (pc' := 4) C dX11_notes_1 rfl ?_
  refine g_bipush (pc' := 6) (v := 8) C dX11_notes_4 (by decide) rfl ?_
  refine g_icmp_ne (pc' := 9) (tgt := 43) C dX11_notes_6 (by decide) rfl (fun hc => ?_) (fun hc => ?_)
  · rw [if_neg hc] at h
    exact g_sub C [0] rfl (w_X11_notes_B43 C hr hR _ h)
  · rw [if_pos hc] at h
    refine g_iconst (pc' := 10) (v := 4) C dX11_notes_9 (by decide) rfl ?_
    refine g_istore_n (pc' := 11) (lv' := [(1, .int 4), (0, .ref (base + 0))]) C dX11_notes_10 rfl (by decide) rfl rfl ?_
    exact g_sub C [1, 0] rfl (w_X11_notes_L11 C hr hR _ _ _ h)
theorem c_X11_notes (l : Launch) (base : Nat) (D : va_G) (cA : Nat → ClassId) (σ : cr_S) (res : cr_S) (h : f_X11_notes σ = some res) : cr_M l yX11_notes cX11_notes 2 none 0 0 sfM 17 base D cA [.ref (base + 0)] σ (cr_Qv sfM 17 base D cA res) := by
  refine cr_enter [.ref (base + 0)] [(0, .ref (base + 0))] (by decide) (Nat.le_of_ble_eq_true rfl) rfl ?_
  intro p e R s m below meth c C hr hR
  exact w_X11_notes C hr hR σ h
noncomputable def f_X11_setOut_B37  (σ : cr_S) (x1 : Int32) : Option (cr_S × Int32) :=
  Option.bind (f_X11_notes σ) (fun q3 => cr_let (sA q3 3 1 x1) (fun s5 => cr_let (sA s5 3 2 0) (fun s7 => cr_let (sA s7 3 3 0) (fun s9 => some (s9, rF s9 0 0)))))
set_option maxRecDepth 100000 in
set_option maxHeartbeats 4000000 in
theorem w_X11_setOut_B37 (C : cr_C p l e R s m args below meth c sfM 17 base D cA cX11_setOut 2 RX11) (hr : meth.sig.returnType = some .int) (hR : 2 ≤ R.frames ∧ 46 ≤ R.locals) {res : cr_S × Int32}  (σ : cr_S) (x1 : Int32) (h : f_X11_setOut_B37 σ x1 = some res) : cr_W p l e R s m args below meth c sfM 17 base D cA 2 (MQ below (cr_Qi sfM 17 base D cA res) args s 0 0 (cr_A 17 base)) σ 37 [(0, .ref (base + 0)), (1, .int x1)] [] := by
  unfold f_X11_setOut_B37 at h
  refine g_aload_n (pc' := 38) C dX11_setOut_37 0 rfl rfl ?_
  obtain ⟨q3, h4, h⟩ := bind_some h
  refine g_callVv (pc' := 41) (res := q3) C [] cY_X11_notes rfl (o := 0) (by decide) rfl mv_X11_notes mm_X11_203 ⟨Nat.le_trans (by decide) hR.1, Nat.le_trans (by decide) hR.2⟩ rfl (Nat.le_of_ble_eq_true rfl) rfl dX11_setOut_38 (c_X11_notes l base D cA σ q3 h4) rfl ?_
  refine g_aload_n (pc' := 42) C dX11_setOut_41 0 rfl rfl ?_
  refine gg_X11_16 (pc' := 45) C dX11_setOut_42 rfl ?_
  refine g_iconst (pc' := 46) (v := 1) C dX11_setOut_45 (by decide) rfl ?_
  refine g_iload_n (pc' := 47) C dX11_setOut_46 1 rfl rfl ?_
  obtain ⟨s5, e6, h⟩ := let_some h
  refine g_iast (pc' := 48) C (o := 3) (by decide) rfl (inb_d (by decide)) dX11_setOut_47 rfl e6 ?_
  refine g_aload_n (pc' := 49) C dX11_setOut_48 0 rfl rfl ?_
  refine gg_X11_16 (pc' := 52) C dX11_setOut_49 rfl ?_
  refine g_iconst (pc' := 53) (v := 2) C dX11_setOut_52 (by decide) rfl ?_
  refine g_iconst (pc' := 54) (v := 0) C dX11_setOut_53 (by decide) rfl ?_
  obtain ⟨s7, e8, h⟩ := let_some h
  refine g_iast (pc' := 55) C (o := 3) (by decide) rfl (inb_d (by decide)) dX11_setOut_54 rfl e8 ?_
  refine g_aload_n (pc' := 56) C dX11_setOut_55 0 rfl rfl ?_
  refine gg_X11_16 (pc' := 59) C dX11_setOut_56 rfl ?_
  refine g_iconst (pc' := 60) (v := 3) C dX11_setOut_59 (by decide) rfl ?_
  refine g_iconst (pc' := 61) (v := 0) C dX11_setOut_60 (by decide) rfl ?_
  obtain ⟨s9, e10, h⟩ := let_some h
  refine g_iast (pc' := 62) C (o := 3) (by decide) rfl (inb_d (by decide)) dX11_setOut_61 rfl e10 ?_
  refine g_aload_n (pc' := 63) C dX11_setOut_62 0 rfl rfl ?_
  refine gg_X11_63 (pc' := 66) C dX11_setOut_63 rfl ?_
  exact g_iret C hr dX11_setOut_66 h
noncomputable def f_X11_setOut (σ : cr_S) (a1 : Int32) : Option (cr_S × Int32) :=
  Option.bind (f_X11_isShip σ a1) (fun q1 => (if q1.2 = 0 then some (q1.1, (-1)) else (if (rA q1.1 3 1) = (-4) then f_X11_setOut_B37 q1.1 a1 else (if (rF q1.1 0 0) ≤ (rA q1.1 3 2) then f_X11_setOut_B37 q1.1 a1 else some (q1.1, (-2))))))
set_option maxRecDepth 100000 in
set_option maxHeartbeats 4000000 in
theorem w_X11_setOut (C : cr_C p l e R s m args below meth c sfM 17 base D cA cX11_setOut 2 RX11) (hr : meth.sig.returnType = some .int) (hR : 2 ≤ R.frames ∧ 46 ≤ R.locals) {res : cr_S × Int32} (σ : cr_S) (a1 : Int32) (h : f_X11_setOut σ a1 = some res) : cr_W p l e R s m args below meth c sfM 17 base D cA 2 (MQ below (cr_Qi sfM 17 base D cA res) args s 0 0 (cr_A 17 base)) σ 0 [(0, .ref (base + 0)), (1, .int a1)] [] := by
  unfold f_X11_setOut at h
  refine g_aload_n (pc' := 1) C dX11_setOut_0 0 rfl rfl ?_
  refine g_iload_n (pc' := 2) C dX11_setOut_1 1 rfl rfl ?_
  obtain ⟨q1, h2, h⟩ := bind_some h
  refine g_callVi (pc' := 5) (res := q1) C [.int a1] cY_X11_isShip rfl (o := 0) (by decide) rfl mv_X11_isShip mm_X11_105 ⟨Nat.le_trans (by decide) hR.1, Nat.le_trans (by decide) hR.2⟩ rfl (Nat.le_of_ble_eq_true rfl) rfl dX11_setOut_2 (c_X11_isShip l base D cA σ a1 q1 h2) rfl ?_
  refine g_if_ne (pc' := 8) (tgt := 10) C dX11_setOut_5 (by decide) rfl (fun hc => ?_) (fun hc => ?_)
  · rw [if_neg hc] at h
    refine g_aload_n (pc' := 11) C dX11_setOut_10 0 rfl rfl ?_
    refine gg_X11_16 (pc' := 14) C dX11_setOut_11 rfl ?_
    refine g_iconst (pc' := 15) (v := 1) C dX11_setOut_14 (by decide) rfl ?_
    refine g_iald (pc' := 16) C (o := 3) (by decide) rfl (inb_d (by decide)) dX11_setOut_15 rfl ?_
    refine g_bipush (pc' := 18) (v := (-4)) C dX11_setOut_16 (by decide) rfl ?_
    refine g_icmp_eq (pc' := 21) (tgt := 37) C dX11_setOut_18 (by decide) rfl (fun hc => ?_) (fun hc => ?_)
    · rw [if_pos hc] at h
      exact g_sub C [0, 1] rfl (w_X11_setOut_B37 C hr hR _ _ h)
    · rw [if_neg hc] at h
      refine g_aload_n (pc' := 22) C dX11_setOut_21 0 rfl rfl ?_
      refine gg_X11_16 (pc' := 25) C dX11_setOut_22 rfl ?_
      refine g_iconst (pc' := 26) (v := 2) C dX11_setOut_25 (by decide) rfl ?_
      refine g_iald (pc' := 27) C (o := 3) (by decide) rfl (inb_d (by decide)) dX11_setOut_26 rfl ?_
      refine g_aload_n (pc' := 28) C dX11_setOut_27 0 rfl rfl ?_
      refine gg_X11_63 (pc' := 31) C dX11_setOut_28 rfl ?_
      refine g_icmp_ge (pc' := 34) (tgt := 37) C dX11_setOut_31 (by decide) rfl (fun hc => ?_) (fun hc => ?_)
      · rw [if_pos hc] at h
        exact g_sub C [0, 1] rfl (w_X11_setOut_B37 C hr hR _ _ h)
      · rw [if_neg hc] at h
        refine g_bipush (pc' := 36) (v := (-2)) C dX11_setOut_34 (by decide) rfl ?_
        exact g_iret C hr dX11_setOut_36 h
  · rw [if_pos hc] at h
    refine g_iconst (pc' := 9) (v := (-1)) C dX11_setOut_8 (by decide) rfl ?_
    exact g_iret C hr dX11_setOut_9 h
theorem c_X11_setOut (l : Launch) (base : Nat) (D : va_G) (cA : Nat → ClassId) (σ : cr_S) (a1 : Int32) (res : cr_S × Int32) (h : f_X11_setOut σ a1 = some res) : cr_M l yX11_setOut cX11_setOut 2 (some .int) 2 46 sfM 17 base D cA [.ref (base + 0), .int a1] σ (cr_Qi sfM 17 base D cA res) := by
  refine cr_enter [.ref (base + 0), .int a1] [(0, .ref (base + 0)), (1, .int a1)] (by decide) (Nat.le_of_ble_eq_true rfl) rfl ?_
  intro p e R s m below meth c C hr hR
  exact w_X11_setOut C hr hR σ a1 h
noncomputable def f_X11_idle (σ : cr_S) (a1 : Int32) : Option (cr_S × Int32) :=
  Option.bind (f_X11_in σ (Int32.toInt64 a1) 1 99) (fun q1 => (if q1.2 = 0 then some (q1.1, (-1)) else (if ((rA q1.1 3 0) + a1) ≤ 9999 then Option.bind (f_X11_notes q1.1) (fun q3 => cr_let (sA q3 3 0 ((rA q3 3 0) + a1)) (fun s5 => some (s5, rA s5 3 0))) else some (q1.1, (-3)))))
set_option maxRecDepth 100000 in
set_option maxHeartbeats 4000000 in
theorem w_X11_idle (C : cr_C p l e R s m args below meth c sfM 17 base D cA cX11_idle 2 RX11) (hr : meth.sig.returnType = some .int) (hR : 1 ≤ R.frames ∧ 25 ≤ R.locals) {res : cr_S × Int32} (σ : cr_S) (a1 : Int32) (h : f_X11_idle σ a1 = some res) : cr_W p l e R s m args below meth c sfM 17 base D cA 2 (MQ below (cr_Qi sfM 17 base D cA res) args s 0 0 (cr_A 17 base)) σ 0 [(0, .ref (base + 0)), (1, .int a1)] [] := by
  unfold f_X11_idle at h
  refine g_iload_n (pc' := 1) C dX11_idle_0 1 rfl rfl ?_
  refine g_i2l (pc' := 2) C dX11_idle_1 rfl ?_
  refine g_lconst (pc' := 3) (v := 1) C dX11_idle_2 (by decide) rfl ?_
  refine g_ldc2 (pc' := 6) (v := 99) C dX11_idle_3 ml_X11_206 rfl ?_
  obtain ⟨q1, h2, h⟩ := bind_some h
  refine g_callSi (pc' := 9) (res := q1) C [.long (Int32.toInt64 a1), .long 1, .long 99] cY_X11_in mv_X11_in mm_X11_66 ⟨Nat.le_trans (by decide) hR.1, Nat.le_trans (by decide) hR.2⟩ rfl (Nat.le_of_ble_eq_true rfl) rfl dX11_idle_6 (c_X11_in l base D cA σ (Int32.toInt64 a1) 1 99 q1 h2) rfl ?_
  refine g_if_ne (pc' := 12) (tgt := 14) C dX11_idle_9 (by decide) rfl (fun hc => ?_) (fun hc => ?_)
  · rw [if_neg hc] at h
    refine g_aload_n (pc' := 15) C dX11_idle_14 0 rfl rfl ?_
    refine gg_X11_16 (pc' := 18) C dX11_idle_15 rfl ?_
    refine g_iconst (pc' := 19) (v := 0) C dX11_idle_18 (by decide) rfl ?_
    refine g_iald (pc' := 20) C (o := 3) (by decide) rfl (inb_d (by decide)) dX11_idle_19 rfl ?_
    refine g_iload_n (pc' := 21) C dX11_idle_20 1 rfl rfl ?_
    refine g_iadd (pc' := 22) C dX11_idle_21 rfl ?_
    refine g_sipush (pc' := 25) (v := 9999) C dX11_idle_22 (by decide) rfl ?_
    refine g_icmp_le (pc' := 28) (tgt := 31) C dX11_idle_25 (by decide) rfl (fun hc => ?_) (fun hc => ?_)
    · rw [if_pos hc] at h
      refine g_aload_n (pc' := 32) C dX11_idle_31 0 rfl rfl ?_
      obtain ⟨q3, h4, h⟩ := bind_some h
      refine g_callVv (pc' := 35) (res := q3) C [] cY_X11_notes rfl (o := 0) (by decide) rfl mv_X11_notes mm_X11_203 ⟨Nat.le_trans (by decide) hR.1, Nat.le_trans (by decide) hR.2⟩ rfl (Nat.le_of_ble_eq_true rfl) rfl dX11_idle_32 (c_X11_notes l base D cA q1.1 q3 h4) rfl ?_
      refine g_aload_n (pc' := 36) C dX11_idle_35 0 rfl rfl ?_
      refine gg_X11_16 (pc' := 39) C dX11_idle_36 rfl ?_
      refine g_iconst (pc' := 40) (v := 0) C dX11_idle_39 (by decide) rfl ?_
      refine g_dup2 (pc' := 41) C dX11_idle_40 rfl rfl rfl ?_
      refine g_iald (pc' := 42) C (o := 3) (by decide) rfl (inb_d (by decide)) dX11_idle_41 rfl ?_
      refine g_iload_n (pc' := 43) C dX11_idle_42 1 rfl rfl ?_
      refine g_iadd (pc' := 44) C dX11_idle_43 rfl ?_
      obtain ⟨s5, e6, h⟩ := let_some h
      refine g_iast (pc' := 45) C (o := 3) (by decide) rfl (inb_d (by decide)) dX11_idle_44 rfl e6 ?_
      refine g_aload_n (pc' := 46) C dX11_idle_45 0 rfl rfl ?_
      refine gg_X11_16 (pc' := 49) C dX11_idle_46 rfl ?_
      refine g_iconst (pc' := 50) (v := 0) C dX11_idle_49 (by decide) rfl ?_
      refine g_iald (pc' := 51) C (o := 3) (by decide) rfl (inb_d (by decide)) dX11_idle_50 rfl ?_
      exact g_iret C hr dX11_idle_51 h
    · rw [if_neg hc] at h
      refine g_bipush (pc' := 30) (v := (-3)) C dX11_idle_28 (by decide) rfl ?_
      exact g_iret C hr dX11_idle_30 h
  · rw [if_pos hc] at h
    refine g_iconst (pc' := 13) (v := (-1)) C dX11_idle_12 (by decide) rfl ?_
    exact g_iret C hr dX11_idle_13 h
theorem c_X11_idle (l : Launch) (base : Nat) (D : va_G) (cA : Nat → ClassId) (σ : cr_S) (a1 : Int32) (res : cr_S × Int32) (h : f_X11_idle σ a1 = some res) : cr_M l yX11_idle cX11_idle 2 (some .int) 1 25 sfM 17 base D cA [.ref (base + 0), .int a1] σ (cr_Qi sfM 17 base D cA res) := by
  refine cr_enter [.ref (base + 0), .int a1] [(0, .ref (base + 0)), (1, .int a1)] (by decide) (Nat.le_of_ble_eq_true rfl) rfl ?_
  intro p e R s m below meth c C hr hR
  exact w_X11_idle C hr hR σ a1 h
noncomputable def f_X11_pass_B165  (σ : cr_S) (t0 : Int32) (t1 : Int32) (t2 : Int32) : Option (cr_S × Int32) :=
  chk (inb t2 4) (cr_let (sA σ 3 t2 (t1 + t0)) (fun s25 => some (s25, rF s25 0 6)))
set_option maxRecDepth 100000 in
set_option maxHeartbeats 4000000 in
theorem w_X11_pass_B165 (C : cr_C p l e R s m args below meth c sfM 17 base D cA cX11_pass 4 RX11) (hr : meth.sig.returnType = some .int) (hR : 3 ≤ R.frames ∧ 74 ≤ R.locals) {res : cr_S × Int32}  (σ : cr_S) (t0 : Int32) (t1 : Int32) (t2 : Int32) (h : f_X11_pass_B165 σ t0 t1 t2 = some res) : cr_W p l e R s m args below meth c sfM 17 base D cA 4 (MQ below (cr_Qi sfM 17 base D cA res) args s 0 0 (cr_A 17 base)) σ 165 [(0, .ref (base + 0))] [.int t0, .int t1, .int t2, .ref (base + 3)] := by
  unfold f_X11_pass_B165 at h
  refine g_iadd (pc' := 166) C dX11_pass_165 rfl ?_
  obtain ⟨h24, h⟩ := chk_some h
  obtain ⟨s25, e26, h⟩ := let_some h
  refine g_iast (pc' := 167) C (o := 3) (by decide) rfl (inb_d h24) dX11_pass_166 rfl e26 ?_
  refine g_aload_n (pc' := 168) C dX11_pass_167 0 rfl rfl ?_
  refine gg_X11_127 (pc' := 171) C dX11_pass_168 rfl ?_
  exact g_iret C hr dX11_pass_171 h
noncomputable def f_X11_pass_B143  (σ : cr_S) (t0 : Int32) (t1 : Int32) (t2 : Int32) : Option (cr_S × Int32) :=
  chk (inb t2 4) (cr_let (sA σ 3 t2 (t1 + t0)) (fun s22 => f_X11_pass_B165 s22 (if (rF s22 0 6) = 1 then 1 else 0) (rA s22 3 3) 3))
set_option maxRecDepth 100000 in
set_option maxHeartbeats 4000000 in
theorem w_X11_pass_B143 (C : cr_C p l e R s m args below meth c sfM 17 base D cA cX11_pass 4 RX11) (hr : meth.sig.returnType = some .int) (hR : 3 ≤ R.frames ∧ 74 ≤ R.locals) {res : cr_S × Int32}  (σ : cr_S) (t0 : Int32) (t1 : Int32) (t2 : Int32) (h : f_X11_pass_B143 σ t0 t1 t2 = some res) : cr_W p l e R s m args below meth c sfM 17 base D cA 4 (MQ below (cr_Qi sfM 17 base D cA res) args s 0 0 (cr_A 17 base)) σ 143 [(0, .ref (base + 0))] [.int t0, .int t1, .int t2, .ref (base + 3)] := by
  unfold f_X11_pass_B143 at h
  refine g_iadd (pc' := 144) C dX11_pass_143 rfl ?_
  obtain ⟨h21, h⟩ := chk_some h
  obtain ⟨s22, e23, h⟩ := let_some h
  refine g_iast (pc' := 145) C (o := 3) (by decide) rfl (inb_d h21) dX11_pass_144 rfl e23 ?_
  refine g_aload_n (pc' := 146) C dX11_pass_145 0 rfl rfl ?_
  refine gg_X11_16 (pc' := 149) C dX11_pass_146 rfl ?_
  refine g_iconst (pc' := 150) (v := 3) C dX11_pass_149 (by decide) rfl ?_
  refine g_dup2 (pc' := 151) C dX11_pass_150 rfl rfl rfl ?_
  refine g_iald (pc' := 152) C (o := 3) (by decide) rfl (inb_d (by decide)) dX11_pass_151 rfl ?_
  refine g_aload_n (pc' := 153) C dX11_pass_152 0 rfl rfl ?_
  refine gg_X11_127 (pc' := 156) C dX11_pass_153 rfl ?_
  refine g_iconst (pc' := 157) (v := 1) C dX11_pass_156 (by decide) rfl ?_
  refine g_iteI (σ := s22) (pj := 165) (lv := [(0, .ref (base + 0))]) (st := [.int (rA s22 3 3), .int 3, .ref (base + 3)]) (cd := (rF s22 0 6) = 1) (a := 1) (b := 0) C ?_ (fun kt kf => ?_)
  · exact g_sub C [0] rfl (w_X11_pass_B165 C hr hR _ _ _ _ h)
  · refine g_icmp_ne (pc' := 160) (tgt := 164) C dX11_pass_157 (by decide) rfl (fun hc => ?_) (fun hc => ?_)
    · refine g_iconst (pc' := 165) (v := 0) C dX11_pass_164 (by decide) rfl ?_
      exact kf hc
    · refine g_iconst (pc' := 161) (v := 1) C dX11_pass_160 (by decide) rfl ?_
      refine g_goto (tgt := 165) C dX11_pass_161 (by decide) ?_
      exact kt hc
noncomputable def f_X11_pass_B122  (σ : cr_S) (t0 : Int32) (t1 : Int32) : Option (cr_S × Int32) :=
  chk (inb t1 4) (cr_let (sA σ 3 t1 t0) (fun s19 => f_X11_pass_B143 s19 (if (rF s19 0 6) = 2 then 0 else 1) (rA s19 3 2) 2))
set_option maxRecDepth 100000 in
set_option maxHeartbeats 4000000 in
theorem w_X11_pass_B122 (C : cr_C p l e R s m args below meth c sfM 17 base D cA cX11_pass 4 RX11) (hr : meth.sig.returnType = some .int) (hR : 3 ≤ R.frames ∧ 74 ≤ R.locals) {res : cr_S × Int32}  (σ : cr_S) (t0 : Int32) (t1 : Int32) (h : f_X11_pass_B122 σ t0 t1 = some res) : cr_W p l e R s m args below meth c sfM 17 base D cA 4 (MQ below (cr_Qi sfM 17 base D cA res) args s 0 0 (cr_A 17 base)) σ 122 [(0, .ref (base + 0))] [.int t0, .int t1, .ref (base + 3)] := by
  unfold f_X11_pass_B122 at h
  obtain ⟨h18, h⟩ := chk_some h
  obtain ⟨s19, e20, h⟩ := let_some h
  refine g_iast (pc' := 123) C (o := 3) (by decide) rfl (inb_d h18) dX11_pass_122 rfl e20 ?_
  refine g_aload_n (pc' := 124) C dX11_pass_123 0 rfl rfl ?_
  refine gg_X11_16 (pc' := 127) C dX11_pass_124 rfl ?_
  refine g_iconst (pc' := 128) (v := 2) C dX11_pass_127 (by decide) rfl ?_
  refine g_dup2 (pc' := 129) C dX11_pass_128 rfl rfl rfl ?_
  refine g_iald (pc' := 130) C (o := 3) (by decide) rfl (inb_d (by decide)) dX11_pass_129 rfl ?_
  refine g_aload_n (pc' := 131) C dX11_pass_130 0 rfl rfl ?_
  refine gg_X11_127 (pc' := 134) C dX11_pass_131 rfl ?_
  refine g_iconst (pc' := 135) (v := 2) C dX11_pass_134 (by decide) rfl ?_
  refine g_iteI (σ := s19) (pj := 143) (lv := [(0, .ref (base + 0))]) (st := [.int (rA s19 3 2), .int 2, .ref (base + 3)]) (cd := (rF s19 0 6) = 2) (a := 0) (b := 1) C ?_ (fun kt kf => ?_)
  · exact g_sub C [0] rfl (w_X11_pass_B143 C hr hR _ _ _ _ h)
  · refine g_icmp_ne (pc' := 138) (tgt := 142) C dX11_pass_135 (by decide) rfl (fun hc => ?_) (fun hc => ?_)
    · refine g_iconst (pc' := 143) (v := 1) C dX11_pass_142 (by decide) rfl ?_
      exact kf hc
    · refine g_iconst (pc' := 139) (v := 0) C dX11_pass_138 (by decide) rfl ?_
      refine g_goto (tgt := 143) C dX11_pass_139 (by decide) ?_
      exact kt hc
noncomputable def f_X11_pass (σ : cr_S) (a1 : Int32) : Option (cr_S × Int32) :=
  cr_let (rA σ 3 1) (fun v1 => cr_let (rA σ 3 2) (fun v3 => (if v1 = (-4) then some (σ, (-2)) else (if v3 < (rF σ 0 0) then Option.bind (f_X11_low σ v1) (fun q5 => Option.bind (f_X11_high q5.1 v1) (fun q7 => Option.bind (f_X11_in q7.1 (Int32.toInt64 a1) (Int32.toInt64 q5.2) (Int32.toInt64 q7.2)) (fun q9 => (if q9.2 = 0 then some (q9.1, (-1)) else chk (inb ((5 * v3) + 4) 30) (Option.bind (f_X11_passes q9.1 v1 v3 (rA q9.1 1 ((5 * v3) + 4)) (rA q9.1 3 0) a1) (fun q12 => (if (rF q12 0 7) ≤ 9999 then Option.bind (f_X11_notes q12) (fun q14 => cr_let (sA q14 3 0 (rF q14 0 7)) (fun s16 => f_X11_pass_B122 s16 (if (rF s16 0 6) = 2 then (-4) else v1) 1)) else some (q12, (-3))))))))) else some (σ, (-2))))))
set_option maxRecDepth 100000 in
set_option maxHeartbeats 4000000 in
theorem w_X11_pass (C : cr_C p l e R s m args below meth c sfM 17 base D cA cX11_pass 4 RX11) (hr : meth.sig.returnType = some .int) (hR : 3 ≤ R.frames ∧ 74 ≤ R.locals) {res : cr_S × Int32} (σ : cr_S) (a1 : Int32) (h : f_X11_pass σ a1 = some res) : cr_W p l e R s m args below meth c sfM 17 base D cA 4 (MQ below (cr_Qi sfM 17 base D cA res) args s 0 0 (cr_A 17 base)) σ 0 [(0, .ref (base + 0)), (1, .int a1)] [] := by
  unfold f_X11_pass at h
  refine g_aload_n (pc' := 1) C dX11_pass_0 0 rfl rfl ?_
  refine gg_X11_16 (pc' := 4) C dX11_pass_1 rfl ?_
  refine g_iconst (pc' := 5) (v := 1) C dX11_pass_4 (by decide) rfl ?_
  refine g_iald (pc' := 6) C (o := 3) (by decide) rfl (inb_d (by decide)) dX11_pass_5 rfl ?_
  obtain ⟨v1, e2, h⟩ := let_some h
  refine g_nameI e2 ?_
  refine g_istore_n (pc' := 7) (lv' := [(2, .int v1), (0, .ref (base + 0)), (1, .int a1)]) C dX11_pass_6 rfl (by decide) rfl rfl ?_
  refine g_aload_n (pc' := 8) C dX11_pass_7 1 rfl rfl ?_
  refine gg_X11_16 (pc' := 11) C dX11_pass_8 rfl ?_
  refine g_iconst (pc' := 12) (v := 2) C dX11_pass_11 (by decide) rfl ?_
  refine g_iald (pc' := 13) C (o := 3) (by decide) rfl (inb_d (by decide)) dX11_pass_12 rfl ?_
  obtain ⟨v3, e4, h⟩ := let_some h
  refine g_nameI e4 ?_
  refine g_istore_n (pc' := 14) (lv' := [(3, .int v3), (2, .int v1), (0, .ref (base + 0)), (1, .int a1)]) C dX11_pass_13 rfl (by decide) rfl rfl ?_
  refine g_iload_n (pc' := 15) C dX11_pass_14 1 rfl rfl ?_
  refine g_bipush (pc' := 17) (v := (-4)) C dX11_pass_15 (by decide) rfl ?_
  refine g_icmp_eq (pc' := 20) (tgt := 28) C dX11_pass_17 (by decide) rfl (fun hc => ?_) (fun hc => ?_)
  · rw [if_pos hc] at h
    refine g_bipush (pc' := 30) (v := (-2)) C dX11_pass_28 (by decide) rfl ?_
    exact g_iret C hr dX11_pass_30 h
  · rw [if_neg hc] at h
    refine g_iload_n (pc' := 21) C dX11_pass_20 0 rfl rfl ?_
    refine g_aload_n (pc' := 22) C dX11_pass_21 2 rfl rfl ?_
    refine gg_X11_63 (pc' := 25) C dX11_pass_22 rfl ?_
    refine g_icmp_lt (pc' := 28) (tgt := 31) C dX11_pass_25 (by decide) rfl (fun hc => ?_) (fun hc => ?_)
    · rw [if_pos hc] at h
      refine g_iload_n (pc' := 32) C dX11_pass_31 3 rfl rfl ?_
      refine g_i2l (pc' := 33) C dX11_pass_32 rfl ?_
      refine g_aload_n (pc' := 34) C dX11_pass_33 2 rfl rfl ?_
      refine g_iload_n (pc' := 35) C dX11_pass_34 1 rfl rfl ?_
      obtain ⟨q5, h6, h⟩ := bind_some h
      refine g_callVi (pc' := 38) (res := q5) C [.int v1] cY_X11_low rfl (o := 0) (by decide) rfl mv_X11_low mm_X11_108 ⟨Nat.le_trans (by decide) hR.1, Nat.le_trans (by decide) hR.2⟩ rfl (Nat.le_of_ble_eq_true rfl) rfl dX11_pass_35 (c_X11_low l base D cA σ v1 q5 h6) rfl ?_
      refine g_i2l (pc' := 39) C dX11_pass_38 rfl ?_
      refine g_aload_n (pc' := 40) C dX11_pass_39 2 rfl rfl ?_
      refine g_iload_n (pc' := 41) C dX11_pass_40 1 rfl rfl ?_
      obtain ⟨q7, h8, h⟩ := bind_some h
      refine g_callVi (pc' := 44) (res := q7) C [.int v1] cY_X11_high rfl (o := 0) (by decide) rfl mv_X11_high mm_X11_101 ⟨Nat.le_trans (by decide) hR.1, Nat.le_trans (by decide) hR.2⟩ rfl (Nat.le_of_ble_eq_true rfl) rfl dX11_pass_41 (c_X11_high l base D cA q5.1 v1 q7 h8) rfl ?_
      refine g_i2l (pc' := 45) C dX11_pass_44 rfl ?_
      obtain ⟨q9, h10, h⟩ := bind_some h
      refine g_callSi (pc' := 48) (res := q9) C [.long (Int32.toInt64 a1), .long (Int32.toInt64 q5.2), .long (Int32.toInt64 q7.2)] cY_X11_in mv_X11_in mm_X11_66 ⟨Nat.le_trans (by decide) hR.1, Nat.le_trans (by decide) hR.2⟩ rfl (Nat.le_of_ble_eq_true rfl) rfl dX11_pass_45 (c_X11_in l base D cA q7.1 (Int32.toInt64 a1) (Int32.toInt64 q5.2) (Int32.toInt64 q7.2) q9 h10) rfl ?_
      refine g_if_ne (pc' := 51) (tgt := 53) C dX11_pass_48 (by decide) rfl (fun hc => ?_) (fun hc => ?_)
      · rw [if_neg hc] at h
        refine g_aload_n (pc' := 54) C dX11_pass_53 2 rfl rfl ?_
        refine g_iload_n (pc' := 55) C dX11_pass_54 1 rfl rfl ?_
        refine g_iload_n (pc' := 56) C dX11_pass_55 0 rfl rfl ?_
        refine g_aload_n (pc' := 57) C dX11_pass_56 2 rfl rfl ?_
        refine gg_X11_7 (pc' := 60) C dX11_pass_57 rfl ?_
        refine g_iconst (pc' := 61) (v := 5) C dX11_pass_60 (by decide) rfl ?_
        refine g_iload_n (pc' := 62) C dX11_pass_61 0 rfl rfl ?_
        refine g_imul (pc' := 63) C dX11_pass_62 rfl ?_
        refine g_iconst (pc' := 64) (v := 4) C dX11_pass_63 (by decide) rfl ?_
        refine g_iadd (pc' := 65) C dX11_pass_64 rfl ?_
        obtain ⟨h11, h⟩ := chk_some h
        refine g_iald (pc' := 66) C (o := 1) (by decide) rfl (inb_d h11) dX11_pass_65 rfl ?_
        refine g_aload_n (pc' := 67) C dX11_pass_66 2 rfl rfl ?_
        refine gg_X11_16 (pc' := 70) C dX11_pass_67 rfl ?_
        refine g_iconst (pc' := 71) (v := 0) C dX11_pass_70 (by decide) rfl ?_
        refine g_iald (pc' := 72) C (o := 3) (by decide) rfl (inb_d (by decide)) dX11_pass_71 rfl ?_
        refine g_iload_n (pc' := 73) C dX11_pass_72 3 rfl rfl ?_
        obtain ⟨q12, h13, h⟩ := bind_some h
        refine g_callVv (pc' := 76) (res := q12) C [.int v1, .int v3, .int (rA q9.1 1 ((5 * v3) + 4)), .int (rA q9.1 3 0), .int a1] cY_X11_passes rfl (o := 0) (by decide) rfl mv_X11_passes mm_X11_139 ⟨Nat.le_trans (by decide) hR.1, Nat.le_trans (by decide) hR.2⟩ rfl (Nat.le_of_ble_eq_true rfl) rfl dX11_pass_73 (c_X11_passes l base D cA q9.1 v1 v3 (rA q9.1 1 ((5 * v3) + 4)) (rA q9.1 3 0) a1 q12 h13) rfl ?_
        refine g_aload_n (pc' := 77) C dX11_pass_76 2 rfl rfl ?_
        refine gg_X11_130 (pc' := 80) C dX11_pass_77 rfl ?_
        refine g_sipush (pc' := 83) (v := 9999) C dX11_pass_80 (by decide) rfl ?_
        refine g_icmp_le (pc' := 86) (tgt := 89) C dX11_pass_83 (by decide) rfl (fun hc => ?_) (fun hc => ?_)
        · rw [if_pos hc] at h
          refine g_aload_n (pc' := 90) C dX11_pass_89 2 rfl rfl ?_
          obtain ⟨q14, h15, h⟩ := bind_some h
          refine g_callVv (pc' := 93) (res := q14) C [] cY_X11_notes rfl (o := 0) (by decide) rfl mv_X11_notes mm_X11_203 ⟨Nat.le_trans (by decide) hR.1, Nat.le_trans (by decide) hR.2⟩ rfl (Nat.le_of_ble_eq_true rfl) rfl dX11_pass_90 (c_X11_notes l base D cA q12 q14 h15) rfl ?_
          refine g_aload_n (pc' := 94) C dX11_pass_93 2 rfl rfl ?_
          refine gg_X11_16 (pc' := 97) C dX11_pass_94 rfl ?_
          refine g_iconst (pc' := 98) (v := 0) C dX11_pass_97 (by decide) rfl ?_
          refine g_aload_n (pc' := 99) C dX11_pass_98 2 rfl rfl ?_
          refine gg_X11_130 (pc' := 102) C dX11_pass_99 rfl ?_
          obtain ⟨s16, e17, h⟩ := let_some h
          refine g_iast (pc' := 103) C (o := 3) (by decide) rfl (inb_d (by decide)) dX11_pass_102 rfl e17 ?_
          refine g_aload_n (pc' := 104) C dX11_pass_103 2 rfl rfl ?_
          refine gg_X11_16 (pc' := 107) C dX11_pass_104 rfl ?_
          refine g_iconst (pc' := 108) (v := 1) C dX11_pass_107 (by decide) rfl ?_
          refine g_aload_n (pc' := 109) C dX11_pass_108 2 rfl rfl ?_
          refine gg_X11_127 (pc' := 112) C dX11_pass_109 rfl ?_
          refine g_iconst (pc' := 113) (v := 2) C dX11_pass_112 (by decide) rfl ?_
          refine g_iteI (σ := s16) (pj := 122) (lv := [(3, .int v3), (2, .int v1), (0, .ref (base + 0)), (1, .int a1)]) (st := [.int 1, .ref (base + 3)]) (cd := (rF s16 0 6) = 2) (a := (-4)) (b := v1) C ?_ (fun kt kf => ?_)
          · exact g_sub C [2] rfl (w_X11_pass_B122 C hr hR _ _ _ h)
          · refine g_icmp_ne (pc' := 116) (tgt := 121) C dX11_pass_113 (by decide) rfl (fun hc => ?_) (fun hc => ?_)
            · refine g_iload_n (pc' := 122) C dX11_pass_121 1 rfl rfl ?_
              exact kf hc
            · refine g_bipush (pc' := 118) (v := (-4)) C dX11_pass_116 (by decide) rfl ?_
              refine g_goto (tgt := 122) C dX11_pass_118 (by decide) ?_
              exact kt hc
        · rw [if_neg hc] at h
          refine g_bipush (pc' := 88) (v := (-3)) C dX11_pass_86 (by decide) rfl ?_
          exact g_iret C hr dX11_pass_88 h
      · rw [if_pos hc] at h
        refine g_iconst (pc' := 52) (v := (-1)) C dX11_pass_51 (by decide) rfl ?_
        exact g_iret C hr dX11_pass_52 h
    · rw [if_neg hc] at h
      refine g_bipush (pc' := 30) (v := (-2)) C dX11_pass_28 (by decide) rfl ?_
      exact g_iret C hr dX11_pass_30 h
theorem c_X11_pass (l : Launch) (base : Nat) (D : va_G) (cA : Nat → ClassId) (σ : cr_S) (a1 : Int32) (res : cr_S × Int32) (h : f_X11_pass σ a1 = some res) : cr_M l yX11_pass cX11_pass 4 (some .int) 3 74 sfM 17 base D cA [.ref (base + 0), .int a1] σ (cr_Qi sfM 17 base D cA res) := by
  refine cr_enter [.ref (base + 0), .int a1] [(0, .ref (base + 0)), (1, .int a1)] (by decide) (Nat.le_of_ble_eq_true rfl) rfl ?_
  intro p e R s m below meth c C hr hR
  exact w_X11_pass C hr hR σ a1 h
end

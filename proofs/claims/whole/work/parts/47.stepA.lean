/-! the steps: of, told, open, count, seed, forget; look, type; pair, phase, ship -/
theorem L_0 : (0 : Int64) = Int32.toInt64 0 := by decide
theorem L_1 : (1 : Int64) = Int32.toInt64 1 := by decide
theorem L_2 : (2 : Int64) = Int32.toInt64 2 := by decide
theorem L_3 : (3 : Int64) = Int32.toInt64 3 := by decide
theorem L_4 : (4 : Int64) = Int32.toInt64 4 := by decide
theorem L_5 : (5 : Int64) = Int32.toInt64 5 := by decide
theorem L_9 : (9 : Int64) = Int32.toInt64 9 := by decide
theorem L_24 : (24 : Int64) = Int32.toInt64 24 := by decide
theorem L_30 : (30 : Int64) = Int32.toInt64 30 := by decide
theorem L_32 : (32 : Int64) = Int32.toInt64 32 := by decide
theorem L_48 : (48 : Int64) = Int32.toInt64 48 := by decide
theorem L_57 : (57 : Int64) = Int32.toInt64 57 := by decide
theorem L_99 : (99 : Int64) = Int32.toInt64 99 := by decide
theorem L_126 : (126 : Int64) = Int32.toInt64 126 := by decide
theorem L_999 : (999 : Int64) = Int32.toInt64 999 := by decide
theorem L_9999 : (9999 : Int64) = Int32.toInt64 9999 := by decide
theorem L_99999 : (99999 : Int64) = Int32.toInt64 99999 := by decide
theorem n_7 : (7 : Int32) = nI 7 := id rfl
theorem n_8 : (8 : Int32) = nI 8 := id rfl
theorem n_9 : (9 : Int32) = nI 9 := id rfl
theorem n_12 : (12 : Int32) = nI 12 := id rfl
theorem n_16 : (16 : Int32) = nI 16 := id rfl
theorem n_24 : (24 : Int32) = nI 24 := id rfl
theorem n_30 : (30 : Int32) = nI 30 := id rfl
theorem n_48 : (48 : Int32) = nI 48 := id rfl
theorem n_57 : (57 : Int32) = nI 57 := id rfl
theorem n_60 : (60 : Int32) = nI 60 := id rfl
theorem n_99 : (99 : Int32) = nI 99 := id rfl
theorem n_100 : (100 : Int32) = nI 100 := id rfl
theorem n_126 : (126 : Int32) = nI 126 := id rfl
theorem n_400 : (400 : Int32) = nI 400 := id rfl
theorem n_999 : (999 : Int32) = nI 999 := id rfl
theorem n_9999 : (9999 : Int32) = nI 9999 := id rfl
theorem n_99999 : (99999 : Int32) = nI 99999 := id rfl
theorem C_isPair {σ : cr_S} {a : Int32} : f_X10_isPair σ a = some (σ, bI (inR a 0 (σ.1 1 5 - 1))) := by
  simp only [f_X10_isPair, C_within, Option.bind_some, chk_t (isB_b _), rF]
theorem C_isShip {σ : cr_S} {a : Int32} : f_X10_isShip σ a = some (σ, bI (inR a 0 (σ.1 1 6 - 1))) := by
  simp only [f_X10_isShip, C_within, Option.bind_some, chk_t (isB_b _), rF]
theorem M_isPair {τ : cr_S} {a : Int32} : f_X11_isPair τ a = some (τ, bI (inR a 0 (τ.1 0 0 - 1))) := by
  simp only [f_X11_isPair, L_0, M_in, Option.bind_some, chk_t (isB_b _), rF]
theorem M_isShip {τ : cr_S} {a : Int32} : f_X11_isShip τ a = some (τ, bI (inR a 0 (τ.1 0 1 - 1))) := by
  simp only [f_X11_isShip, L_0, M_in, Option.bind_some, chk_t (isB_b _), rF]
theorem M_isSecond {τ : cr_S} {a : Int32} : f_X11_isSecond τ a = some (τ, bI (inR a 0 9999)) := by
  simp only [f_X11_isSecond, L_0, L_9999, M_in, Option.bind_some, chk_t (isB_b _)]
theorem C_isBegin {σ : cr_S} {a b : Int32} : f_X10_isBegin σ a b = some (σ, bI (inR a 0 (σ.1 1 6 - 1) && inR b 0 9999)) := by
  simp only [f_X10_isBegin, C_isShip, C_within, Option.bind_some]
  cases inR a 0 (σ.1 1 6 - 1) <;> cases inR b 0 9999 <;> simp [bI]
theorem S_of {σ τ : cr_S} {a b : Int32} (h : Inv σ τ) : Step σ τ (f_X10_of σ a b) (f_X11_of τ a b) := by
  have h0 := h
  obtain ⟨⟨np, ns, nu, nl, Ps, Ss, hm⟩, -⟩ := h
  have hc := rM_c hm
  have hM := rM_m hm
  have hnp := hc.2.1
  unfold f_X10_of f_X11_of
  simp only [C_isPair, M_isPair, hc.1, hM.1, Option.bind_some, L_0, L_4, M_in]
  cases hq : inR a 0 (nI np - 1)
  · exact ⟨σ, τ, -1, by simp [bI], by simp [bI], h0⟩
  · obtain ⟨k, hk, rfl⟩ := inR_n (by omega) hq
    obtain ⟨kc, cv, -⟩ := hc.2.2 k hk
    obtain ⟨-, mv, -⟩ := hM.2.2 k hk
    cases hq2 : inR b 0 4
    · have ne : ∀ v : Int32, inR v 0 4 = true → ¬ b = v := fun v hv e => by rw [e, hv] at hq2; cases hq2
      exact ⟨σ, τ, -1, by simp (disch := omega) [bI, chk_i, ne 0 (by decide), ne 1 (by decide), ne 2 (by decide), ne 3 (by decide), ne 4 (by decide)], by simp [bI], h0⟩
    · obtain ⟨j, hj, rfl⟩ := inR_m (n := 4) (by omega) hq2
      refine ⟨σ, τ, nI (Ps k j), ?_, ?_, h0⟩
      · simp (disch := omega) only [chk_i, nI_clamp, bI_t, n_0, n_1, n_2, n_3, n_4, eq_n, rF, chk_t kc]
        have c0 := cv 0 (by omega)
        have c1 := cv 1 (by omega)
        have c2 := cv 2 (by omega)
        have c3 := cv 3 (by omega)
        have c4 := cv 4 (by omega)
        rcases (show j = 0 ∨ j = 1 ∨ j = 2 ∨ j = 3 ∨ j = 4 by omega) with rfl | rfl | rfl | rfl | rfl <;> simp [c0, c1, c2, c3, c4]
      · simp (disch := omega) only [bI_t, n_0, n_1, n_5, eq_n, pk_mul, nI_add, chk_i, rA_n, mv j (by omega)]
        simp
theorem S_told {σ τ : cr_S} {a b : Int32} (h : Inv σ τ) : Step σ τ (f_X10_told σ a b) (f_X11_told τ a b) := by
  have h0 := h
  obtain ⟨⟨np, ns, nu, nl, Ps, Ss, hm⟩, -⟩ := h
  have h1 := hm.2.1
  unfold f_X10_told f_X11_told
  simp only [C_isShip, M_isShip, h1.1, h1.2.1, Option.bind_some, L_0, L_5, M_in]
  cases hq : inR a 0 (nI ns - 1)
  · exact ⟨σ, τ, -1, by simp [bI], by simp [bI], h0⟩
  · obtain ⟨k, hk, rfl⟩ := inR_n (by omega) hq
    have cS1 := rM_cS hm hk
    have mS1 := rM_mS hm hk
    have cv := cS1.2.1
    have mv := mS1.2.1
    have hns := h1.2.2
    cases hq2 : inR b 0 5
    · have ne : ∀ v : Int32, inR v 0 5 = true → ¬ b = v := fun v hv e => by rw [e, hv] at hq2; cases hq2
      exact ⟨σ, τ, -1, by simp (disch := omega) [bI, chk_i, ne 0 (by decide), ne 1 (by decide), ne 2 (by decide), ne 3 (by decide), ne 4 (by decide), ne 5 (by decide)], by simp [bI], h0⟩
    · obtain ⟨j, hj, rfl⟩ := inR_m (n := 5) (by omega) hq2
      simp (disch := omega) only [chk_i, nI_clamp, bI_t, n_0, n_1, n_2, n_3, n_4, n_5, eq_n, le_n, rF, chk_t cS1.1, C_low cS1, C_high cS1, C_span cS1, M_low mS1, M_high mS1, M_span mS1, Option.bind_some, pk_mul, nI_add, rA_n]
      have c0 := cv 0 (by omega)
      have c1 := cv 1 (by omega)
      have c2 := cv 2 (by omega)
      have m0 := mv 0 (by omega)
      have m1 := mv 1 (by omega)
      have m2 := mv 2 (by omega)
      rcases (show j = 0 ∨ j = 1 ∨ j = 2 ∨ j = 3 ∨ j = 4 ∨ j = 5 by omega) with rfl | rfl | rfl | rfl | rfl | rfl
      · rw [Nat.add_zero] at m0
        exact ⟨σ, τ, nI (Ss k 0), by simp [c0], by simp (disch := omega) [chk_i, rA_n, m0], h0⟩
      · exact ⟨σ, τ, nI (Ss k 1), by simp [c1], by simp (disch := omega) [chk_i, rA_n, m1], h0⟩
      · exact ⟨σ, τ, nI (Ss k 2), by simp [c2], by simp (disch := omega) [chk_i, rA_n, m2], h0⟩
      · exact ⟨σ, τ, nI (loN (Ss k)), by simp, by simp, h0⟩
      · exact ⟨σ, τ, nI (hiN (Ss k)), by simp, by simp, h0⟩
      · exact ⟨σ, τ, nI (spN (Ss k)), by simp, by simp, h0⟩
theorem C_isOpenNow {σ : cr_S} {o t : Nat} {P : Nat → Nat} (hP : cP σ o P) (ht : t < 500000) : f_X3_isOpenNow σ o (nI t) = some (σ, bI (openN P t (P 4))) := by
  have v4 := hP.2.1 4 (by omega)
  have a1 := hP.2.2.2.2.2.2.2.2.2
  have a2 := hP.2.2.2.2.2.2.1
  simp (disch := omega) only [f_X3_isOpenNow, chk_t hP.1, rF, v4, C_isOpenAt hP, Option.bind_some, chk_t (isB_b _)]
theorem M_open {τ : cr_S} {k t np : Nat} {Ps : Nat → Nat → Nat} (hM : mStr τ np Ps) (hk : k < np) (ht : t ≤ 99999) : f_X11_open τ (nI k) (nI t) = some (τ, bI (openN (Ps k) t (Ps k 4))) := by
  have hP := hM.2.2 k hk
  have hnp := hM.2.1
  have v4 := hP.2.1 4 (by omega)
  have a1 := hP.2.2.2.2.2.2.2.2.2
  have a2 := hP.2.2.2.2.2.2.1
  have q1 : inR (nI k) 0 (nI np - 1) = true := by
    unfold inR
    rw [n_0, n_1]
    simp (disch := omega) [sub_n, le_n]
    omega
  have q2 : inR (nI t) 0 99999 = true := by
    unfold inR
    rw [n_0, n_99999]
    simp (disch := omega) [le_n]
    omega
  unfold f_X11_open
  simp only [M_isPair, hM.1, q1, Option.bind_some, L_0, L_99999, M_in, q2, bI_t]
  simp (disch := omega) only [n_5, n_4, pk_mul, nI_add, chk_i, rA_n, v4, M_isOpen hP, Option.bind_some]
  cases openN (Ps k) t (Ps k 4) <;> simp [bI]
theorem S_open {σ τ : cr_S} {a b : Int32} (h : Inv σ τ) : Step σ τ (f_X10_open σ a b) (f_X11_open τ a b) := by
  have h0 := h
  obtain ⟨⟨np, ns, nu, nl, Ps, Ss, hm⟩, -⟩ := h
  have hc := rM_c hm
  have hM := rM_m hm
  have hnp := hc.2.1
  cases hq : inR a 0 (nI np - 1)
  · exact ⟨σ, τ, -1, by simp [f_X10_open, C_isPair, hc.1, hq, bI], by simp [f_X11_open, M_isPair, hM.1, hq, bI], h0⟩
  · obtain ⟨k, hk, rfl⟩ := inR_n (by omega) hq
    cases hq2 : inR b 0 99999
    · exact ⟨σ, τ, -1, by simp [f_X10_open, C_isPair, C_within, hc.1, hq, hq2, bI], by simp only [f_X11_open, M_isPair, hM.1, hq, L_0, L_99999, M_in, hq2, Option.bind_some]; simp [bI], h0⟩
    · obtain ⟨t, ht, rfl⟩ := inR_m (n := 99999) (by omega) hq2
      refine ⟨σ, τ, bI (openN (Ps k) t (Ps k 4)), ?_, M_open hM hk ht, h0⟩
      have hP := hc.2.2 k hk
      unfold f_X10_open
      simp (disch := omega) only [C_isPair, hc.1, hq, C_within, hq2, bI_t, Option.bind_some, chk_i, nI_clamp, C_isOpenNow hP, chk_t hP.1, f_X10_oneIf, ite_b]
      simp
theorem S_count {σ τ : cr_S} {a : Int32} (h : Inv σ τ) : Step σ τ (f_X10_count σ a) (f_X11_count τ a) := by
  have h0 := h
  obtain ⟨⟨np, ns, nu, nl, Ps, Ss, hm⟩, -⟩ := h
  obtain ⟨⟨a1, a2, a3⟩, ⟨b1, b2, b3⟩, c1, ⟨d1, d2, d3⟩, ⟨f1, f2, f3⟩, -, -, ⟨clk, psd, v1, v2, v3, v4, v5, v6, v7, v8⟩, -⟩ := hm
  have v8' : (if σ.1 4 1 = -1 then (-4 : Int32) else σ.1 4 1) = τ.2.1 3 1 := by
    rcases v8 with ⟨w1, w2⟩ | ⟨o, ho, w1, w2⟩
    · have w1' : σ.1 4 1 = -1 := w1
      rw [if_pos w1', w2]
    · have w1' : σ.1 4 1 = nI o := w1
      rw [w1', w2, if_neg]
      intro q
      have := congrArg Int32.toInt q
      rw [nI_toInt (by omega)] at this
      have e : (-1 : Int32).toInt = -1 := rfl
      omega
  have v3' : σ.1 4 0 = nI clk := v3
  have v5' : σ.1 4 2 = nI psd := v5
  have v7' : σ.1 4 3 = τ.2.1 3 3 := v7
  have f1' : σ.1 6 2 = nI nl := f1
  unfold f_X10_count f_X11_count
  by_cases e0 : a = 0
  · subst e0; exact ⟨σ, τ, nI np, by simp [rF, a1], by simp [rF, a2], h0⟩
  by_cases e1 : a = 1
  · subst e1; exact ⟨σ, τ, nI ns, by simp [rF, b1], by simp [rF, b2], h0⟩
  by_cases e2 : a = 2
  · subst e2; exact ⟨σ, τ, nI clk, by simp [rF, v3'], by simp (disch := omega) [n_2, n_0, n_1, eq_n, sub_n, chk_i, rA_n, v4], h0⟩
  by_cases e3 : a = 3
  · subst e3; exact ⟨σ, τ, τ.2.1 3 1, by simp [rF]; exact v8', by simp (disch := omega) [n_2, n_3, n_0, n_1, eq_n, sub_n, chk_i, rA_n], h0⟩
  by_cases e4 : a = 4
  · subst e4; exact ⟨σ, τ, nI psd, by simp [rF, v5'], by simp (disch := omega) [n_2, n_3, n_4, n_0, n_1, eq_n, sub_n, chk_i, rA_n, v6], h0⟩
  by_cases e5 : a = 5
  · subst e5; exact ⟨σ, τ, τ.2.1 3 3, by simp [rF, v7'], by simp (disch := omega) [n_2, n_3, n_4, n_5, n_0, n_1, eq_n, sub_n, chk_i, rA_n], h0⟩
  by_cases e6 : a = 6
  · subst e6; exact ⟨σ, τ, nI nu, by simp [rF, d1], by simp [rF, d2], h0⟩
  by_cases e7 : a = 7
  · subst e7; exact ⟨σ, τ, nI nl, by simp [rF, f1'], by simp [rF, f2], h0⟩
  exact ⟨σ, τ, -1, by simp [e0, e1, e2, e3, e4, e5, e6, e7], by simp [e0, e1, e2, e3, e4, e5, e6, e7], h0⟩

/-! the steps: setOut, idle, undo, pass -/
theorem Inv_main {σ τ σ' τ' : cr_S} {np ns nu nl : Nat} {Ps Ss : Nat → Nat → Nat} (h : Inv σ τ) (hm : rMain σ' τ' np ns nu nl Ps Ss) (c1 : ∀ o, (o = 0 ∨ 28 ≤ o) → (o < 70 ∨ 88 ≤ o) → σ'.1 o = σ.1 o) (c2 : ∀ o, 28 ≤ o → (o < 70 ∨ 88 ≤ o) → σ'.2.1 o = σ.2.1 o) (c3 : σ'.2.2 = σ.2.2) (m1 : τ'.1 0 29 = τ.1 0 29) (m2 : τ'.1 0 12 = τ.1 0 12) (m3 : τ'.2.1 5 = τ.2.1 5) (m4 : τ'.2.1 12 = τ.2.1 12) (m5 : τ'.2.1 13 = τ.2.1 13) (m6 : τ'.2.1 14 = τ.2.1 14) (m7 : τ'.2.2 = τ.2.2) : Inv σ' τ' := by
  obtain ⟨-, hk, ht, hs⟩ := h
  exact ⟨⟨np, ns, nu, nl, Ps, Ss, hm⟩, rKp_of hk (fun o j q => by rw [c1 o (by omega) (by omega)]) (fun o j q1 q2 => by rw [c2 o q1 (by omega)]) m1 m4, rTp_of ht (by rw [c1 55 (by omega) (by omega)]) (c2 56 (by omega) (by omega)) m2 m3, rSh_of hs (fun o j q => by rw [c1 o (by omega) (by omega)]) c3 m5 m6 m7⟩
theorem rMain_now {σ τ σ' τ' : cr_S} {np ns nu nl : Nat} {Ps Ss : Nat → Nat → Nat} (h : rMain σ τ np ns nu nl Ps Ss) (c1 : ∀ o, o ≠ 4 → o < 70 → σ'.1 o = σ.1 o) (c2 : ∀ o, o < 70 → σ'.2.1 o = σ.2.1 o) (m1 : ∀ j, mKeep j → τ'.1 0 j = τ.1 0 j) (m2 : ∀ o, o ≠ 3 → o ≠ 4 → o ≠ 9 → o ≠ 6 → o ≠ 7 → τ'.2.1 o = τ.2.1 o) (hv : rVoy (σ'.1 4) (τ'.2.1 3) ns) : rMain σ' τ' np ns nu nl Ps Ss := by
  obtain ⟨⟨a1, a2, a3⟩, ⟨b1, b2, b3⟩, e1, ⟨d1, d2, d3⟩, ⟨f1, f2, f3⟩, g, i, v, u, kk⟩ := h
  refine ⟨⟨by rw [c1 1 (by omega) (by omega)]; exact a1, by rw [m1 0 (by unfold mKeep; omega)]; exact a2, a3⟩, ⟨by rw [c1 1 (by omega) (by omega)]; exact b1, by rw [m1 1 (by unfold mKeep; omega)]; exact b2, b3⟩, by rw [c1 1 (by omega) (by omega), m1 5 (by unfold mKeep; omega)]; exact e1, ⟨by rw [c1 1 (by omega) (by omega)]; exact d1, by rw [m1 20 (by unfold mKeep; omega)]; exact d2, d3⟩, ⟨by rw [c1 _ (by omega) (by omega)]; exact f1, by rw [m1 22 (by unfold mKeep; omega)]; exact f2, f3⟩, fun k hk => ?_, fun k hk => ?_, hv, fun k hk => ?_, fun k hk => ?_⟩
  · rw [c1 _ (by omega) (by omega), m2 1 (by omega) (by omega) (by omega) (by omega) (by omega)]; exact g k hk
  · rw [c1 _ (by omega) (by omega), m2 2 (by omega) (by omega) (by omega) (by omega) (by omega)]; exact i k hk
  · rw [c1 _ (by omega) (by omega), m2 8 (by omega) (by omega) (by omega) (by omega) (by omega)]; exact u k hk
  · rw [c2 _ (by omega), c2 _ (by omega), m2 10 (by omega) (by omega) (by omega) (by omega) (by omega), m2 11 (by omega) (by omega) (by omega) (by omega) (by omega)]; exact kk k hk
theorem m1_ne (n : Nat) (h : n < 1000000) : ¬ nI n = (-1) := by
  intro q
  have := congrArg Int32.toInt q
  rw [nI_toInt (by omega)] at this
  have e : (-1 : Int32).toInt = -1 := rfl
  omega
theorem S_setOutB {σ τ : cr_S} {k : Nat} (h : Inv σ τ) {np ns nu nl : Nat} {Ps Ss : Nat → Nat → Nat} (hm : rMain σ τ np ns nu nl Ps Ss) (hk : k < ns) : Step σ τ (f_X10_setOut_B43 σ (nI k)) (f_X11_setOut_B37 τ (nI k)) := by
  obtain ⟨σ1, τ1, nu', p1, q1, hm1, p2, p3, p4, q2, q3, q4⟩ := S_rem hm
  have v := hm1.2.2.2.2.2.2.2.1
  have b3 := hm1.2.1.2.2
  obtain ⟨clk, psd, v1, v2, v3, v4, -⟩ := v
  have e5 : σ1.1 1 5 = nI np := hm1.1.1
  have e0 : τ1.1 0 0 = nI np := hm1.1.2.1
  refine ⟨sF (sF (sF σ1 4 1 (nI k)) 4 2 (nI 0)) 4 3 (nI 0), sA (sA (sA τ1 3 (nI 1) (nI k)) 3 (nI 2) (nI 0)) 3 (nI 3) (nI 0), nI np, ?_, ?_, Inv_main h (rMain_now hm1 (fun o h1 h2 => by simp (disch := omega) only [sF_o]) (fun o _ => rfl) (fun j _ => rfl) (fun o h1 _ _ _ _ => by simp (disch := omega) only [sA_o]) ⟨clk, 0, v1, by omega, ?_, ?_, ?_, ?_, ?_, Or.inr ⟨k, hk, ?_, ?_⟩⟩) (fun o h1 h2 => ?_) (fun o h1 h2 => ?_) ?_ ?_ ?_ ?_ ?_ ?_ ?_ ?_⟩
  · simp (disch := omega) only [f_X10_setOut_B43, p1, Option.bind_some, cr_let, f_X8_begin, chk_t (show kC 4 = 8 by decide), n_0, rF, sF_o, e5]
  · simp (disch := omega) only [f_X11_setOut_B37, q1, Option.bind_some, cr_let, n_0, n_1, n_2, n_3, rF, sA_1, e0]
  · simp (disch := omega) only [sF_k]; exact v3
  · simp (disch := omega) only [sA_k]; exact v4
  · simp (disch := omega) only [sF_k, sF_s]
  · simp (disch := omega) only [sA_k, sA_s]
  · simp (disch := omega) only [sF_s, sA_s]
  · simp (disch := omega) only [sF_k, sF_s]
  · simp (disch := omega) only [sA_k, sA_s]
  · simp (disch := omega) only [sF_o]; exact p3 o (by omega) (by omega)
  · simp (disch := omega) only [sF_2, p2]
  · simp (disch := omega) only [sF_2, p2]
  · exact q2 29 (by omega)
  · exact q2 12 (by omega)
  · simp (disch := omega) only [sA_o]; exact q3 5 (by omega)
  · simp (disch := omega) only [sA_o]; exact q3 12 (by omega)
  · simp (disch := omega) only [sA_o]; exact q3 13 (by omega)
  · simp (disch := omega) only [sA_o]; exact q3 14 (by omega)
  · exact q4
theorem S_setOut {σ τ : cr_S} {a : Int32} (h : Inv σ τ) : Step σ τ (f_X10_setOut σ a) (f_X11_setOut τ a) := by
  have h0 := h
  obtain ⟨⟨np, ns, nu, nl, Ps, Ss, hm⟩, -⟩ := h
  have h1 := hm.2.1
  have hp := hm.1
  cases hq : inR a 0 (nI ns - 1)
  · exact ⟨σ, τ, -1, by simp [f_X10_setOut, C_isShip, h1.1, hq, bI], by simp [f_X11_setOut, M_isShip, h1.2.1, hq, bI], h0⟩
  obtain ⟨k, hk, rfl⟩ := inR_n (by omega) hq
  have hB := S_setOutB h0 hm hk
  obtain ⟨clk, psd, v1, v2, v3, v4, v5, v6, v7, v8⟩ := hm.2.2.2.2.2.2.2.1
  have v5' : σ.1 4 2 = nI psd := v5
  have r1 : rA τ 3 1 = τ.2.1 3 1 := by rw [n_1, rA_n (by omega)]
  have r2 : rA τ 3 2 = nI psd := by rw [n_2, rA_n (by omega)]; exact v6
  unfold f_X10_setOut f_X11_setOut
  simp only [C_isShip, M_isShip, h1.1, h1.2.1, hq, Option.bind_some, bI_t, rF, v5', hp.1, hp.2.1, r1, r2]
  rcases v8 with ⟨w1, w2⟩ | ⟨o, ho, w1, w2⟩
  · have w1' : σ.1 4 1 = -1 := w1
    rw [w1', w2]
    simpa using hB
  · have w1' : σ.1 4 1 = nI o := w1
    have e1 := m1_ne o (by omega)
    have e4 := m4_ne o (by omega)
    rw [w1', w2]
    have le := le_n (a := np) (b := psd) (by omega) (by omega)
    by_cases z : np ≤ psd
    · simpa [e1, e4, z, le] using hB
    · exact ⟨σ, τ, -2, by simp [e1, z, le], by simp [e4, z, le], h0⟩
theorem S_idle {σ τ : cr_S} {a : Int32} (h : Inv σ τ) : Step σ τ (f_X10_idle σ a) (f_X11_idle τ a) := by
  have h0 := h
  obtain ⟨⟨np, ns, nu, nl, Ps, Ss, hm⟩, -⟩ := h
  unfold f_X10_idle f_X11_idle
  simp only [C_within, Option.bind_some, L_1, L_99, M_in]
  cases hq : inR a 1 99
  · exact ⟨σ, τ, -1, by simp [bI], by simp [bI], h0⟩
  obtain ⟨k, k1, k2, rfl⟩ := inR_l (l := 1) (n := 99) (by omega) (by omega) hq
  obtain ⟨clk, psd, v1, v2, v3, v4, v5, v6, v7, v8⟩ := hm.2.2.2.2.2.2.2.1
  have v3' : σ.1 4 0 = nI clk := v3
  simp (disch := omega) only [bI_t, rF, v3', n_0, n_1, rA_n, v4, nI_add, n_9999, le_n]
  by_cases z : clk + k ≤ 9999
  · obtain ⟨σ1, τ1, nu', p1, q1, hm1, p2, p3, p4, q2, q3, q4⟩ := S_rem hm
    obtain ⟨clk', psd', w1, w2, w3, w4, w5, w6, w7, w8⟩ := hm1.2.2.2.2.2.2.2.1
    have e4 : σ1.1 4 0 = nI clk := by rw [p3 4 (by omega) (by omega)]; exact v3'
    have e3 : τ1.2.1 3 0 = nI clk := by rw [q3 3 (by omega)]; exact v4
    refine ⟨sF σ1 4 0 (nI (clk + k)), sA τ1 3 (nI 0) (nI (clk + k)), nI (clk + k), ?_, ?_, Inv_main h0 (rMain_now hm1 (fun o h1 h2 => by simp (disch := omega) only [sF_o]) (fun o _ => rfl) (fun j _ => rfl) (fun o h1 _ _ _ _ => by simp (disch := omega) only [sA_o]) ⟨clk + k, psd', z, w2, sF_s, by rw [sA_s (by omega)], ?_, ?_, ?_, ?_⟩) (fun o h1 h2 => ?_) (fun o h1 h2 => ?_) ?_ ?_ ?_ ?_ ?_ ?_ ?_ ?_⟩
    · simp (disch := omega) [p1, rF, e4, nI_add, sF_s, cr_let, eq_n, z, n_0]
    · simp (disch := omega) [q1, rA_n, e3, nI_add, sA_s, cr_let, eq_n, z]
    · simp (disch := omega) only [sF_k]; exact w5
    · simp (disch := omega) only [sA_k]; exact w6
    · simp (disch := omega) only [sF_k, sA_k]; exact w7
    · simp (disch := omega) only [sF_k, sA_k]; exact w8
    · simp (disch := omega) only [sF_o]; exact p3 o (by omega) (by omega)
    · simp (disch := omega) only [sF_2, p2]
    · simp (disch := omega) only [sF_2, p2]
    · exact q2 29 (by omega)
    · exact q2 12 (by omega)
    · simp (disch := omega) only [sA_o]; exact q3 5 (by omega)
    · simp (disch := omega) only [sA_o]; exact q3 12 (by omega)
    · simp (disch := omega) only [sA_o]; exact q3 13 (by omega)
    · simp (disch := omega) only [sA_o]; exact q3 14 (by omega)
    · exact q4
  · exact ⟨σ, τ, -3, by simp (disch := omega) [z, eq_n], by simp (disch := omega) [z, eq_n], h0⟩
theorem M_undoL {n : Nat} (hn : n < 8) : ∀ (r f i : Nat) (τ : cr_S), i + r = 4 → r < f → τ.1 0 20 = nI n → ∃ τ', f_X11_undo_L22 f τ (nI i) = some (τ', nI n) ∧ τ'.1 = τ.1 ∧ (∀ o, o ≠ 3 → τ'.2.1 o = τ.2.1 o) ∧ τ'.2.2 = τ.2.2 ∧ (∀ j, j < i → τ'.2.1 3 j = τ.2.1 3 j) ∧ ∀ j, i ≤ j → j < 4 → τ'.2.1 3 j = τ.2.1 8 (4 * n + j)
  | 0, f + 1, i, τ, hi, hf, h20 => by
    refine ⟨τ, ?_, rfl, fun _ _ => rfl, rfl, fun _ _ => rfl, fun j q1 q2 => absurd q1 (by omega)⟩
    rw [f_X11_undo_L22]
    simp (disch := omega) only [n_4, le_n, if_pos, rF, h20]
  | r + 1, f + 1, i, τ, hi, hf, h20 => by
    obtain ⟨τ2, u1, u2, u3, u4, u5, u6⟩ := M_undoL hn r f (i + 1) (sA τ 3 (nI i) (τ.2.1 8 (4 * n + i))) (by omega) (by omega) h20
    refine ⟨τ2, ?_, u2, fun o ho => (u3 o ho).trans (sA_o ho), u4, fun j hj => by rw [u5 j (by omega), sA_k (by omega) (by omega)], fun j q1 q2 => ?_⟩
    · rw [f_X11_undo_L22]
      simp (disch := omega) only [n_4, le_n, if_neg, chk_i, rF, h20, pk_mul, nI_add, rA_n, cr_let, n_1]
      exact u1
    · by_cases e : j = i
      · subst e
        rw [u5 j (by omega), sA_s (by omega)]
      · rw [u6 j (by omega) q2, sA_o (by omega)]
theorem S_undo {σ τ : cr_S} (h : Inv σ τ) : Step σ τ (f_X10_undo σ) (f_X11_undo τ) := by
  have h0 := h
  obtain ⟨⟨np, ns, nu, nl, Ps, Ss, hm⟩, -⟩ := h
  obtain ⟨⟨a1, a2, a3⟩, ⟨b1, b2, b3⟩, e1, ⟨d1, d2, d3⟩, ⟨f1, f2, f3⟩, g, i, v, u, kk⟩ := hm
  unfold f_X10_undo f_X11_undo f_X9_recall_1
  by_cases z : nu = 0
  · subst z
    exact ⟨σ, τ, -4, by simp [rF, d1, n_0], by simp [rF, d2, n_0], h0⟩
  obtain ⟨n, rfl⟩ : ∃ n, nu = n + 1 := ⟨nu - 1, by omega⟩
  obtain ⟨σ1, t1, t2, t3, t4⟩ := C_vtake (σ := sF σ 1 7 (nI n)) (a := 4) (b := 20 + n) (by decide) (kC_v n (by omega)) (by omega)
  obtain ⟨τ1, u1, u2, u3, u4, -, u6⟩ := M_undoL (n := n) (by omega) 4 cr_fuel 0 (sF τ 0 20 (nI n)) (by omega) (by rw [cr_fuel_v]; omega) sF_s
  have k7 : σ1.1 1 7 = nI n := by rw [t3 1 (by omega), sF_s]
  refine ⟨σ1, τ1, nI n, ?_, ?_, Inv_main (np := np) (ns := ns) (nu := n) (nl := nl) (Ps := Ps) (Ss := Ss) h0 ⟨⟨?_, ?_, a3⟩, ⟨?_, ?_, b3⟩, ?_, ⟨k7, by rw [u2, sF_s], by omega⟩, ⟨?_, ?_, f3⟩, fun k hk => ?_, fun k hk => ?_, ?_, fun k hk => ?_, fun k hk => ?_⟩ (fun o h1 h2 => by rw [t3 o (by omega), sF_o (by omega)]) (fun o h1 h2 => by rw [t2, sF_2]) (by rw [t2, sF_2]) (by rw [u2, sF_k (by omega)]) (by rw [u2, sF_k (by omega)]) (by rw [u3 5 (by omega), sF_2]) (by rw [u3 12 (by omega), sF_2]) (by rw [u3 13 (by omega), sF_2]) (by rw [u3 14 (by omega), sF_2]) (by rw [u4, sF_2])⟩
  · simp (disch := omega) only [rF, d1, n_0, n_1, lt_n, if_pos, sub_n, cr_let, Nat.add_sub_cancel, sF_s, chk_i, nI_clamp, t1, Option.bind_some, k7]
    simp (disch := omega) [eq_n]
  · simp (disch := omega) only [rF, d2, n_0, n_1, eq_n, if_neg, sub_n, cr_let, Nat.add_sub_cancel, u1]
  · rw [t3 1 (by omega), sF_k (by omega)]; exact a1
  · rw [u2, sF_k (by omega)]; exact a2
  · rw [t3 1 (by omega), sF_k (by omega)]; exact b1
  · rw [u2, sF_k (by omega)]; exact b2
  · rw [t3 1 (by omega), sF_k (by omega), u2, sF_k (by omega)]; exact e1
  · rw [t3 _ (by omega), sF_o (by omega)]; exact f1
  · rw [u2, sF_k (by omega)]; exact f2
  · rw [t3 _ (by omega), sF_o (by omega), u3 1 (by omega), sF_2]; exact g k hk
  · rw [t3 _ (by omega), sF_o (by omega), u3 2 (by omega), sF_2]; exact i k hk
  · refine rVoy_c (u n (by omega)) (fun j hj => ?_) (fun j hj => by rw [u6 j (by omega) hj, sF_2])
    rw [t4 j hj, sF_o (by omega), show 1 + 19 + n = 20 + n by omega]
  · rw [t3 _ (by omega), sF_o (by omega), u3 8 (by omega), sF_2]; exact u k (by omega)
  · rw [t2, sF_2, u3 10 (by omega), u3 11 (by omega), sF_2]; exact kk k hk

/-! what is remembered of a voyage -/
theorem rVoy_c {c c' m m' : Nat → Int32} {ns : Nat} (h : rVoy c m ns) (e : ∀ j, j < 4 → c' j = c j) (e2 : ∀ j, j < 4 → m' j = m j) : rVoy c' m' ns := by
  obtain ⟨clk, psd, v1, v2, v3, v4, v5, v6, v7, v8⟩ := h
  exact ⟨clk, psd, v1, v2, by rw [e 0 (by omega)]; exact v3, by rw [e2 0 (by omega)]; exact v4, by rw [e 2 (by omega)]; exact v5, by rw [e2 2 (by omega)]; exact v6, by rw [e 3 (by omega), e2 3 (by omega)]; exact v7, by rw [e 1 (by omega), e2 1 (by omega)]; exact v8⟩
theorem kC_v : ∀ k, k < 8 → kC (20 + k) = 8 := by decide
theorem C_vtake {σ : cr_S} {a b : Nat} (ha : kC a = 8) (hb : kC b = 8) (hne : a ≠ b) : ∃ σ', f_X8_take σ a b = some σ' ∧ σ'.2 = σ.2 ∧ (∀ o, o ≠ a → σ'.1 o = σ.1 o) ∧ ∀ j, j < 4 → σ'.1 a j = σ.1 b j := by
  refine ⟨sF (sF (sF (sF σ a 0 (σ.1 b 0)) a 1 (σ.1 b 1)) a 2 (σ.1 b 2)) a 3 (σ.1 b 3), ?_, rfl, fun o ho => by simp (disch := omega) only [sF_o], fun j hj => ?_⟩
  · simp (disch := omega) only [f_X8_take, chk_t ha, chk_t hb, cr_let, rF, sF_o]
  · rcases (show j = 0 ∨ j = 1 ∨ j = 2 ∨ j = 3 by omega) with rfl | rfl | rfl | rfl <;> simp (disch := omega) only [sF_k, sF_s]
theorem C_remB {σ : cr_S} {n : Nat} (hn : n < 8) (h7 : σ.1 1 7 = nI n) : ∃ σ', f_X9_remember_1_B46 σ = some σ' ∧ σ'.2 = σ.2 ∧ (∀ o, o ≠ 1 → o ≠ 20 + n → σ'.1 o = σ.1 o) ∧ (∀ j, j ≠ 7 → σ'.1 1 j = σ.1 1 j) ∧ σ'.1 1 7 = nI (n + 1) ∧ ∀ j, j < 4 → σ'.1 (20 + n) j = σ.1 4 j := by
  obtain ⟨σ1, t1, t2, t3, t4⟩ := C_vtake (σ := σ) (kC_v n hn) (show kC 4 = 8 by decide) (show 20 + n ≠ 4 by omega)
  have e1 : σ1.1 1 = σ.1 1 := t3 1 (by omega)
  refine ⟨sF σ1 1 7 (nI (n + 1)), ?_, t2, fun o h1 h2 => by rw [sF_o h1, t3 o h2], fun j hj => by rw [sF_k hj, e1], sF_s, fun j hj => by rw [sF_o (by omega)]; exact t4 j hj⟩
  simp (disch := omega) only [f_X9_remember_1_B46, rF, h7, chk_i, nI_clamp, t1, Option.bind_some, chk_t (kC_v n hn), e1, cr_let, n_1, nI_add]
theorem C_remL : ∀ (n f i : Nat) (σ : cr_S), i + n = 8 → 1 ≤ i → n < f → ∃ σ1, f_X9_remember_1_L11 f σ (nI i) = f_X9_remember_1_B40 σ1 ∧ σ1.2 = σ.2 ∧ (∀ o, (o < 20 ∨ 27 ≤ o) → σ1.1 o = σ.1 o) ∧ (∀ k, k + 1 < i → σ1.1 (20 + k) = σ.1 (20 + k)) ∧ ∀ k j, i ≤ k + 1 → k < 7 → j < 4 → σ1.1 (20 + k) j = σ.1 (20 + k + 1) j
  | 0, f + 1, i, σ, hi, h1, hf => by
    rw [f_X9_remember_1_L11]
    refine ⟨σ, ?_, rfl, fun _ _ => rfl, fun _ _ => rfl, fun k j q1 q2 => absurd q1 (by omega)⟩
    simp (disch := omega) only [n_8, le_n, if_pos]
  | n + 1, f + 1, i, σ, hi, h1, hf => by
    obtain ⟨σ1, t1, t2, t3, t4⟩ := C_vtake (σ := σ) (a := 20 + (i - 1)) (b := 20 + i) (kC_v (i - 1) (by omega)) (kC_v i (by omega)) (by omega)
    obtain ⟨σ2, u1, u2, u3, u4, u5⟩ := C_remL n f (i + 1) σ1 (by omega) (by omega) (by omega)
    refine ⟨σ2, ?_, u2.trans t2, fun o ho => (u3 o ho).trans (t3 o (by omega)), fun k hk => (u4 k (by omega)).trans (t3 _ (by omega)), fun k j q1 q2 q3 => ?_⟩
    · rw [f_X9_remember_1_L11]
      simp (disch := omega) only [n_8, n_1, le_n, if_neg, sub_n, chk_i, nI_clamp, t1, Option.bind_some, chk_t (kC_v (i - 1) (by omega)), cr_let, nI_add]
      exact u1
    · by_cases e : k + 1 = i
      · subst e
        rw [u4 k (by omega)]
        have := t4 j q3
        rw [show k + 1 - 1 = k by omega] at this
        rw [this, Nat.add_assoc]
      · rw [u5 k j (by omega) q2 q3, t3 _ (by omega)]
/-- the class's, as a whole -/
theorem C_rem {σ : cr_S} {nu : Nat} (hn : nu ≤ 8) (h7 : σ.1 1 7 = nI nu) : ∃ σ' d, f_X9_remember_1 σ = some σ' ∧ σ'.2 = σ.2 ∧ (∀ o, o ≠ 1 → (o < 20 ∨ 28 ≤ o) → σ'.1 o = σ.1 o) ∧ (∀ j, j ≠ 7 → σ'.1 1 j = σ.1 1 j) ∧ d = (if nu = 8 then 1 else 0) ∧ σ'.1 1 7 = nI (nu + 1 - d) ∧ (∀ k j, k < nu - d → j < 4 → σ'.1 (20 + k) j = σ.1 (20 + k + d) j) ∧ ∀ j, j < 4 → σ'.1 (20 + (nu - d)) j = σ.1 4 j := by
  by_cases e : nu = 8
  · subst e
    obtain ⟨σ1, t1, t2, t3, -, t5⟩ := C_remL 7 cr_fuel 1 σ (by omega) (by omega) (by rw [cr_fuel_v]; omega)
    obtain ⟨σ2, u1, u2, u3, u4, u5, u6⟩ := C_remB (σ := sF σ1 1 7 (nI 7)) (n := 7) (by omega) sF_s
    refine ⟨σ2, 1, ?_, u2.trans t2, fun o h1 h2 => ?_, fun j hj => ?_, by simp, u5, fun k j q1 q2 => ?_, fun j hj => ?_⟩
    · unfold f_X9_remember_1
      simp (disch := omega) only [rF, h7, n_8, n_1, lt_n, if_neg, t1, f_X9_remember_1_B40, cr_let, n_7, u1]
    · rw [u3 o h1 (by omega), sF_o h1, t3 o (by omega)]
    · rw [u4 j hj, sF_k hj, t3 1 (by omega)]
    · rw [u3 _ (by omega) (by omega), sF_o (by omega), t5 k j (by omega) (by omega) q2]
    · rw [u6 j hj, sF_o (by omega), t3 4 (by omega)]
  · obtain ⟨σ2, u1, u2, u3, u4, u5, u6⟩ := C_remB (σ := σ) (n := nu) (by omega) h7
    refine ⟨σ2, 0, ?_, u2, fun o h1 h2 => u3 o h1 (by omega), u4, by simp [e], u5, fun k j q1 q2 => by rw [u3 _ (by omega) (by omega)]; rfl, u6⟩
    unfold f_X9_remember_1
    simp (disch := omega) only [rF, h7, n_8, lt_n, if_pos, u1]
theorem M_noteL {n : Nat} (hn : n < 8) : ∀ (r f i : Nat) (τ : cr_S), i + r = 4 → r < f → τ.1 0 20 = nI n → ∃ τ', f_X11_notes_L45 f τ (nI i) = some τ' ∧ (∀ j, j ≠ 20 → τ'.1 0 j = τ.1 0 j) ∧ τ'.1 0 20 = nI (n + 1) ∧ (∀ o, o ≠ 8 → τ'.2.1 o = τ.2.1 o) ∧ τ'.2.2 = τ.2.2 ∧ (∀ q, (q < 4 * n + i ∨ 4 * n + 4 ≤ q) → τ'.2.1 8 q = τ.2.1 8 q) ∧ ∀ j, i ≤ j → j < 4 → τ'.2.1 8 (4 * n + j) = τ.2.1 3 j
  | 0, f + 1, i, τ, hi, hf, h20 => by
    refine ⟨sF τ 0 20 (nI (n + 1)), ?_, fun j hj => sF_k hj, sF_s, fun _ _ => rfl, rfl, fun _ _ => rfl, fun j q1 q2 => absurd q1 (by omega)⟩
    rw [f_X11_notes_L45]
    simp (disch := omega) only [n_4, le_n, if_pos, f_X11_notes_B75, cr_let, rF, h20, n_1, nI_add]
  | r + 1, f + 1, i, τ, hi, hf, h20 => by
    obtain ⟨τ2, u1, u2, u3, u4, u5, u6, u7⟩ := M_noteL hn r f (i + 1) (sA τ 8 (nI (4 * n + i)) (τ.2.1 3 i)) (by omega) (by omega) h20
    refine ⟨τ2, ?_, u2, u3, fun o ho => (u4 o ho).trans (sA_o ho), u5, fun q hq => by rw [u6 q (by omega), sA_k (by omega) (by omega)], fun j q1 q2 => ?_⟩
    · rw [f_X11_notes_L45]
      simp (disch := omega) only [n_4, le_n, if_neg, chk_i, rF, h20, pk_mul, nI_add, rA_n, cr_let, n_1]
      exact u1
    · by_cases e : j = i
      · subst e
        rw [u6 _ (by omega), sA_s (by omega)]
      · rw [u7 j (by omega) q2, sA_o (by omega)]
theorem M_shiftL : ∀ (r f i : Nat) (τ : cr_S), i + r = 32 → 4 ≤ i → r < f → ∃ τ1, f_X11_notes_L11 f τ (nI i) = f_X11_notes_B37 τ1 ∧ τ1.1 = τ.1 ∧ (∀ o, o ≠ 8 → τ1.2.1 o = τ.2.1 o) ∧ τ1.2.2 = τ.2.2 ∧ (∀ q, q + 4 < i → τ1.2.1 8 q = τ.2.1 8 q) ∧ ∀ q, i ≤ q + 4 → q < 28 → τ1.2.1 8 q = τ.2.1 8 (q + 4)
  | 0, f + 1, i, τ, hi, h4, hf => by
    refine ⟨τ, ?_, rfl, fun _ _ => rfl, rfl, fun _ _ => rfl, fun q q1 q2 => absurd q1 (by omega)⟩
    rw [f_X11_notes_L11]
    simp (disch := omega) only [show (32 : Int32) = nI 32 from id rfl, le_n, if_pos]
  | r + 1, f + 1, i, τ, hi, h4, hf => by
    obtain ⟨τ2, u1, u2, u3, u4, u5, u6⟩ := M_shiftL r f (i + 1) (sA τ 8 (nI (i - 4)) (τ.2.1 8 i)) (by omega) (by omega) (by omega)
    refine ⟨τ2, ?_, u2, fun o ho => (u3 o ho).trans (sA_o ho), u4, fun q hq => by rw [u5 q (by omega), sA_k (by omega) (by omega)], fun q q1 q2 => ?_⟩
    · rw [f_X11_notes_L11]
      simp (disch := omega) only [show (32 : Int32) = nI 32 from id rfl, n_4, n_1, le_n, if_neg, chk_i, sub_n, rA_n, cr_let, nI_add]
      exact u1
    · by_cases e : q + 4 = i
      · subst e
        rw [u5 q (by omega), show q + 4 - 4 = q by omega, sA_s (by omega)]
      · rw [u6 q (by omega) q2, sA_k (by omega) (by omega)]
theorem M_notes8 {τ : cr_S} (h20 : τ.1 0 20 = nI 8) : ∃ τ', f_X11_notes τ = some τ' ∧ (∀ j, j ≠ 20 → τ'.1 0 j = τ.1 0 j) ∧ (∀ o, o ≠ 8 → τ'.2.1 o = τ.2.1 o) ∧ τ'.2.2 = τ.2.2 ∧ τ'.1 0 20 = nI 8 ∧ (∀ q, q < 28 → τ'.2.1 8 q = τ.2.1 8 (q + 4)) ∧ ∀ j, j < 4 → τ'.2.1 8 (28 + j) = τ.2.1 3 j := by
  obtain ⟨τ1, t1, t2, t3, t4, -, t6⟩ := M_shiftL 28 cr_fuel 4 τ (by omega) (by omega) (by rw [cr_fuel_v]; omega)
  obtain ⟨τ2, u1, u2, u3, u4, u5, u6, u7⟩ := M_noteL (n := 7) (by omega) 4 cr_fuel 0 (sF τ1 0 20 (nI 7)) (by omega) (by rw [cr_fuel_v]; omega) sF_s
  refine ⟨τ2, ?_, fun j hj => ?_, fun o ho => ?_, ?_, u3, fun q hq => ?_, fun j hj => ?_⟩
  · unfold f_X11_notes
    rw [if_pos (show rF τ 0 20 = 8 from h20.trans n_8.symm), n_4, t1]
    unfold f_X11_notes_B37 f_X11_notes_B43 cr_let
    rw [n_7, n_0]
    exact u1
  · rw [u2 j hj, sF_k hj, t2]
  · rw [u4 o ho]
    exact t3 o ho
  · rw [u5]
    exact t4
  · rw [u6 q (by omega)]
    exact t6 q (by omega) hq
  · have := u7 j (by omega) hj
    rw [show 4 * 7 + j = 28 + j by omega] at this
    rw [this]
    exact congrFun (t3 3 (by omega)) j
theorem M_notes {τ : cr_S} {nu : Nat} (hn : nu ≤ 8) (h20 : τ.1 0 20 = nI nu) : ∃ τ' d, f_X11_notes τ = some τ' ∧ (∀ j, j ≠ 20 → τ'.1 0 j = τ.1 0 j) ∧ (∀ o, o ≠ 8 → τ'.2.1 o = τ.2.1 o) ∧ τ'.2.2 = τ.2.2 ∧ d = (if nu = 8 then 1 else 0) ∧ τ'.1 0 20 = nI (nu + 1 - d) ∧ (∀ k j, k < nu - d → j < 4 → τ'.2.1 8 (4 * k + j) = τ.2.1 8 (4 * (k + d) + j)) ∧ ∀ j, j < 4 → τ'.2.1 8 (4 * (nu - d) + j) = τ.2.1 3 j := by
  by_cases e : nu = 8
  · rw [e] at h20
    obtain ⟨τ2, u1, u2, u3, u4, u5, u6, u7⟩ := M_notes8 h20
    refine ⟨τ2, 1, u1, u2, u3, u4, by rw [if_pos e], ?_, fun k j q1 q2 => ?_, fun j hj => ?_⟩
    · rw [u5, show nu + 1 - 1 = 8 by omega]
    · rw [u6 _ (by omega), show 4 * k + j + 4 = 4 * (k + 1) + j by omega]
    · rw [show 4 * (nu - 1) + j = 28 + j by omega]
      exact u7 j hj
  · obtain ⟨τ2, u1, u2, u3, u4, u5, u6, u7⟩ := M_noteL (n := nu) (by omega) 4 cr_fuel 0 τ (by omega) (by rw [cr_fuel_v]; omega) h20
    refine ⟨τ2, 0, ?_, u2, u4, u5, by rw [if_neg e], u3, fun k j q1 q2 => by rw [u6 _ (by omega), Nat.add_zero], fun j hj => by rw [Nat.sub_zero]; exact u7 j (by omega) hj⟩
    unfold f_X11_notes
    simp (disch := omega) only [rF, h20, n_8, eq_n, if_neg, f_X11_notes_B43, n_0, u1]
/-- both: what holds goes on, with one voyage more that is known -/
theorem S_rem {σ τ : cr_S} {np ns nu nl : Nat} {Ps Ss : Nat → Nat → Nat} (hm : rMain σ τ np ns nu nl Ps Ss) : ∃ σ' τ' nu', f_X9_remember_1 σ = some σ' ∧ f_X11_notes τ = some τ' ∧ rMain σ' τ' np ns nu' nl Ps Ss ∧ σ'.2 = σ.2 ∧ (∀ o, o ≠ 1 → (o < 20 ∨ 28 ≤ o) → σ'.1 o = σ.1 o) ∧ (∀ j, j ≠ 7 → σ'.1 1 j = σ.1 1 j) ∧ (∀ j, j ≠ 20 → τ'.1 0 j = τ.1 0 j) ∧ (∀ o, o ≠ 8 → τ'.2.1 o = τ.2.1 o) ∧ τ'.2.2 = τ.2.2 := by
  obtain ⟨⟨a1, a2, a3⟩, ⟨b1, b2, b3⟩, c1, ⟨d1, d2, d3⟩, ⟨f1, f2, f3⟩, g, i, v, u, kk⟩ := hm
  obtain ⟨σ', d, p1, p2, p3, p4, pd, p5, p6, p7⟩ := C_rem d3 d1
  obtain ⟨τ', d', q1, q2, q3, q4, qd, q5, q6, q7⟩ := M_notes d3 d2
  have ed : d' = d := qd.trans pd.symm
  subst ed
  have hd : d' = 0 ∧ nu ≠ 8 ∨ d' = 1 ∧ nu = 8 := by
    by_cases z : nu = 8
    · rw [if_pos z] at pd; omega
    · rw [if_neg z] at pd; omega
  refine ⟨σ', τ', nu + 1 - d', p1, q1, ⟨⟨by rw [p4 5 (by omega)]; exact a1, by rw [q2 0 (by omega)]; exact a2, a3⟩, ⟨by rw [p4 6 (by omega)]; exact b1, by rw [q2 1 (by omega)]; exact b2, b3⟩, by rw [p4 8 (by omega), q2 5 (by omega)]; exact c1, ⟨p5, q5, by omega⟩, ⟨by rw [p3 _ (by omega) (by omega)]; exact f1, by rw [q2 22 (by omega)]; exact f2, f3⟩, fun k hk => ?_, fun k hk => ?_, ?_, fun k hk => ?_, fun k hk => ?_⟩, p2, p3, p4, q2, q3, q4⟩
  · rw [p3 _ (by omega) (by omega), q3 1 (by omega)]; exact g k hk
  · rw [p3 _ (by omega) (by omega), q3 2 (by omega)]; exact i k hk
  · rw [p3 _ (by omega) (by omega), q3 3 (by omega)]; exact v
  · by_cases z : k = nu - d'
    · subst z
      refine rVoy_c v (fun j hj => ?_) (fun j hj => q7 j hj)
      rw [show 1 + 19 + (nu - d') = 20 + (nu - d') by omega]
      exact p7 j hj
    · refine rVoy_c (u (k + d') (by omega)) (fun j hj => ?_) (fun j hj => q6 k j (by omega) hj)
      rw [show 1 + 19 + k = 20 + k by omega, p6 k j (by omega) hj, show 1 + 19 + (k + d') = 20 + k + d' by omega]
  · rw [p2, q3 10 (by omega), q3 11 (by omega)]; exact kk k hk

/-! what a write leaves -/
theorem sF_o {σ : cr_S} {o k o' : Nat} {v : Int32} (h : o' ≠ o) : (sF σ o k v).1 o' = σ.1 o' := by
  unfold sF
  exact va_up_ne _ _ h
theorem sF_k {σ : cr_S} {o k k' : Nat} {v : Int32} (h : k' ≠ k) : (sF σ o k v).1 o k' = σ.1 o k' := by
  rw [sF_1, if_neg (by omega)]
theorem sF_s {σ : cr_S} {o k : Nat} {v : Int32} : (sF σ o k v).1 o k = v := by
  rw [sF_1, if_pos ⟨rfl, rfl⟩]
theorem sA_o {σ : cr_S} {o o' : Nat} {i v : Int32} (h : o' ≠ o) : (sA σ o i v).2.1 o' = σ.2.1 o' := by
  unfold sA
  exact va_up_ne _ _ h
theorem sA_k {σ : cr_S} {o i j : Nat} {v : Int32} (hi : i < 2147483648) (h : j ≠ i) : (sA σ o (nI i) v).2.1 o j = σ.2.1 o j := by
  rw [sA_21 hi, if_neg (by omega)]
theorem sA_s {σ : cr_S} {o i : Nat} {v : Int32} (hi : i < 2147483648) : (sA σ o (nI i) v).2.1 o i = v := by
  rw [sA_21 hi, if_pos ⟨rfl, rfl⟩]
theorem sL_o {σ : cr_S} {o o' : Nat} {i : Int32} {v : Int64} (h : o' ≠ o) : (sL σ o i v).2.2 o' = σ.2.2 o' := by
  unfold sL
  exact va_up_ne _ _ h
theorem rKp_of {σ σ' τ τ' : cr_S} (h : rKp σ τ) (c1 : ∀ o j, (o = 0 ∨ (28 ≤ o ∧ o < 55)) → σ'.1 o j = σ.1 o j) (c2 : ∀ o j, 28 ≤ o → o < 55 → σ'.2.1 o j = σ.2.1 o j) (m1 : τ'.1 0 29 = τ.1 0 29) (m2 : τ'.2.1 12 = τ.2.1 12) : rKp σ' τ' := by
  unfold rKp at h ⊢
  rw [c1 0 2 (by omega), m1, m2]
  rcases h with h | ⟨q1, q2, a, b, d, e, f, g, q⟩
  · exact Or.inl h
  · exact Or.inr ⟨q1, q2, a, b, d, e, f, g, rW_of q (fun o j h1 h2 => c1 o j (by omega)) (fun o j h1 h2 => c2 o j (by omega) (by omega))⟩
theorem rTp_of {σ σ' τ τ' : cr_S} (h : rTp σ τ) (c1 : σ'.1 55 3 = σ.1 55 3) (c2 : σ'.2.1 56 = σ.2.1 56) (m1 : τ'.1 0 12 = τ.1 0 12) (m2 : τ'.2.1 5 = τ.2.1 5) : rTp σ' τ' := by
  unfold rTp at h ⊢
  rw [c1, c2, m1, m2]
  exact h
theorem rSh_of {σ σ' τ τ' : cr_S} (h : rSh σ τ) (c1 : ∀ o j, 89 ≤ o → σ'.1 o j = σ.1 o j) (c2 : σ'.2.2 = σ.2.2) (m1 : τ'.2.1 13 = τ.2.1 13) (m2 : τ'.2.1 14 = τ.2.1 14) (m3 : τ'.2.2 = τ.2.2) : rSh σ' τ' := by
  intro k hk
  have := h k hk
  rw [← c1 _ 1 (by omega), ← c1 _ 2 (by omega), ← c1 _ 3 (by omega), ← m1, ← m2, ← c2, ← m3] at this
  exact this
theorem rVoy_ns {c m : Nat → Int32} {ns ns' : Nat} (h : rVoy c m ns) (hn : ns ≤ ns') : rVoy c m ns' := by
  obtain ⟨clk, psd, v1, v2, v3, v4, v5, v6, v7, v8⟩ := h
  refine ⟨clk, psd, v1, v2, v3, v4, v5, v6, v7, ?_⟩
  rcases v8 with q | ⟨o, ho, q⟩
  · exact Or.inl q
  · exact Or.inr ⟨o, by omega, q⟩
theorem S_seed {σ τ : cr_S} {a : Int32} (h : Inv σ τ) : Step σ τ (f_X10_seed σ a) (f_X11_seed τ a) := by
  have h0 := h
  obtain ⟨⟨np, ns, nu, nl, Ps, Ss, hm⟩, hk, ht, hs⟩ := h
  have c1 := hm.2.2.1
  unfold f_X10_seed f_X11_seed
  by_cases q : 0 ≤ a
  · refine ⟨sF σ 1 8 a, sF τ 0 5 a, τ.1 0 5, by simp only [q, if_true, cr_let, rF, c1], by simp only [q, if_true, cr_let, rF], ⟨np, ns, nu, nl, Ps, Ss, ?_⟩, ?_, ?_, ?_⟩
    · obtain ⟨⟨a1, a2, a3⟩, ⟨b1, b2, b3⟩, c1, ⟨d1, d2, d3⟩, ⟨f1, f2, f3⟩, g, i, v, u, kk⟩ := hm
      refine ⟨⟨?_, ?_, a3⟩, ⟨?_, ?_, b3⟩, ?_, ⟨?_, ?_, d3⟩, ⟨?_, ?_, f3⟩, fun k hk => ?_, fun k hk => ?_, ?_, fun k hk => ?_, fun k hk => ?_⟩ <;> simp (disch := omega) only [sF_o, sF_k, sF_s, sF_2] <;> first | assumption | exact g k hk | exact i k hk | exact u k hk | exact kk k hk
    · exact rKp_of hk (fun o j q => by rw [sF_o (by omega)]) (fun o j _ _ => rfl) (by rw [sF_k (by omega)]) rfl
    · exact rTp_of ht (by rw [sF_o (by omega)]) rfl (by rw [sF_k (by omega)]) rfl
    · exact rSh_of hs (fun o j q => by rw [sF_o (by omega)]) rfl rfl rfl rfl
  · exact ⟨σ, τ, -1, by simp [q], by simp [q], h0⟩
theorem S_forget {σ τ : cr_S} (h : Inv σ τ) : Step σ τ (f_X10_forget σ) (f_X11_forget τ) := by
  obtain ⟨⟨np, ns, nu, nl, Ps, Ss, hm⟩, hk, ht, hs⟩ := h
  obtain ⟨⟨a1, a2, a3⟩, ⟨b1, b2, b3⟩, c1, ⟨d1, d2, d3⟩, ⟨f1, f2, f3⟩, g, i, v, u, kk⟩ := hm
  have f1' : σ.1 6 2 = nI nl := f1
  unfold f_X10_forget f_X11_forget
  refine ⟨sF σ 6 2 0, sF τ 0 22 0, nI nl, by simp only [cr_let, rF, f1'], by simp only [cr_let, rF, f2], ⟨np, ns, nu, 0, Ps, Ss, ?_⟩, ?_, ?_, ?_⟩
  · refine ⟨⟨?_, ?_, a3⟩, ⟨?_, ?_, b3⟩, ?_, ⟨?_, ?_, d3⟩, ⟨?_, ?_, by omega⟩, fun k hk => ?_, fun k hk => ?_, ?_, fun k hk => ?_, fun k hk => absurd hk (by omega)⟩ <;> simp (disch := omega) only [sF_o, sF_k, sF_s, sF_2] <;> first | assumption | exact g k hk | exact i k hk | exact u k hk | rfl
  · exact rKp_of hk (fun o j q => by rw [sF_o (by omega)]) (fun o j _ _ => rfl) (by rw [sF_k (by omega)]) rfl
  · exact rTp_of ht (by rw [sF_o (by omega)]) rfl (by rw [sF_k (by omega)]) rfl
  · exact rSh_of hs (fun o j q => by rw [sF_o (by omega)]) rfl rfl rfl rfl
theorem S_look {σ τ : cr_S} {a b : Int32} (h : Inv σ τ) : Step σ τ (f_X10_look σ a b) (f_X11_look τ a b) := by
  have h0 := h
  obtain ⟨⟨np, ns, nu, nl, Ps, Ss, hm⟩, hk, ht, hs⟩ := h
  obtain ⟨⟨a1, a2, a3⟩, ⟨b1, b2, b3⟩, c1, ⟨d1, d2, d3⟩, ⟨f1, f2, f3⟩, g, i, v, u, kk⟩ := hm
  have f1' : σ.1 6 2 = nI nl := f1
  unfold f_X10_look f_X11_look
  simp only [C_within, M_isSecond, Option.bind_some, L_0, L_1, M_in]
  cases q1 : inR a 0 9999
  · exact ⟨σ, τ, -1, by simp [bI], by simp [bI], h0⟩
  cases q2 : inR b 0 1
  · exact ⟨σ, τ, -1, by simp [bI], by simp [bI], h0⟩
  obtain ⟨t, h1, rfl⟩ := inR_m (n := 9999) (by omega) q1
  obtain ⟨z, h2, rfl⟩ := inR_m (n := 1) (by omega) q2
  by_cases full : nl = 12
  · subst full
    exact ⟨σ, τ, -3, by simp (disch := omega) [bI, f_X2_add_6, rF, f1', n_12, lt_n], by simp (disch := omega) [bI, rF, f2, n_12], h0⟩
  · refine ⟨sF (sA (sA σ 7 (nI nl) (nI t)) 8 (nI nl) (nI z)) 6 2 (nI (nl + 1)), sF (sA (sA τ 10 (nI nl) (nI t)) 11 (nI nl) (nI z)) 0 22 (nI (nl + 1)), nI (nl + 1), ?_, ?_, ⟨np, ns, nu, nl + 1, Ps, Ss, ?_⟩, ?_, ?_, ?_⟩
    · simp (disch := omega) only [bI_t, f_X2_add_6, rF, f1', n_12, lt_n, if_pos, chk_i, cr_let, sA_1, n_1, nI_add, Option.bind_some, sF_s]
      simp (disch := omega) [eq_n, n_0]
    · simp (disch := omega) only [bI_t, rF, f2, n_12, eq_n, if_neg, chk_i, cr_let, sA_1, n_1, nI_add, Option.bind_some, sF_s]
      simp (disch := omega) [eq_n, n_0]
    · refine ⟨⟨?_, ?_, a3⟩, ⟨?_, ?_, b3⟩, ?_, ⟨?_, ?_, d3⟩, ⟨?_, ?_, by omega⟩, fun k hk => ?_, fun k hk => ?_, ?_, fun k hk => ?_, fun k hk => ?_⟩ <;> simp (disch := omega) only [sF_o, sF_k, sF_s, sF_2, sA_1, sA_o] <;> first | assumption | exact g k hk | exact i k hk | exact u k hk | rfl | skip
      by_cases e : k = nl
      · subst e
        exact ⟨t, z, h1, h2, by simp (disch := omega) [sA_s, sA_o]⟩
      · obtain ⟨t', z', w⟩ := kk k (by omega)
        exact ⟨t', z', by simpa (disch := omega) [sA_k, sA_o] using w⟩
    · exact rKp_of hk (fun o j q => by rw [sF_o (by omega)]; rfl) (fun o j q1 q2 => by rw [sF_2, sA_o (by omega), sA_o (by omega)]) (by rw [sF_k (by omega)]; rfl) (by rw [sF_2, sA_o (by omega), sA_o (by omega)])
    · exact rTp_of ht (by rw [sF_o (by omega)]; rfl) (by rw [sF_2, sA_o (by omega), sA_o (by omega)]) (by rw [sF_k (by omega)]; rfl) (by rw [sF_2, sA_o (by omega), sA_o (by omega)])
    · exact rSh_of hs (fun o j q => by rw [sF_o (by omega)]; rfl) rfl (by rw [sF_2, sA_o (by omega), sA_o (by omega)]) (by rw [sF_2, sA_o (by omega), sA_o (by omega)]) rfl

/-! the steps: type, pair, phase, ship -/
theorem ch_n {n : Nat} (h : n < 65536) : ((Int32.toUInt32 (nI n)) % 65536).toInt32 = nI n := by
  rw [pk_char, pk_tn (by omega), Nat.mod_eq_of_lt h]
theorem nar_n {n : Nat} (h : n < 65536) : vp_nar .char (nI n) = nI n := by
  rw [vp_nar_char]
  have e := pk_charN h
  have : vp_nar .char (nI n) = nI n := by
    unfold vp_nar
    rw [e.1]
  rwa [vp_nar_char] at this
theorem S_type {σ τ : cr_S} {a : Int32} (h : Inv σ τ) : Step σ τ (f_X10_type σ a) (f_X11_type τ a) := by
  have h0 := h
  obtain ⟨⟨np, ns, nu, nl, Ps, Ss, hm⟩, hk, ht, hs⟩ := h
  obtain ⟨nt, t1, t2, t3, t4⟩ := ht
  unfold f_X10_type f_X11_type
  simp only [C_within, Option.bind_some, L_32, L_126, M_in]
  cases q1 : inR a 32 126
  · exact ⟨σ, τ, -1, by simp [bI], by simp [bI], h0⟩
  obtain ⟨c, h1, h2, rfl⟩ := inR_l (l := 32) (n := 126) (by omega) (by omega) q1
  by_cases full : nt = 100
  · subst full
    exact ⟨σ, τ, -3, by simp (disch := omega) [bI, f_X7_add_55, rF, t2, n_100, lt_n], by simp (disch := omega) [bI, rF, t3, n_100], h0⟩
  · refine ⟨sF (sA σ 56 (nI nt) (nI c)) 55 3 (nI (nt + 1)), sF (sA τ 5 (nI nt) (nI c)) 0 12 (nI (nt + 1)), nI (nt + 1), ?_, ?_, ⟨np, ns, nu, nl, Ps, Ss, ?_⟩, ?_, ?_, ?_⟩
    · simp (disch := omega) only [bI_t, f_X7_add_55, rF, t2, n_100, lt_n, if_pos, chk_i, cr_let, sA_1, n_1, nI_add, Option.bind_some, sF_s, ch_n, nar_n]
      simp (disch := omega) [eq_n, n_0]
    · simp (disch := omega) only [bI_t, rF, t3, n_100, eq_n, if_neg, chk_i, cr_let, sA_1, n_1, nI_add, Option.bind_some, sF_s]
      simp (disch := omega) [eq_n, n_0]
    · obtain ⟨⟨a1, a2, a3⟩, ⟨b1, b2, b3⟩, c1, ⟨d1, d2, d3⟩, ⟨f1, f2, f3⟩, g, i, v, u, kk⟩ := hm
      refine ⟨⟨?_, ?_, a3⟩, ⟨?_, ?_, b3⟩, ?_, ⟨?_, ?_, d3⟩, ⟨?_, ?_, f3⟩, fun k hk => ?_, fun k hk => ?_, ?_, fun k hk => ?_, fun k hk => ?_⟩ <;> simp (disch := omega) only [sF_o, sF_k, sF_s, sF_2, sA_1, sA_o] <;> first | assumption | exact g k hk | exact i k hk | exact u k hk | exact kk k hk
    · exact rKp_of hk (fun o j q => by rw [sF_o (by omega)]; rfl) (fun o j q1 q2 => by rw [sF_2, sA_o (by omega)]) (by rw [sF_k (by omega)]; rfl) (by rw [sF_2, sA_o (by omega)])
    · refine ⟨nt + 1, by omega, by rw [sF_s], by rw [sF_s], fun k hk => ?_⟩
      by_cases e : k = nt
      · subst e
        exact ⟨c, h1, h2, by simp (disch := omega) [sA_s, sF_2]⟩
      · obtain ⟨ch, w⟩ := t4 k (by omega)
        exact ⟨ch, by simpa (disch := omega) [sA_k, sF_2] using w⟩
    · exact rSh_of hs (fun o j q => by rw [sF_o (by omega)]; rfl) rfl (by rw [sF_2, sA_o (by omega)]) (by rw [sF_2, sA_o (by omega)]) rfl
def mk5 (a b c d : Nat) : Nat → Nat := fun j => if j = 0 then a else if j = 1 then b else if j = 2 then c else if j = 3 then d else 0
theorem S_pair {σ τ : cr_S} {a b c d : Int32} (h : Inv σ τ) : Step σ τ (f_X10_pair σ a b c d) (f_X11_pair τ a b c d) := by
  have h0 := h
  obtain ⟨⟨np, ns, nu, nl, Ps, Ss, hm⟩, hk, ht, hs⟩ := h
  obtain ⟨⟨a1, a2, a3⟩, ⟨b1, b2, b3⟩, c1, ⟨d1, d2, d3⟩, ⟨f1, f2, f3⟩, g, i, v, u, kk⟩ := hm
  unfold f_X10_pair f_X11_pair
  simp only [C_within, Option.bind_some, L_0, L_1, L_2, L_3, L_30, L_24, M_in]
  cases q1 : inR a 0 3
  · exact ⟨σ, τ, -1, by simp [bI], by simp [bI], h0⟩
  cases q2 : inR b 1 30
  · exact ⟨σ, τ, -1, by simp [bI], by simp [bI], h0⟩
  cases q3 : inR c 2 24
  · exact ⟨σ, τ, -1, by simp [bI], by simp [bI], h0⟩
  cases q4 : inR d 1 c
  · exact ⟨σ, τ, -1, by simp [bI], by simp [bI], h0⟩
  obtain ⟨kd, k1, rfl⟩ := inR_m (n := 3) (by omega) q1
  obtain ⟨rc, r1, r2, rfl⟩ := inR_l (l := 1) (n := 30) (by omega) (by omega) q2
  obtain ⟨bt, t1, t2, rfl⟩ := inR_l (l := 2) (n := 24) (by omega) (by omega) q3
  obtain ⟨og, o1, o2, rfl⟩ := inR_l (l := 1) (n := bt) (by omega) (by omega) q4
  by_cases full : np = 6
  · subst full
    exact ⟨σ, τ, -3, by simp (disch := omega) [bI, rF, a1, n_6, lt_n], by simp (disch := omega) [bI, rF, a2, n_6], h0⟩
  · have kc := kC_p np (by omega)
    refine ⟨sF (sF (sF (sF (sF (sF σ (9 + np) 0 (nI kd)) (9 + np) 1 (nI rc)) (9 + np) 2 (nI bt)) (9 + np) 3 (nI og)) (9 + np) 4 (nI 0)) 1 5 (nI (np + 1)), sF (sA (sA (sA (sA (sA τ 1 (nI (5 * np)) (nI kd)) 1 (nI (5 * np + 1)) (nI rc)) 1 (nI (5 * np + 2)) (nI bt)) 1 (nI (5 * np + 3)) (nI og)) 1 (nI (5 * np + 4)) (nI 0)) 0 0 (nI (np + 1)), nI np, ?_, ?_, ⟨np + 1, ns, nu, nl, fun k => if k = np then mk5 kd rc bt og else Ps k, Ss, ?_⟩, ?_, ?_, ?_⟩
    · simp (disch := omega) only [bI_t, rF, a1, n_6, lt_n, if_pos, chk_i, nI_clamp, f_X3_become, f_X3_become_B21, chk_t kc, cr_let, n_2, le_n, n_0, n_1, Option.bind_some, sF_o, nI_add]
      simp (disch := omega) [eq_n, n_0]
    · simp (disch := omega) only [bI_t, rF, a2, n_6, eq_n, if_neg, f_X11_pairComes, cr_let, n_5, pk_mul, chk_i, n_1, n_2, n_3, n_4, nI_add, sA_1, Option.bind_some, sF_s, sub_n, n_0]
      simp (disch := omega) [eq_n, n_0]
    · refine ⟨⟨?_, ?_, by omega⟩, ⟨?_, ?_, b3⟩, ?_, ⟨?_, ?_, d3⟩, ⟨?_, ?_, f3⟩, fun k hk => ?_, fun k hk => ?_, ?_, fun k hk => ?_, fun k hk => ?_⟩ <;> try (simp (disch := omega) only [sF_o, sF_k, sF_s, sF_2, sA_1, sA_o] <;> first | assumption | exact i k hk | exact u k hk | exact kk k hk | done)
      by_cases e : k = np
      · subst e
        refine ⟨by simp [okP, mk5]; omega, fun j hj => ?_⟩
        simp only [if_true]
        rw [show 1 + 8 + k = 9 + k by omega]
        rcases (show j = 0 ∨ j = 1 ∨ j = 2 ∨ j = 3 ∨ j = 4 by omega) with rfl | rfl | rfl | rfl | rfl <;> simp (disch := omega) [sF_o, sF_k, sF_s, sF_2, sA_k, sA_s, mk5]
      · simp only [if_neg e]
        refine ⟨(g k (by omega)).1, fun j hj => ?_⟩
        have w := (g k (by omega)).2 j hj
        have z : ∀ q, q < 5 → 5 * k + j ≠ 5 * np + q := fun q hq => by omega
        have z0 := z 0 (by omega)
        simp (disch := omega) only [sF_o, sF_2, sA_k]
        exact w
    · exact rKp_of hk (fun o j q => by simp (disch := omega) only [sF_o]) (fun o j q1 q2 => rfl) (by simp (disch := omega) only [sF_k, sA_1]) (by simp (disch := omega) only [sF_2, sA_o])
    · exact rTp_of ht (by simp (disch := omega) only [sF_o]) rfl (by simp (disch := omega) only [sF_k, sA_1]) (by simp (disch := omega) only [sF_2, sA_o])
    · exact rSh_of hs (fun o j q => by simp (disch := omega) only [sF_o]) rfl (by simp (disch := omega) only [sF_2, sA_o]) (by simp (disch := omega) only [sF_2, sA_o]) rfl
theorem S_phase {σ τ : cr_S} {a b : Int32} (h : Inv σ τ) : Step σ τ (f_X10_phase σ a b) (f_X11_phase τ a b) := by
  have h0 := h
  obtain ⟨⟨np, ns, nu, nl, Ps, Ss, hm⟩, hk, ht, hs⟩ := h
  have hc := rM_c hm
  have hM := rM_m hm
  have hnp := hc.2.1
  obtain ⟨⟨a1, a2, a3⟩, ⟨b1, b2, b3⟩, c1, ⟨d1, d2, d3⟩, ⟨f1, f2, f3⟩, g, i, v, u, kk⟩ := hm
  cases hq : inR a 0 (nI np - 1)
  · exact ⟨σ, τ, -1, by simp [f_X10_phase, C_isPair, hc.1, hq, bI], by simp [f_X11_phase, M_isPair, hM.1, hq, bI], h0⟩
  obtain ⟨p, hp, rfl⟩ := inR_n (by omega) hq
  obtain ⟨kc, cv, ok⟩ := hc.2.2 p hp
  obtain ⟨-, mv, -⟩ := hM.2.2 p hp
  have cv2 := cv 2 (by omega)
  have cv4 := cv 4 (by omega)
  have mv2 := mv 2 (by omega)
  have mv4 := mv 4 (by omega)
  unfold f_X10_phase f_X11_phase
  simp (disch := omega) only [C_isPair, M_isPair, hc.1, hM.1, hq, Option.bind_some, bI_t, chk_i, nI_clamp, chk_t kc, rF, cv2, C_within, n_5, n_2, n_4, pk_mul, nI_add, rA_n, mv2, L_0, M_in, cv4, mv4, cr_let]
  cases hq2 : inR b 0 (nI (Ps p 2) - 1)
  · exact ⟨σ, τ, -1, by simp [bI], by simp [bI], h0⟩
  obtain ⟨z, hz, rfl⟩ := inR_n (by unfold okP at ok; omega) hq2
  refine ⟨sF σ (9 + p) 4 (nI z), sA τ 1 (nI (5 * p + 4)) (nI z), nI (Ps p 4), by simp [bI], by simp [bI], ⟨np, ns, nu, nl, fun k => if k = p then (fun j => if j = 4 then z else Ps p j) else Ps k, Ss, ?_⟩, ?_, ?_, ?_⟩
  · refine ⟨⟨?_, ?_, a3⟩, ⟨?_, ?_, b3⟩, ?_, ⟨?_, ?_, d3⟩, ⟨?_, ?_, f3⟩, fun k hk => ?_, fun k hk => ?_, ?_, fun k hk => ?_, fun k hk => ?_⟩ <;> try (simp (disch := omega) only [sF_o, sF_k, sF_s, sF_2, sA_1, sA_o] <;> first | assumption | exact i k hk | exact u k hk | exact kk k hk | done)
    by_cases e : k = p
    · subst e
      simp only [if_true]
      refine ⟨by unfold okP at ok ⊢; simp; omega, fun j hj => ?_⟩
      rw [show 1 + 8 + k = 9 + k by omega]
      by_cases e4 : j = 4
      · subst e4
        simp (disch := omega) [sF_s, sA_s]
      · have w := (g k hk).2 j hj
        rw [show 1 + 8 + k = 9 + k by omega] at w
        simp (disch := omega) only [sF_k, sA_k, if_neg e4]
        exact w
    · simp only [if_neg e]
      refine ⟨(g k hk).1, fun j hj => ?_⟩
      have w := (g k hk).2 j hj
      simp (disch := omega) only [sF_o, sA_k]
      exact w
  · exact rKp_of hk (fun o j q => by simp (disch := omega) only [sF_o]) (fun o j q1 q2 => rfl) rfl (by simp (disch := omega) only [sA_o])
  · exact rTp_of ht (by simp (disch := omega) only [sF_o]) rfl rfl (by simp (disch := omega) only [sA_o])
  · exact rSh_of hs (fun o j q => by simp (disch := omega) only [sF_o]) rfl (by simp (disch := omega) only [sA_o]) (by simp (disch := omega) only [sA_o]) rfl
def mk3 (a b c : Nat) : Nat → Nat := fun j => if j = 0 then a else if j = 1 then b else c
theorem S_ship {σ τ : cr_S} {a b c : Int32} (h : Inv σ τ) : Step σ τ (f_X10_ship σ a b c) (f_X11_ship τ a b c) := by
  have h0 := h
  obtain ⟨⟨np, ns, nu, nl, Ps, Ss, hm⟩, hk, ht, hs⟩ := h
  obtain ⟨⟨a1, a2, a3⟩, ⟨b1, b2, b3⟩, c1, ⟨d1, d2, d3⟩, ⟨f1, f2, f3⟩, g, i, v, u, kk⟩ := hm
  unfold f_X10_ship f_X11_ship
  simp only [C_within, Option.bind_some, L_0, L_1, L_3, L_9, L_5, M_in]
  cases q1 : inR a 0 3
  · exact ⟨σ, τ, -1, by simp [bI], by simp [bI], h0⟩
  cases q2 : inR b 1 9
  · exact ⟨σ, τ, -1, by simp [bI], by simp [bI], h0⟩
  cases q3 : inR c 1 5
  · exact ⟨σ, τ, -1, by simp [bI], by simp [bI], h0⟩
  obtain ⟨kd, k1, rfl⟩ := inR_m (n := 3) (by omega) q1
  obtain ⟨ln, r1, r2, rfl⟩ := inR_l (l := 1) (n := 9) (by omega) (by omega) q2
  obtain ⟨sp, t1, t2, rfl⟩ := inR_l (l := 1) (n := 5) (by omega) (by omega) q3
  by_cases full : ns = 5
  · subst full
    exact ⟨σ, τ, -3, by simp (disch := omega) [bI, rF, b1, n_5, lt_n], by simp (disch := omega) [bI, rF, b2, n_5], h0⟩
  · have kc := kC_s ns (by omega)
    refine ⟨sF (sF (sF (sF σ (15 + ns) 0 (nI kd)) (15 + ns) 1 (nI ln)) (15 + ns) 2 (nI sp)) 1 6 (nI (ns + 1)), sF (sA (sA (sA τ 2 (nI (3 * ns)) (nI kd)) 2 (nI (3 * ns + 1)) (nI ln)) 2 (nI (3 * ns + 2)) (nI sp)) 0 1 (nI (ns + 1)), nI ns, ?_, ?_, ⟨np, ns + 1, nu, nl, Ps, fun k => if k = ns then mk3 kd ln sp else Ss k, ?_⟩, ?_, ?_, ?_⟩
    · simp (disch := omega) only [bI_t, rF, b1, n_5, lt_n, if_pos, chk_i, nI_clamp, f_X6_become, chk_t kc, cr_let, n_0, n_1, Option.bind_some, sF_o, nI_add]
      simp (disch := omega) [eq_n, n_0]
    · simp (disch := omega) only [bI_t, rF, b2, n_5, eq_n, if_neg, f_X11_shipComes, cr_let, n_3, pk_mul, chk_i, n_1, n_2, nI_add, sA_1, Option.bind_some, sF_s, sub_n, n_0]
      simp (disch := omega) [eq_n, n_0]
    · refine ⟨⟨?_, ?_, a3⟩, ⟨?_, ?_, by omega⟩, ?_, ⟨?_, ?_, d3⟩, ⟨?_, ?_, f3⟩, fun k hk => ?_, fun k hk => ?_, rVoy_ns (ns := ns) ?_ (by omega), fun k hk => rVoy_ns (ns := ns) ?_ (by omega), fun k hk => ?_⟩ <;> try (simp (disch := omega) only [sF_o, sF_k, sF_s, sF_2, sA_1, sA_o] <;> first | assumption | exact g k hk | exact u k hk | exact kk k hk | done)
      by_cases e : k = ns
      · subst e
        refine ⟨by simp [okS, mk3]; omega, fun j hj => ?_⟩
        simp only [if_true]
        rw [show 1 + 14 + k = 15 + k by omega]
        rcases (show j = 0 ∨ j = 1 ∨ j = 2 by omega) with rfl | rfl | rfl <;> simp (disch := omega) [sF_o, sF_k, sF_s, sF_2, sA_k, sA_s, mk3]
      · simp only [if_neg e]
        refine ⟨(i k (by omega)).1, fun j hj => ?_⟩
        have w := (i k (by omega)).2 j hj
        simp (disch := omega) only [sF_o, sF_2, sA_k]
        exact w
    · exact rKp_of hk (fun o j q => by simp (disch := omega) only [sF_o]) (fun o j q1 q2 => rfl) (by simp (disch := omega) only [sF_k, sA_1]) (by simp (disch := omega) only [sF_2, sA_o])
    · exact rTp_of ht (by simp (disch := omega) only [sF_o]) rfl (by simp (disch := omega) only [sF_k, sA_1]) (by simp (disch := omega) only [sF_2, sA_o])
    · exact rSh_of hs (fun o j q => by simp (disch := omega) only [sF_o]) rfl (by simp (disch := omega) only [sF_2, sA_o]) (by simp (disch := omega) only [sF_2, sA_o]) rfl

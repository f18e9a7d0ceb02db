/-! the step strait -/
theorem Inv_tp0 {σ σ' τ τ' : cr_S} {v : Int32} (h : Inv σ τ) (c : frC σ σ') (m : frM τ τ') : Inv (sF σ' 55 3 0) (sF (sF τ' 0 14 v) 0 12 0) := by
  obtain ⟨⟨np, ns, nu, nl, Ps, Ss, hm⟩, hk, ht, hs⟩ := h
  have F : ∀ j, j ≠ 12 → j ≠ 13 → j ≠ 14 → j ≠ 17 → j ≠ 18 → (sF (sF τ' 0 14 v) 0 12 0).1 0 j = τ.1 0 j := fun j q1 q2 q3 q4 q5 => by rw [sF_k q1, sF_k q3]; exact m.1 j q2 q3 q4 q5
  have R : ∀ o, o ≠ 6 → o ≠ 7 → (sF (sF τ' 0 14 v) 0 12 0).2.1 o = τ.2.1 o := m.2.1
  have G : ∀ o, o ≠ 55 → (o < 59 ∨ 70 ≤ o) → (sF σ' 55 3 0).1 o = σ.1 o := fun o q1 q2 => by rw [sF_o q1, c.2.1 o q1 q2]
  have E : (sF σ' 55 3 0).2 = σ.2 := c.1
  refine ⟨⟨np, ns, nu, nl, Ps, Ss, ?_⟩, ?_, ⟨0, by omega, sF_s, sF_s, fun k hk => absurd hk (by omega)⟩, ?_⟩
  · unfold rMain at hm ⊢
    rw [F 0 (by omega) (by omega) (by omega) (by omega) (by omega), F 1 (by omega) (by omega) (by omega) (by omega) (by omega), F 5 (by omega) (by omega) (by omega) (by omega) (by omega), F 20 (by omega) (by omega) (by omega) (by omega) (by omega), F 22 (by omega) (by omega) (by omega) (by omega) (by omega), R 1 (by omega) (by omega), R 2 (by omega) (by omega), R 3 (by omega) (by omega), R 8 (by omega) (by omega), R 10 (by omega) (by omega), R 11 (by omega) (by omega)]
    exact rW_of hm (fun o j q1 q2 => by rw [G o (by omega) (by omega)]) (fun o j _ _ => by rw [E])
  · exact rKp_of hk (fun o j q => by rw [G o (by omega) (by omega)]) (fun o j _ _ => by rw [E]) (F 29 (by omega) (by omega) (by omega) (by omega) (by omega)) (R 12 (by omega) (by omega))
  · exact rSh_of hs (fun o j q => by rw [G o (by omega) (by omega)]) (by rw [E]) (R 13 (by omega) (by omega)) (R 14 (by omega) (by omega)) m.2.2
theorem C_settle {σ : cr_S} {np ns : Nat} {Ps Ss : Nat → Nat → Nat} (hp6 : np ≤ 6) (hs5 : ns ≤ 5) (h4 : σ.1 55 4 = nI np) (h5 : σ.1 55 5 = nI ns) (hp : ∀ k, k < np → okP (Ps k) ∧ ∀ j, j < 5 → σ.1 (59 + k) j = nI (Ps k j)) (hs : ∀ k, k < ns → ∀ j, j < 3 → σ.1 (65 + k) j = nI (Ss k j)) : ∃ σ', f_X9_settle_1_55 σ = some σ' ∧ σ'.2 = σ.2 ∧ (∀ o, o ≠ 1 → o ≠ 4 → (o < 9 ∨ 20 ≤ o) → σ'.1 o = σ.1 o) ∧ (σ'.1 1 5 = nI np ∧ σ'.1 1 6 = nI ns ∧ σ'.1 1 7 = 0 ∧ σ'.1 1 8 = σ.1 1 8) ∧ (σ'.1 4 0 = σ.1 4 0 ∧ σ'.1 4 1 = -1 ∧ σ'.1 4 2 = 0 ∧ σ'.1 4 3 = 0) ∧ (∀ k, k < np → ∀ j, j < 5 → σ'.1 (9 + k) j = nI (Ps k j)) ∧ (∀ k, k < ns → ∀ j, j < 3 → σ'.1 (15 + k) j = nI (Ss k j)) := by
  obtain ⟨σ1, u1, u2, u3, u4⟩ := C_tp_57 (np := np) (ns := ns) hp6 np cr_fuel 0 σ (by omega) (by rw [cr_fuel_v]; omega) (fun k hk => ⟨Ps k 2, (hp k hk).2 2 (by omega), (hp k hk).1.2.2.2.1, (hp k hk).1.2.2.2.2.1⟩)
  obtain ⟨σ2, v1, v2, v3, v4⟩ := C_ts_57 (np := np) (ns := ns) hs5 ns cr_fuel 0 σ1 (by omega) (by rw [cr_fuel_v]; omega)
  refine ⟨sF (sF (sF (sF (sF (sF σ2 1 5 (nI np)) 1 6 (nI ns)) 4 1 (-1)) 4 2 0) 4 3 0) 1 7 0, ?_, v2.trans u2, fun o q1 q2 q3 => ?_, ⟨?_, ?_, ?_, ?_⟩, ⟨?_, ?_, ?_, ?_⟩, fun k hk j hj => ?_, fun k hk j hj => ?_⟩
  · have e : f_X9_takePairsAndShips_1_57_58 σ (nI np) (nI ns) = some (sF (sF σ2 1 5 (nI np)) 1 6 (nI ns)) := by
      unfold f_X9_takePairsAndShips_1_57_58
      rw [show f_X9_takePairsAndShips_1_57_58_L3 cr_fuel σ (nI np) (nI ns) 0 = _ from u1]
      unfold f_X9_takePairsAndShips_1_57_58_B36
      rw [show f_X9_takePairsAndShips_1_57_58_L39 cr_fuel σ1 (nI np) (nI ns) 0 = _ from v1]
      rfl
    unfold f_X9_settle_1_55
    rw [show rF σ 55 4 = _ from h4, show rF σ 55 5 = _ from h5, e]
    simp only [Option.bind_some]
    unfold f_X8_begin
    rw [chk_t (by decide)]
    simp only [cr_let]
    rw [chk_t (by decide), chk_t (by decide)]
    rfl
  · simp (disch := omega) only [sF_o]
    rw [v3 o (by omega), u3 o (by omega)]
  · simp (disch := omega) only [sF_o, sF_k, sF_s]
  · simp (disch := omega) only [sF_o, sF_k, sF_s]
  · exact sF_s
  · simp (disch := omega) only [sF_o, sF_k]
    rw [v3 1 (by omega), u3 1 (by omega)]
  · simp (disch := omega) only [sF_o, sF_k]
    rw [v3 4 (by omega), u3 4 (by omega)]
  · simp (disch := omega) only [sF_o, sF_k, sF_s]
  · simp (disch := omega) only [sF_o, sF_k, sF_s]
  · simp (disch := omega) only [sF_o, sF_k, sF_s]
  · simp (disch := omega) only [sF_o]
    rw [v3 _ (by omega), u4 k j (by omega) hk hj]
    exact (hp k hk).2 j hj
  · simp (disch := omega) only [sF_o]
    rw [v4 k j (by omega) hk hj, u3 _ (by omega)]
    exact hs k hk j hj
theorem M_settle {τ : cr_S} {np ns : Nat} {Ps Ss : Nat → Nat → Nat} (hp6 : np ≤ 6) (hs5 : ns ≤ 5) (h17 : τ.1 0 17 = nI np) (h18 : τ.1 0 18 = nI ns) (hp : ∀ k j, k < np → j < 5 → τ.2.1 6 (5 * k + j) = nI (Ps k j)) (hs : ∀ k j, k < ns → j < 3 → τ.2.1 7 (3 * k + j) = nI (Ss k j)) : ∃ τ', f_X11_strait_B118 τ 0 = some (τ', nI np) ∧ (τ'.1 0 0 = nI np ∧ τ'.1 0 1 = nI ns ∧ τ'.1 0 20 = 0 ∧ τ'.1 0 12 = 0) ∧ (∀ j, j ≠ 0 → j ≠ 1 → j ≠ 12 → j ≠ 14 → j ≠ 20 → τ'.1 0 j = τ.1 0 j) ∧ (∀ o, o ≠ 1 → o ≠ 2 → o ≠ 3 → τ'.2.1 o = τ.2.1 o) ∧ τ'.2.2 = τ.2.2 ∧ (∀ k j, k < np → j < 5 → τ'.2.1 1 (5 * k + j) = nI (Ps k j)) ∧ (∀ k j, k < ns → j < 3 → τ'.2.1 2 (3 * k + j) = nI (Ss k j)) ∧ τ'.2.1 3 0 = τ.2.1 3 0 ∧ τ'.2.1 3 1 = -4 ∧ τ'.2.1 3 2 = 0 ∧ τ'.2.1 3 3 = 0 := by
  obtain ⟨τ1, u1, u2, u3, u4, u5, u6, -⟩ := RL5 (Ps := Ps) hp6 np cr_fuel 0 (sF (sF (sF (sF τ 0 14 0) 0 12 0) 0 0 0) 0 1 0) (by omega) (by rw [cr_fuel_v]; omega) (by simp (disch := omega) only [sF_k]; exact h17) (by simp (disch := omega) only [sF_k, sF_s]; rfl) hp
  obtain ⟨τ2, v1, v2, v3, v4, v5, v6, -⟩ := RL3 (Ss := Ss) hs5 ns cr_fuel 0 τ1 (by omega) (by rw [cr_fuel_v]; omega) (by rw [u3 18 (by omega)]; simp (disch := omega) only [sF_k]; exact h18) (by rw [u3 1 (by omega), sF_s]; rfl) (fun k j q1 q2 => by rw [u4 7 (by omega)]; exact hs k j q1 q2)
  refine ⟨sF (sA (sA (sA τ2 3 (nI 1) (-4)) 3 (nI 2) 0) 3 (nI 3) 0) 0 20 0, ?_, ⟨?_, ?_, sF_s, ?_⟩, fun j q1 q2 q3 q4 q5 => ?_, fun o q1 q2 q3 => ?_, ?_, fun k j q1 q2 => ?_, fun k j q1 q2 => ?_, ?_, ?_, ?_, ?_⟩
  · unfold f_X11_strait_B118
    rw [chk_t (by decide)]
    simp only [cr_let]
    rw [if_pos (show rF (sF (sF τ 0 14 0) 0 12 0) 0 14 = 0 from by show (sF (sF τ 0 14 0) 0 12 0).1 0 14 = 0; rw [sF_k (by omega), sF_s]), show f_X11_strait_L153 cr_fuel _ 0 = _ from u1]
    unfold f_X11_strait_B219
    rw [show f_X11_strait_L221 cr_fuel τ1 0 = _ from v1]
    unfold f_X11_strait_B267
    simp only [cr_let]
    have e : rF (sF (sA (sA (sA τ2 3 1 (-4)) 3 2 0) 3 3 0) 0 20 0) 0 0 = nI np := by
      show (sF (sA (sA (sA τ2 3 1 (-4)) 3 2 0) 3 3 0) 0 20 0).1 0 0 = nI np
      rw [sF_k (by omega)]
      show τ2.1 0 0 = nI np
      rw [v3 0 (by omega), u2]
    rw [e]
    rfl
  · rw [sF_k (by omega)]
    show τ2.1 0 0 = nI np
    rw [v3 0 (by omega), u2]
  · rw [sF_k (by omega)]
    exact v2
  · rw [sF_k (by omega)]
    show τ2.1 0 12 = 0
    rw [v3 12 (by omega), u3 12 (by omega)]
    simp (disch := omega) only [sF_k, sF_s]
  · rw [sF_k q5]
    show τ2.1 0 j = τ.1 0 j
    rw [v3 j q2, u3 j q1]
    simp (disch := omega) only [sF_k]
  · simp (disch := omega) only [sF_2, sA_o]
    rw [v4 o q2, u4 o q1]
    rfl
  · show τ2.2.2 = τ.2.2
    rw [v5, u5]
    rfl
  · simp (disch := omega) only [sF_2, sA_o]
    rw [v4 1 (by omega)]
    exact u6 k j (by omega) q1 q2
  · simp (disch := omega) only [sF_2, sA_o]
    exact v6 k j (by omega) q1 q2
  · simp (disch := omega) only [sF_2, sA_k]
    rw [v4 3 (by omega), u4 3 (by omega)]
    rfl
  · simp (disch := omega) only [sF_2, sA_k, sA_s]
  · simp (disch := omega) only [sF_2, sA_k, sA_s]
  · simp (disch := omega) only [sF_2, sA_s]
theorem S_strait {σ τ : cr_S} (h : Inv σ τ) : Step σ τ (f_X10_strait σ) (f_X11_strait τ) := by
  have h0 := h
  obtain ⟨⟨np, ns, nu, nl, Ps, Ss, hm⟩, hk, ⟨nt, t1, t2, t3, t4⟩, hs⟩ := h
  have fc : frC σ (sF (sF (sF σ 55 6 0) 55 4 0) 55 5 0) := ⟨rfl, fun o q _ => by simp (disch := omega) only [sF_o], fun j q1 q2 q3 => by simp (disch := omega) only [sF_k]⟩
  have fm : frM τ (sF (sF (sF (sF τ 0 13 0) 0 14 0) 0 17 0) 0 18 0) := ⟨fun j q1 q2 q3 q4 => by simp (disch := omega) only [sF_k], fun _ _ _ => rfl, rfl⟩
  have cN : ∀ k, k < nt → ∃ c, 32 ≤ c ∧ c ≤ 126 ∧ σ.2.1 56 k = nI c ∧ τ.2.1 5 k = nI c ∧ (σ.2.1 56 k).toNatClampNeg = c := fun k hk => by
    obtain ⟨c, c1, c2, c3, c4⟩ := t4 k hk
    exact ⟨c, c1, c2, c3, c4, by rw [c3, nI_clamp (by omega)]⟩
  have LH0 : LH nt (fun k => (σ.2.1 56 k).toNatClampNeg) (sF (sF (sF σ 55 6 0) 55 4 0) 55 5 0) (sF (sF (sF (sF τ 0 13 0) 0 14 0) 0 17 0) 0 18 0) 0 0 0 (fun _ _ => 0) (fun _ _ => 0) := by
    refine ⟨⟨t1, by simp (disch := omega) only [sF_k]; exact t2, fun k hk => ?_⟩, ⟨t1, by simp (disch := omega) only [sF_k]; exact t3, fun k hk => ?_⟩, by omega, by simp (disch := omega) only [sF_k, sF_s]; rfl, by simp (disch := omega) only [sF_k, sF_s]; rfl, by simp (disch := omega) only [sF_k, sF_s], ⟨by simp (disch := omega) only [sF_k, sF_s]; rfl, by simp (disch := omega) only [sF_k, sF_s]; rfl, by omega⟩, ⟨sF_s, sF_s, by omega⟩, fun k hk => absurd hk (by omega), fun k hk => absurd hk (by omega)⟩
    · obtain ⟨c, c1, c2, c3, c4, c5⟩ := cN k hk
      show 32 ≤ (σ.2.1 56 k).toNatClampNeg ∧ (σ.2.1 56 k).toNatClampNeg ≤ 126 ∧ σ.2.1 56 k = nI (σ.2.1 56 k).toNatClampNeg
      rw [c5]
      exact ⟨c1, c2, c3⟩
    · obtain ⟨c, c1, c2, c3, c4, c5⟩ := cN k hk
      show 32 ≤ (σ.2.1 56 k).toNatClampNeg ∧ (σ.2.1 56 k).toNatClampNeg ≤ 126 ∧ τ.2.1 5 k = nI (σ.2.1 56 k).toNatClampNeg
      rw [c5]
      exact ⟨c1, c2, c4⟩
  obtain ⟨σ', τ', a', e1, e2, e3, e4, e5, e6⟩ := EJ_tr (PL 6 cr_fuel cr_fuel 0 0 _ _ _ (by omega) (by omega) (by rw [cr_fuel_v]; omega) (by rw [cr_fuel_v]; omega) LH0) fc fm
  have M0 : f_X11_strait τ = f_X11_strait_L22 cr_fuel (sF (sF (sF (sF τ 0 13 0) 0 14 0) 0 17 0) 0 18 0) 1 := rfl
  have C0 : f_X7_isStrait_55 σ = f_X7_isStrait_55_L17 cr_fuel (sF (sF (sF σ 55 6 0) 55 4 0) 55 5 0) 1 := rfl
  unfold f_X10_strait
  rw [M0, C0]
  rcases e6 with ⟨x1, x2⟩ | ⟨x1, x2, np', ns', Ps', Ss', i1, i2, i3, i4, i5, i6, i7, i8⟩
  · rw [x1, x2]
    simp only [Option.bind_some, cr_let]
    rw [if_pos trivial, show rF σ' 55 6 = _ from e4]
    refine ⟨sF σ' 55 3 0, sF (sF τ' 0 14 1) 0 12 0, -20 - nI a', rfl, ?_, Inv_tp0 h0 e2 e3⟩
    unfold f_X11_strait_B118
    rw [chk_t (by decide)]
    simp only [cr_let]
    rw [if_neg (show ¬ rF (sF (sF τ' 0 14 1) 0 12 0) 0 14 = 0 by rw [show rF (sF (sF τ' 0 14 1) 0 12 0) 0 14 = 1 from (sF_k (by omega)).trans sF_s]; decide), show rF (sF (sF τ' 0 14 1) 0 12 0) 0 13 = nI a' from ((sF_k (by omega)).trans (sF_k (by omega))).trans e5]
  · obtain ⟨σ2, c1, c2, c3, ⟨c4, c5, c6, c7⟩, ⟨c8, c9, c10, c11⟩, c12, c13⟩ := C_settle (σ := sF σ' 55 3 0) (Ps := Ps') (Ss := Ss') i1 i2 (by rw [sF_k (by omega)]; exact i3) (by rw [sF_k (by omega)]; exact i4) (fun k hk => ⟨(i7 k hk).1, fun j hj => by rw [sF_o (by omega)]; exact ((i7 k hk).2 j hj).1⟩) (fun k hk j hj => by rw [sF_o (by omega)]; exact ((i8 k hk).2 j hj).1)
    obtain ⟨τ2, m1, ⟨m2, m3, m4, m5⟩, m6, m7, m8, m9, m10, m11, m12, m13, m14⟩ := M_settle (τ := τ') (Ps := Ps') (Ss := Ss') i1 i2 i5 i6 (fun k j q1 q2 => ((i7 k q1).2 j q2).2) (fun k j q1 q2 => ((i8 k q1).2 j q2).2)
    rw [x1, x2, m1]
    simp only [Option.bind_some, cr_let]
    rw [if_neg (show ¬ (1 : Int32) = 0 by decide), c1]
    simp only [Option.bind_some]
    have G : ∀ o, o ≠ 1 → o ≠ 4 → o ≠ 55 → (o < 9 ∨ 20 ≤ o) → (o < 59 ∨ 70 ≤ o) → σ2.1 o = σ.1 o := fun o q1 q2 q3 q4 q5 => by rw [c3 o q1 q2 q4, sF_o q3, e2.2.1 o q3 q5]
    have E : σ2.2 = σ.2 := c2.trans e2.1
    have F : ∀ j, j ≠ 0 → j ≠ 1 → j ≠ 12 → j ≠ 13 → j ≠ 14 → j ≠ 17 → j ≠ 18 → j ≠ 20 → τ2.1 0 j = τ.1 0 j := fun j q1 q2 q3 q4 q5 q6 q7 q8 => by rw [m6 j q1 q2 q3 q5 q8, e3.1 j q4 q5 q6 q7]
    have R : ∀ o, o ≠ 1 → o ≠ 2 → o ≠ 3 → o ≠ 6 → o ≠ 7 → τ2.2.1 o = τ.2.1 o := fun o q1 q2 q3 q4 q5 => by rw [m7 o q1 q2 q3, e3.2.1 o q4 q5]
    refine ⟨σ2, τ2, nI np', by rw [show rF σ2 1 5 = _ from c4], rfl, ⟨np', ns', 0, nl, Ps', Ss', ?_⟩, ?_, ?_, ?_⟩
    · obtain ⟨-, -, w1, -, ⟨f1, f2, f3⟩, -, -, ⟨clk, psd, v1, v2, v3, v4, -⟩, -, kk⟩ := hm
      refine ⟨⟨c4, m2, i1⟩, ⟨c5, m3, i2⟩, ?_, ⟨c6, m4, by omega⟩, ⟨?_, ?_, f3⟩, fun k hk => ⟨(i7 k hk).1, fun j hj => ⟨?_, m9 k j hk hj⟩⟩, fun k hk => ⟨(i8 k hk).1, fun j hj => ⟨?_, m10 k j hk hj⟩⟩, ⟨clk, 0, v1, by omega, ?_, ?_, c10, m13, c11.trans m14.symm, Or.inl ⟨c9, m12⟩⟩, fun k hk => absurd hk (by omega), fun k hk => ?_⟩
      · rw [c7, sF_o (by omega), e2.2.1 1 (by omega) (by omega), F 5 (by omega) (by omega) (by omega) (by omega) (by omega) (by omega) (by omega) (by omega)]
        exact w1
      · rw [G _ (by omega) (by omega) (by omega) (by omega) (by omega)]
        exact f1
      · rw [F 22 (by omega) (by omega) (by omega) (by omega) (by omega) (by omega) (by omega) (by omega)]
        exact f2
      · rw [show 1 + 8 + k = 9 + k by omega]
        exact c12 k hk j hj
      · rw [show 1 + 14 + k = 15 + k by omega]
        exact c13 k hk j hj
      · show σ2.1 4 0 = nI clk
        rw [c8, sF_o (by omega), e2.2.1 4 (by omega) (by omega)]
        exact v3
      · rw [m11, e3.2.1 3 (by omega) (by omega)]
        exact v4
      · rw [E, R 10 (by omega) (by omega) (by omega) (by omega) (by omega), R 11 (by omega) (by omega) (by omega) (by omega) (by omega)]
        exact kk k hk
    · exact rKp_of hk (fun o j q => by rw [G o (by omega) (by omega) (by omega) (by omega) (by omega)]) (fun o j _ _ => by rw [E]) (F 29 (by omega) (by omega) (by omega) (by omega) (by omega) (by omega) (by omega) (by omega)) (R 12 (by omega) (by omega) (by omega) (by omega) (by omega))
    · refine ⟨0, by omega, ?_, m5, fun k hk => absurd hk (by omega)⟩
      rw [c3 55 (by omega) (by omega) (by omega)]
      exact sF_s
    · exact rSh_of hs (fun o j q => by rw [G o (by omega) (by omega) (by omega) (by omega) (by omega)]) (by rw [E]) (R 13 (by omega) (by omega) (by omega) (by omega) (by omega)) (R 14 (by omega) (by omega) (by omega) (by omega) (by omega)) (m8.trans e3.2.2)

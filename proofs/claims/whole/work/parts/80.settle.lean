/-! a strait that was read comes: settle, and the reference's own loops -/
theorem C_tp_57 {np ns : Nat} (hnp : np ≤ 6) : ∀ (n f i : Nat) (σ : cr_S), i + n = np → n < f → (∀ k, k < np → ∃ b, σ.1 (59 + k) 2 = nI b ∧ 2 ≤ b ∧ b ≤ 24) → ∃ σ', f_X9_takePairsAndShips_1_57_58_L3 f σ (nI np) (nI ns) (nI i) = f_X9_takePairsAndShips_1_57_58_B36 σ' (nI np) (nI ns) ∧ σ'.2 = σ.2 ∧ (∀ o, (o < 9 + i ∨ 15 ≤ o) → σ'.1 o = σ.1 o) ∧ ∀ k j, i ≤ k → k < np → j < 5 → σ'.1 (9 + k) j = σ.1 (59 + k) j
  | 0, f + 1, i, σ, hi, hf, hb => by
    refine ⟨σ, ?_, rfl, fun _ _ => rfl, fun k j q1 q2 => absurd q1 (by omega)⟩
    rw [f_X9_takePairsAndShips_1_57_58_L3, if_pos (by rw [le_n (by omega) (by omega)]; omega)]
  | n + 1, f + 1, i, σ, hi, hf, hb => by
    obtain ⟨b, b1, b2, b3⟩ := hb i (by omega)
    obtain ⟨σ1, t1, t2, t3, t4⟩ := C_ptake (σ := σ) (kC_p i (by omega)) (kC_p3 i (by omega)) (show 9 + i ≠ 59 + i by omega) b1 b2 b3
    obtain ⟨σ2, u1, u2, u3, u4⟩ := C_tp_57 (np := np) (ns := ns) hnp n f (i + 1) σ1 (by omega) (by omega) (fun k hk => by rw [t3 _ (by omega)]; exact hb k hk)
    refine ⟨σ2, ?_, u2.trans t2, fun o ho => (u3 o (by omega)).trans (t3 o (by omega)), fun k j q1 q2 q3 => ?_⟩
    · rw [f_X9_takePairsAndShips_1_57_58_L3, if_neg (by rw [le_n (by omega) (by omega)]; omega), n_6, if_neg (by rw [le_n (by omega) (by omega)]; omega), chk_i (by omega) (by omega), chk_i (by omega) (by omega), nI_clamp (by omega), t1]
      simp only [Option.bind_some]
      rw [chk_t (kC_p i (by omega)), nI_1]
      exact u1
    · by_cases e : k = i
      · subst e
        rw [u3 _ (by omega), t4 j q3]
      · rw [u4 k j (by omega) q2 q3, t3 _ (by omega)]
theorem C_ts_57 {np ns : Nat} (hns : ns ≤ 5) : ∀ (n f i : Nat) (σ : cr_S), i + n = ns → n < f → ∃ σ', f_X9_takePairsAndShips_1_57_58_L39 f σ (nI np) (nI ns) (nI i) = f_X9_takePairsAndShips_1_57_58_B72 σ' (nI np) (nI ns) ∧ σ'.2 = σ.2 ∧ (∀ o, (o < 15 + i ∨ 20 ≤ o) → σ'.1 o = σ.1 o) ∧ ∀ k j, i ≤ k → k < ns → j < 3 → σ'.1 (15 + k) j = σ.1 (65 + k) j
  | 0, f + 1, i, σ, hi, hf => by
    refine ⟨σ, ?_, rfl, fun _ _ => rfl, fun k j q1 q2 => absurd q1 (by omega)⟩
    rw [f_X9_takePairsAndShips_1_57_58_L39, if_pos (by rw [le_n (by omega) (by omega)]; omega)]
  | n + 1, f + 1, i, σ, hi, hf => by
    obtain ⟨σ1, t1, t2, t3, t4⟩ := C_stake (σ := σ) (kC_s i (by omega)) (kC_s3 i (by omega)) (show 15 + i ≠ 65 + i by omega)
    obtain ⟨σ2, u1, u2, u3, u4⟩ := C_ts_57 (np := np) (ns := ns) hns n f (i + 1) σ1 (by omega) (by omega)
    refine ⟨σ2, ?_, u2.trans t2, fun o ho => (u3 o (by omega)).trans (t3 o (by omega)), fun k j q1 q2 q3 => ?_⟩
    · rw [f_X9_takePairsAndShips_1_57_58_L39, if_neg (by rw [le_n (by omega) (by omega)]; omega), n_5, if_neg (by rw [le_n (by omega) (by omega)]; omega), chk_i (by omega) (by omega), chk_i (by omega) (by omega), nI_clamp (by omega), t1]
      simp only [Option.bind_some]
      rw [chk_t (kC_s i (by omega)), nI_1]
      exact u1
    · by_cases e : k = i
      · subst e
        rw [u3 _ (by omega), t4 j q3]
      · rw [u4 k j (by omega) q2 q3, t3 _ (by omega)]
theorem M_pc {τ : cr_S} {i : Nat} {a b c d e : Int32} (hi : i < 6) (h0 : τ.1 0 0 = nI i) : f_X11_pairComes τ a b c d e = some (sF (sA (sA (sA (sA (sA τ 1 (nI (5 * i)) a) 1 (nI (5 * i + 1)) b) 1 (nI (5 * i + 2)) c) 1 (nI (5 * i + 3)) d) 1 (nI (5 * i + 4)) e) 0 0 (nI (i + 1))) := by
  simp (disch := omega) only [f_X11_pairComes, rF, h0, cr_let, n_5, pk_mul, chk_i, n_1, n_2, n_3, n_4, nI_add, sA_1]
theorem M_sc {τ : cr_S} {i : Nat} {a b c : Int32} (hi : i < 5) (h0 : τ.1 0 1 = nI i) : f_X11_shipComes τ a b c = some (sF (sA (sA (sA τ 2 (nI (3 * i)) a) 2 (nI (3 * i + 1)) b) 2 (nI (3 * i + 2)) c) 0 1 (nI (i + 1))) := by
  simp (disch := omega) only [f_X11_shipComes, rF, h0, cr_let, n_3, pk_mul, chk_i, n_1, n_2, nI_add, sA_1]
theorem RL5 {np : Nat} {Ps : Nat → Nat → Nat} (hnp : np ≤ 6) : ∀ (n f i : Nat) (τ : cr_S), i + n = np → n < f → τ.1 0 17 = nI np → τ.1 0 0 = nI i → (∀ k j, k < np → j < 5 → τ.2.1 6 (5 * k + j) = nI (Ps k j)) → ∃ τ', f_X11_strait_L153 f τ (nI i) = f_X11_strait_B219 τ' ∧ τ'.1 0 0 = nI np ∧ (∀ j, j ≠ 0 → τ'.1 0 j = τ.1 0 j) ∧ (∀ o, o ≠ 1 → τ'.2.1 o = τ.2.1 o) ∧ τ'.2.2 = τ.2.2 ∧ (∀ k j, i ≤ k → k < np → j < 5 → τ'.2.1 1 (5 * k + j) = nI (Ps k j)) ∧ (∀ x, x < 5 * i → τ'.2.1 1 x = τ.2.1 1 x)
  | 0, f + 1, i, τ, hi, hf, h17, h0, hr => by
    refine ⟨τ, ?_, by rw [h0, show i = np by omega], fun _ _ => rfl, fun _ _ => rfl, rfl, fun k j q1 q2 => absurd q1 (by omega), fun _ _ => rfl⟩
    rw [f_X11_strait_L153, show rF τ 0 17 = _ from h17, if_pos (by rw [le_n (by omega) (by omega)]; omega)]
  | n + 1, f + 1, i, τ, hi, hf, h17, h0, hr => by
    have e0 := hr i 0 (by omega) (by omega)
    have e1 := hr i 1 (by omega) (by omega)
    have e2 := hr i 2 (by omega) (by omega)
    have e3 := hr i 3 (by omega) (by omega)
    have e4 := hr i 4 (by omega) (by omega)
    obtain ⟨τ2, u1, u2, u3, u4, u5, u6, u7⟩ := RL5 hnp n f (i + 1) (sF (sA (sA (sA (sA (sA τ 1 (nI (5 * i)) (nI (Ps i 0))) 1 (nI (5 * i + 1)) (nI (Ps i 1))) 1 (nI (5 * i + 2)) (nI (Ps i 2))) 1 (nI (5 * i + 3)) (nI (Ps i 3))) 1 (nI (5 * i + 4)) (nI (Ps i 4))) 0 0 (nI (i + 1))) (by omega) (by omega) (by rw [sF_k (by omega)]; exact h17) sF_s (fun k j q1 q2 => by simp (disch := omega) only [sF_2, sA_o]; exact hr k j q1 q2)
    refine ⟨τ2, ?_, u2, fun j q => by rw [u3 j q, sF_k q]; rfl, fun o q => by rw [u4 o q]; simp (disch := omega) only [sF_2, sA_o], u5, fun k j q1 q2 q3 => ?_, fun x hx => by rw [u7 x (by omega)]; simp (disch := omega) only [sF_2, sA_k]⟩
    · rw [f_X11_strait_L153, show rF τ 0 17 = _ from h17, if_neg (by rw [le_n (by omega) (by omega)]; omega), n_5, pk_mul, n_1, n_2, n_3, n_4]
      simp (disch := omega) only [chk_i, nI_add, rA_n]
      rw [show τ.2.1 6 (5 * i) = nI (Ps i 0) from e0, e1, e2, e3, e4, M_pc (by omega) h0]
      simp only [Option.bind_some, cr_let]
      exact u1
    · by_cases e : k = i
      · subst e
        rw [u7 _ (by omega)]
        rcases (show j = 0 ∨ j = 1 ∨ j = 2 ∨ j = 3 ∨ j = 4 by omega) with rfl | rfl | rfl | rfl | rfl <;> simp (disch := omega) only [sF_2, sA_k, sA_s, Nat.add_zero]
      · exact u6 k j (by omega) q2 q3
theorem RL3 {ns : Nat} {Ss : Nat → Nat → Nat} (hns : ns ≤ 5) : ∀ (n f i : Nat) (τ : cr_S), i + n = ns → n < f → τ.1 0 18 = nI ns → τ.1 0 1 = nI i → (∀ k j, k < ns → j < 3 → τ.2.1 7 (3 * k + j) = nI (Ss k j)) → ∃ τ', f_X11_strait_L221 f τ (nI i) = f_X11_strait_B267 τ' ∧ τ'.1 0 1 = nI ns ∧ (∀ j, j ≠ 1 → τ'.1 0 j = τ.1 0 j) ∧ (∀ o, o ≠ 2 → τ'.2.1 o = τ.2.1 o) ∧ τ'.2.2 = τ.2.2 ∧ (∀ k j, i ≤ k → k < ns → j < 3 → τ'.2.1 2 (3 * k + j) = nI (Ss k j)) ∧ (∀ x, x < 3 * i → τ'.2.1 2 x = τ.2.1 2 x)
  | 0, f + 1, i, τ, hi, hf, h17, h0, hr => by
    refine ⟨τ, ?_, by rw [h0, show i = ns by omega], fun _ _ => rfl, fun _ _ => rfl, rfl, fun k j q1 q2 => absurd q1 (by omega), fun _ _ => rfl⟩
    rw [f_X11_strait_L221, show rF τ 0 18 = _ from h17, if_pos (by rw [le_n (by omega) (by omega)]; omega)]
  | n + 1, f + 1, i, τ, hi, hf, h17, h0, hr => by
    have e0 := hr i 0 (by omega) (by omega)
    have e1 := hr i 1 (by omega) (by omega)
    have e2 := hr i 2 (by omega) (by omega)
    obtain ⟨τ2, u1, u2, u3, u4, u5, u6, u7⟩ := RL3 hns n f (i + 1) (sF (sA (sA (sA τ 2 (nI (3 * i)) (nI (Ss i 0))) 2 (nI (3 * i + 1)) (nI (Ss i 1))) 2 (nI (3 * i + 2)) (nI (Ss i 2))) 0 1 (nI (i + 1))) (by omega) (by omega) (by rw [sF_k (by omega)]; exact h17) sF_s (fun k j q1 q2 => by simp (disch := omega) only [sF_2, sA_o]; exact hr k j q1 q2)
    refine ⟨τ2, ?_, u2, fun j q => by rw [u3 j q, sF_k q]; rfl, fun o q => by rw [u4 o q]; simp (disch := omega) only [sF_2, sA_o], u5, fun k j q1 q2 q3 => ?_, fun x hx => by rw [u7 x (by omega)]; simp (disch := omega) only [sF_2, sA_k]⟩
    · rw [f_X11_strait_L221, show rF τ 0 18 = _ from h17, if_neg (by rw [le_n (by omega) (by omega)]; omega), n_3, pk_mul, n_1, n_2]
      simp (disch := omega) only [chk_i, nI_add, rA_n]
      rw [show τ.2.1 7 (3 * i) = nI (Ss i 0) from e0, e1, e2, M_sc (by omega) h0]
      simp only [Option.bind_some, cr_let]
      exact u1
    · by_cases e : k = i
      · subst e
        rw [u7 _ (by omega)]
        rcases (show j = 0 ∨ j = 1 ∨ j = 2 by omega) with rfl | rfl | rfl <;> simp (disch := omega) only [sF_2, sA_k, sA_s, Nat.add_zero]
      · exact u6 k j (by omega) q2 q3

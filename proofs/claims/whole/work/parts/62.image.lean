/-! the steps image, restore (made by wip/gen/image.py) -/
theorem n_15 : (15 : Int32) = nI 15 := id rfl
theorem n_32 : (32 : Int32) = nI 32 := id rfl
theorem M_nr_1 {x : Nat} (hx : x + 30 ≤ 111) : ∀ (n f i : Nat) (τ : cr_S), i + n = 30 → n < f → ∃ τ', f_X11_notesRow_1_L2 f τ (nI x) (nI i) = some (τ', nI (x + 30)) ∧ τ'.1 = τ.1 ∧ τ'.2.2 = τ.2.2 ∧ (∀ o, o ≠ 12 → τ'.2.1 o = τ.2.1 o) ∧ (∀ q, (q < x + i ∨ x + 30 ≤ q) → τ'.2.1 12 q = τ.2.1 12 q) ∧ ∀ j, i ≤ j → j < 30 → τ'.2.1 12 (x + j) = τ.2.1 1 j
  | 0, f + 1, i, τ, hi, hf => by
    refine ⟨τ, ?_, rfl, rfl, fun _ _ => rfl, fun _ _ => rfl, fun j q1 q2 => absurd q1 (by omega)⟩
    rw [f_X11_notesRow_1_L2, n_30, if_pos (by rw [le_n (by omega) (by omega)]; omega), f_X11_notesRow_1_B25, n_30, nI_add]
  | n + 1, f + 1, i, τ, hi, hf => by
    obtain ⟨τ2, u1, u2, u3, u4, u5, u6⟩ := M_nr_1 hx n f (i + 1) (sA τ 12 (nI (x + i)) (τ.2.1 1 i)) (by omega) (by omega)
    refine ⟨τ2, ?_, u2, u3, fun o ho => (u4 o ho).trans (sA_o ho), fun q hq => by rw [u5 q (by omega), sA_k (by omega) (by omega)], fun j q1 q2 => ?_⟩
    · rw [f_X11_notesRow_1_L2, n_30, if_neg (by rw [le_n (by omega) (by omega)]; omega), nI_add, chk_i (by omega) (by omega), chk_i (by omega) (by omega), rA_n (by omega), nI_1]
      exact u1
    · by_cases e : j = i
      · subst e
        rw [u5 (x + j) (by omega), sA_s (by omega)]
      · rw [u6 j (by omega) q2, sA_o (by omega)]
theorem M_gv_1 {x : Nat} (hx : x + 30 ≤ 111) : ∀ (n f i : Nat) (τ : cr_S), i + n = 30 → n < f → ∃ τ', f_X11_gives_1_L2 f τ (nI x) (nI i) = some (τ', nI (x + 30)) ∧ τ'.1 = τ.1 ∧ τ'.2.2 = τ.2.2 ∧ (∀ o, o ≠ 1 → τ'.2.1 o = τ.2.1 o) ∧ (∀ q, q < i → τ'.2.1 1 q = τ.2.1 1 q) ∧ ∀ j, i ≤ j → j < 30 → τ'.2.1 1 j = τ.2.1 12 (x + j)
  | 0, f + 1, i, τ, hi, hf => by
    refine ⟨τ, ?_, rfl, rfl, fun _ _ => rfl, fun _ _ => rfl, fun j q1 q2 => absurd q1 (by omega)⟩
    rw [f_X11_gives_1_L2, n_30, if_pos (by rw [le_n (by omega) (by omega)]; omega), f_X11_gives_1_B25, n_30, nI_add]
  | n + 1, f + 1, i, τ, hi, hf => by
    obtain ⟨τ2, u1, u2, u3, u4, u5, u6⟩ := M_gv_1 hx n f (i + 1) (sA τ 1 (nI i) (τ.2.1 12 (x + i))) (by omega) (by omega)
    refine ⟨τ2, ?_, u2, u3, fun o ho => (u4 o ho).trans (sA_o ho), fun q hq => by rw [u5 q (by omega), sA_k (by omega) (by omega)], fun j q1 q2 => ?_⟩
    · rw [f_X11_gives_1_L2, n_30, if_neg (by rw [le_n (by omega) (by omega)]; omega), nI_add, chk_i (by omega) (by omega), chk_i (by omega) (by omega), rA_n (by omega), nI_1]
      exact u1
    · by_cases e : j = i
      · subst e
        rw [u5 j (by omega), sA_s (by omega)]
      · rw [u6 j (by omega) q2, sA_o (by omega)]
theorem M_nr_2 {x : Nat} (hx : x + 15 ≤ 111) : ∀ (n f i : Nat) (τ : cr_S), i + n = 15 → n < f → ∃ τ', f_X11_notesRow_2_L2 f τ (nI x) (nI i) = some (τ', nI (x + 15)) ∧ τ'.1 = τ.1 ∧ τ'.2.2 = τ.2.2 ∧ (∀ o, o ≠ 12 → τ'.2.1 o = τ.2.1 o) ∧ (∀ q, (q < x + i ∨ x + 15 ≤ q) → τ'.2.1 12 q = τ.2.1 12 q) ∧ ∀ j, i ≤ j → j < 15 → τ'.2.1 12 (x + j) = τ.2.1 2 j
  | 0, f + 1, i, τ, hi, hf => by
    refine ⟨τ, ?_, rfl, rfl, fun _ _ => rfl, fun _ _ => rfl, fun j q1 q2 => absurd q1 (by omega)⟩
    rw [f_X11_notesRow_2_L2, n_15, if_pos (by rw [le_n (by omega) (by omega)]; omega), f_X11_notesRow_2_B25, n_15, nI_add]
  | n + 1, f + 1, i, τ, hi, hf => by
    obtain ⟨τ2, u1, u2, u3, u4, u5, u6⟩ := M_nr_2 hx n f (i + 1) (sA τ 12 (nI (x + i)) (τ.2.1 2 i)) (by omega) (by omega)
    refine ⟨τ2, ?_, u2, u3, fun o ho => (u4 o ho).trans (sA_o ho), fun q hq => by rw [u5 q (by omega), sA_k (by omega) (by omega)], fun j q1 q2 => ?_⟩
    · rw [f_X11_notesRow_2_L2, n_15, if_neg (by rw [le_n (by omega) (by omega)]; omega), nI_add, chk_i (by omega) (by omega), chk_i (by omega) (by omega), rA_n (by omega), nI_1]
      exact u1
    · by_cases e : j = i
      · subst e
        rw [u5 (x + j) (by omega), sA_s (by omega)]
      · rw [u6 j (by omega) q2, sA_o (by omega)]
theorem M_gv_2 {x : Nat} (hx : x + 15 ≤ 111) : ∀ (n f i : Nat) (τ : cr_S), i + n = 15 → n < f → ∃ τ', f_X11_gives_2_L2 f τ (nI x) (nI i) = some (τ', nI (x + 15)) ∧ τ'.1 = τ.1 ∧ τ'.2.2 = τ.2.2 ∧ (∀ o, o ≠ 2 → τ'.2.1 o = τ.2.1 o) ∧ (∀ q, q < i → τ'.2.1 2 q = τ.2.1 2 q) ∧ ∀ j, i ≤ j → j < 15 → τ'.2.1 2 j = τ.2.1 12 (x + j)
  | 0, f + 1, i, τ, hi, hf => by
    refine ⟨τ, ?_, rfl, rfl, fun _ _ => rfl, fun _ _ => rfl, fun j q1 q2 => absurd q1 (by omega)⟩
    rw [f_X11_gives_2_L2, n_15, if_pos (by rw [le_n (by omega) (by omega)]; omega), f_X11_gives_2_B25, n_15, nI_add]
  | n + 1, f + 1, i, τ, hi, hf => by
    obtain ⟨τ2, u1, u2, u3, u4, u5, u6⟩ := M_gv_2 hx n f (i + 1) (sA τ 2 (nI i) (τ.2.1 12 (x + i))) (by omega) (by omega)
    refine ⟨τ2, ?_, u2, u3, fun o ho => (u4 o ho).trans (sA_o ho), fun q hq => by rw [u5 q (by omega), sA_k (by omega) (by omega)], fun j q1 q2 => ?_⟩
    · rw [f_X11_gives_2_L2, n_15, if_neg (by rw [le_n (by omega) (by omega)]; omega), nI_add, chk_i (by omega) (by omega), chk_i (by omega) (by omega), rA_n (by omega), nI_1]
      exact u1
    · by_cases e : j = i
      · subst e
        rw [u5 j (by omega), sA_s (by omega)]
      · rw [u6 j (by omega) q2, sA_o (by omega)]
theorem M_nr_3 {x : Nat} (hx : x + 4 ≤ 111) : ∀ (n f i : Nat) (τ : cr_S), i + n = 4 → n < f → ∃ τ', f_X11_notesRow_3_L2 f τ (nI x) (nI i) = some (τ', nI (x + 4)) ∧ τ'.1 = τ.1 ∧ τ'.2.2 = τ.2.2 ∧ (∀ o, o ≠ 12 → τ'.2.1 o = τ.2.1 o) ∧ (∀ q, (q < x + i ∨ x + 4 ≤ q) → τ'.2.1 12 q = τ.2.1 12 q) ∧ ∀ j, i ≤ j → j < 4 → τ'.2.1 12 (x + j) = τ.2.1 3 j
  | 0, f + 1, i, τ, hi, hf => by
    refine ⟨τ, ?_, rfl, rfl, fun _ _ => rfl, fun _ _ => rfl, fun j q1 q2 => absurd q1 (by omega)⟩
    rw [f_X11_notesRow_3_L2, n_4, if_pos (by rw [le_n (by omega) (by omega)]; omega), f_X11_notesRow_3_B25, n_4, nI_add]
  | n + 1, f + 1, i, τ, hi, hf => by
    obtain ⟨τ2, u1, u2, u3, u4, u5, u6⟩ := M_nr_3 hx n f (i + 1) (sA τ 12 (nI (x + i)) (τ.2.1 3 i)) (by omega) (by omega)
    refine ⟨τ2, ?_, u2, u3, fun o ho => (u4 o ho).trans (sA_o ho), fun q hq => by rw [u5 q (by omega), sA_k (by omega) (by omega)], fun j q1 q2 => ?_⟩
    · rw [f_X11_notesRow_3_L2, n_4, if_neg (by rw [le_n (by omega) (by omega)]; omega), nI_add, chk_i (by omega) (by omega), chk_i (by omega) (by omega), rA_n (by omega), nI_1]
      exact u1
    · by_cases e : j = i
      · subst e
        rw [u5 (x + j) (by omega), sA_s (by omega)]
      · rw [u6 j (by omega) q2, sA_o (by omega)]
theorem M_gv_3 {x : Nat} (hx : x + 4 ≤ 111) : ∀ (n f i : Nat) (τ : cr_S), i + n = 4 → n < f → ∃ τ', f_X11_gives_3_L2 f τ (nI x) (nI i) = some (τ', nI (x + 4)) ∧ τ'.1 = τ.1 ∧ τ'.2.2 = τ.2.2 ∧ (∀ o, o ≠ 3 → τ'.2.1 o = τ.2.1 o) ∧ (∀ q, q < i → τ'.2.1 3 q = τ.2.1 3 q) ∧ ∀ j, i ≤ j → j < 4 → τ'.2.1 3 j = τ.2.1 12 (x + j)
  | 0, f + 1, i, τ, hi, hf => by
    refine ⟨τ, ?_, rfl, rfl, fun _ _ => rfl, fun _ _ => rfl, fun j q1 q2 => absurd q1 (by omega)⟩
    rw [f_X11_gives_3_L2, n_4, if_pos (by rw [le_n (by omega) (by omega)]; omega), f_X11_gives_3_B25, n_4, nI_add]
  | n + 1, f + 1, i, τ, hi, hf => by
    obtain ⟨τ2, u1, u2, u3, u4, u5, u6⟩ := M_gv_3 hx n f (i + 1) (sA τ 3 (nI i) (τ.2.1 12 (x + i))) (by omega) (by omega)
    refine ⟨τ2, ?_, u2, u3, fun o ho => (u4 o ho).trans (sA_o ho), fun q hq => by rw [u5 q (by omega), sA_k (by omega) (by omega)], fun j q1 q2 => ?_⟩
    · rw [f_X11_gives_3_L2, n_4, if_neg (by rw [le_n (by omega) (by omega)]; omega), nI_add, chk_i (by omega) (by omega), chk_i (by omega) (by omega), rA_n (by omega), nI_1]
      exact u1
    · by_cases e : j = i
      · subst e
        rw [u5 j (by omega), sA_s (by omega)]
      · rw [u6 j (by omega) q2, sA_o (by omega)]
theorem M_nr_8 {x : Nat} (hx : x + 32 ≤ 111) : ∀ (n f i : Nat) (τ : cr_S), i + n = 32 → n < f → ∃ τ', f_X11_notesRow_8_L2 f τ (nI x) (nI i) = some (τ', nI (x + 32)) ∧ τ'.1 = τ.1 ∧ τ'.2.2 = τ.2.2 ∧ (∀ o, o ≠ 12 → τ'.2.1 o = τ.2.1 o) ∧ (∀ q, (q < x + i ∨ x + 32 ≤ q) → τ'.2.1 12 q = τ.2.1 12 q) ∧ ∀ j, i ≤ j → j < 32 → τ'.2.1 12 (x + j) = τ.2.1 8 j
  | 0, f + 1, i, τ, hi, hf => by
    refine ⟨τ, ?_, rfl, rfl, fun _ _ => rfl, fun _ _ => rfl, fun j q1 q2 => absurd q1 (by omega)⟩
    rw [f_X11_notesRow_8_L2, n_32, if_pos (by rw [le_n (by omega) (by omega)]; omega), f_X11_notesRow_8_B25, n_32, nI_add]
  | n + 1, f + 1, i, τ, hi, hf => by
    obtain ⟨τ2, u1, u2, u3, u4, u5, u6⟩ := M_nr_8 hx n f (i + 1) (sA τ 12 (nI (x + i)) (τ.2.1 8 i)) (by omega) (by omega)
    refine ⟨τ2, ?_, u2, u3, fun o ho => (u4 o ho).trans (sA_o ho), fun q hq => by rw [u5 q (by omega), sA_k (by omega) (by omega)], fun j q1 q2 => ?_⟩
    · rw [f_X11_notesRow_8_L2, n_32, if_neg (by rw [le_n (by omega) (by omega)]; omega), nI_add, chk_i (by omega) (by omega), chk_i (by omega) (by omega), rA_n (by omega), nI_1]
      exact u1
    · by_cases e : j = i
      · subst e
        rw [u5 (x + j) (by omega), sA_s (by omega)]
      · rw [u6 j (by omega) q2, sA_o (by omega)]
theorem M_gv_8 {x : Nat} (hx : x + 32 ≤ 111) : ∀ (n f i : Nat) (τ : cr_S), i + n = 32 → n < f → ∃ τ', f_X11_gives_8_L2 f τ (nI x) (nI i) = some (τ', nI (x + 32)) ∧ τ'.1 = τ.1 ∧ τ'.2.2 = τ.2.2 ∧ (∀ o, o ≠ 8 → τ'.2.1 o = τ.2.1 o) ∧ (∀ q, q < i → τ'.2.1 8 q = τ.2.1 8 q) ∧ ∀ j, i ≤ j → j < 32 → τ'.2.1 8 j = τ.2.1 12 (x + j)
  | 0, f + 1, i, τ, hi, hf => by
    refine ⟨τ, ?_, rfl, rfl, fun _ _ => rfl, fun _ _ => rfl, fun j q1 q2 => absurd q1 (by omega)⟩
    rw [f_X11_gives_8_L2, n_32, if_pos (by rw [le_n (by omega) (by omega)]; omega), f_X11_gives_8_B25, n_32, nI_add]
  | n + 1, f + 1, i, τ, hi, hf => by
    obtain ⟨τ2, u1, u2, u3, u4, u5, u6⟩ := M_gv_8 hx n f (i + 1) (sA τ 8 (nI i) (τ.2.1 12 (x + i))) (by omega) (by omega)
    refine ⟨τ2, ?_, u2, u3, fun o ho => (u4 o ho).trans (sA_o ho), fun q hq => by rw [u5 q (by omega), sA_k (by omega) (by omega)], fun j q1 q2 => ?_⟩
    · rw [f_X11_gives_8_L2, n_32, if_neg (by rw [le_n (by omega) (by omega)]; omega), nI_add, chk_i (by omega) (by omega), chk_i (by omega) (by omega), rA_n (by omega), nI_1]
      exact u1
    · by_cases e : j = i
      · subst e
        rw [u5 j (by omega), sA_s (by omega)]
      · rw [u6 j (by omega) q2, sA_o (by omega)]
theorem M_nr_10 {x : Nat} (hx : x + 12 ≤ 111) : ∀ (n f i : Nat) (τ : cr_S), i + n = 12 → n < f → ∃ τ', f_X11_notesRow_10_L2 f τ (nI x) (nI i) = some (τ', nI (x + 12)) ∧ τ'.1 = τ.1 ∧ τ'.2.2 = τ.2.2 ∧ (∀ o, o ≠ 12 → τ'.2.1 o = τ.2.1 o) ∧ (∀ q, (q < x + i ∨ x + 12 ≤ q) → τ'.2.1 12 q = τ.2.1 12 q) ∧ ∀ j, i ≤ j → j < 12 → τ'.2.1 12 (x + j) = τ.2.1 10 j
  | 0, f + 1, i, τ, hi, hf => by
    refine ⟨τ, ?_, rfl, rfl, fun _ _ => rfl, fun _ _ => rfl, fun j q1 q2 => absurd q1 (by omega)⟩
    rw [f_X11_notesRow_10_L2, n_12, if_pos (by rw [le_n (by omega) (by omega)]; omega), f_X11_notesRow_10_B25, n_12, nI_add]
  | n + 1, f + 1, i, τ, hi, hf => by
    obtain ⟨τ2, u1, u2, u3, u4, u5, u6⟩ := M_nr_10 hx n f (i + 1) (sA τ 12 (nI (x + i)) (τ.2.1 10 i)) (by omega) (by omega)
    refine ⟨τ2, ?_, u2, u3, fun o ho => (u4 o ho).trans (sA_o ho), fun q hq => by rw [u5 q (by omega), sA_k (by omega) (by omega)], fun j q1 q2 => ?_⟩
    · rw [f_X11_notesRow_10_L2, n_12, if_neg (by rw [le_n (by omega) (by omega)]; omega), nI_add, chk_i (by omega) (by omega), chk_i (by omega) (by omega), rA_n (by omega), nI_1]
      exact u1
    · by_cases e : j = i
      · subst e
        rw [u5 (x + j) (by omega), sA_s (by omega)]
      · rw [u6 j (by omega) q2, sA_o (by omega)]
theorem M_gv_10 {x : Nat} (hx : x + 12 ≤ 111) : ∀ (n f i : Nat) (τ : cr_S), i + n = 12 → n < f → ∃ τ', f_X11_gives_10_L2 f τ (nI x) (nI i) = some (τ', nI (x + 12)) ∧ τ'.1 = τ.1 ∧ τ'.2.2 = τ.2.2 ∧ (∀ o, o ≠ 10 → τ'.2.1 o = τ.2.1 o) ∧ (∀ q, q < i → τ'.2.1 10 q = τ.2.1 10 q) ∧ ∀ j, i ≤ j → j < 12 → τ'.2.1 10 j = τ.2.1 12 (x + j)
  | 0, f + 1, i, τ, hi, hf => by
    refine ⟨τ, ?_, rfl, rfl, fun _ _ => rfl, fun _ _ => rfl, fun j q1 q2 => absurd q1 (by omega)⟩
    rw [f_X11_gives_10_L2, n_12, if_pos (by rw [le_n (by omega) (by omega)]; omega), f_X11_gives_10_B25, n_12, nI_add]
  | n + 1, f + 1, i, τ, hi, hf => by
    obtain ⟨τ2, u1, u2, u3, u4, u5, u6⟩ := M_gv_10 hx n f (i + 1) (sA τ 10 (nI i) (τ.2.1 12 (x + i))) (by omega) (by omega)
    refine ⟨τ2, ?_, u2, u3, fun o ho => (u4 o ho).trans (sA_o ho), fun q hq => by rw [u5 q (by omega), sA_k (by omega) (by omega)], fun j q1 q2 => ?_⟩
    · rw [f_X11_gives_10_L2, n_12, if_neg (by rw [le_n (by omega) (by omega)]; omega), nI_add, chk_i (by omega) (by omega), chk_i (by omega) (by omega), rA_n (by omega), nI_1]
      exact u1
    · by_cases e : j = i
      · subst e
        rw [u5 j (by omega), sA_s (by omega)]
      · rw [u6 j (by omega) q2, sA_o (by omega)]
theorem M_nr_11 {x : Nat} (hx : x + 12 ≤ 111) : ∀ (n f i : Nat) (τ : cr_S), i + n = 12 → n < f → ∃ τ', f_X11_notesRow_11_L2 f τ (nI x) (nI i) = some (τ', nI (x + 12)) ∧ τ'.1 = τ.1 ∧ τ'.2.2 = τ.2.2 ∧ (∀ o, o ≠ 12 → τ'.2.1 o = τ.2.1 o) ∧ (∀ q, (q < x + i ∨ x + 12 ≤ q) → τ'.2.1 12 q = τ.2.1 12 q) ∧ ∀ j, i ≤ j → j < 12 → τ'.2.1 12 (x + j) = τ.2.1 11 j
  | 0, f + 1, i, τ, hi, hf => by
    refine ⟨τ, ?_, rfl, rfl, fun _ _ => rfl, fun _ _ => rfl, fun j q1 q2 => absurd q1 (by omega)⟩
    rw [f_X11_notesRow_11_L2, n_12, if_pos (by rw [le_n (by omega) (by omega)]; omega), f_X11_notesRow_11_B25, n_12, nI_add]
  | n + 1, f + 1, i, τ, hi, hf => by
    obtain ⟨τ2, u1, u2, u3, u4, u5, u6⟩ := M_nr_11 hx n f (i + 1) (sA τ 12 (nI (x + i)) (τ.2.1 11 i)) (by omega) (by omega)
    refine ⟨τ2, ?_, u2, u3, fun o ho => (u4 o ho).trans (sA_o ho), fun q hq => by rw [u5 q (by omega), sA_k (by omega) (by omega)], fun j q1 q2 => ?_⟩
    · rw [f_X11_notesRow_11_L2, n_12, if_neg (by rw [le_n (by omega) (by omega)]; omega), nI_add, chk_i (by omega) (by omega), chk_i (by omega) (by omega), rA_n (by omega), nI_1]
      exact u1
    · by_cases e : j = i
      · subst e
        rw [u5 (x + j) (by omega), sA_s (by omega)]
      · rw [u6 j (by omega) q2, sA_o (by omega)]
theorem M_gv_11 {x : Nat} (hx : x + 12 ≤ 111) : ∀ (n f i : Nat) (τ : cr_S), i + n = 12 → n < f → ∃ τ', f_X11_gives_11_L2 f τ (nI x) (nI i) = some (τ', nI (x + 12)) ∧ τ'.1 = τ.1 ∧ τ'.2.2 = τ.2.2 ∧ (∀ o, o ≠ 11 → τ'.2.1 o = τ.2.1 o) ∧ (∀ q, q < i → τ'.2.1 11 q = τ.2.1 11 q) ∧ ∀ j, i ≤ j → j < 12 → τ'.2.1 11 j = τ.2.1 12 (x + j)
  | 0, f + 1, i, τ, hi, hf => by
    refine ⟨τ, ?_, rfl, rfl, fun _ _ => rfl, fun _ _ => rfl, fun j q1 q2 => absurd q1 (by omega)⟩
    rw [f_X11_gives_11_L2, n_12, if_pos (by rw [le_n (by omega) (by omega)]; omega), f_X11_gives_11_B25, n_12, nI_add]
  | n + 1, f + 1, i, τ, hi, hf => by
    obtain ⟨τ2, u1, u2, u3, u4, u5, u6⟩ := M_gv_11 hx n f (i + 1) (sA τ 11 (nI i) (τ.2.1 12 (x + i))) (by omega) (by omega)
    refine ⟨τ2, ?_, u2, u3, fun o ho => (u4 o ho).trans (sA_o ho), fun q hq => by rw [u5 q (by omega), sA_k (by omega) (by omega)], fun j q1 q2 => ?_⟩
    · rw [f_X11_gives_11_L2, n_12, if_neg (by rw [le_n (by omega) (by omega)]; omega), nI_add, chk_i (by omega) (by omega), chk_i (by omega) (by omega), rA_n (by omega), nI_1]
      exact u1
    · by_cases e : j = i
      · subst e
        rw [u5 j (by omega), sA_s (by omega)]
      · rw [u6 j (by omega) q2, sA_o (by omega)]
theorem C_ptake {σ : cr_S} {a b bt : Nat} (ha : kC a = 3) (hb : kC b = 3) (hne : a ≠ b) (h2 : σ.1 b 2 = nI bt) (hbt : 2 ≤ bt) (hbt2 : bt ≤ 24) : ∃ σ', f_X3_take σ a b = some σ' ∧ σ'.2 = σ.2 ∧ (∀ o, o ≠ a → σ'.1 o = σ.1 o) ∧ ∀ j, j < 5 → σ'.1 a j = σ.1 b j := by
  refine ⟨sF (sF (sF (sF (sF (sF σ a 0 (σ.1 b 0)) a 1 (σ.1 b 1)) a 2 (nI bt)) a 3 (σ.1 b 3)) a 4 0) a 4 (σ.1 b 4), ?_, rfl, fun o ho => by simp (disch := omega) only [sF_o], fun j hj => ?_⟩
  · have q : (2 : Int32) ≤ nI bt := by rw [n_2, le_n (by omega) (by omega)]; exact hbt
    simp (disch := omega) only [f_X3_take, f_X3_become, f_X3_become_B21, chk_t ha, chk_t hb, cr_let, rF, sF_o, Option.bind_some, h2, q, if_true]
  · rcases (show j = 0 ∨ j = 1 ∨ j = 2 ∨ j = 3 ∨ j = 4 by omega) with rfl | rfl | rfl | rfl | rfl <;> simp (disch := omega) only [sF_k, sF_s, h2]
theorem C_stake {σ : cr_S} {a b : Nat} (ha : kC a = 6) (hb : kC b = 6) (hne : a ≠ b) : ∃ σ', f_X6_take σ a b = some σ' ∧ σ'.2 = σ.2 ∧ (∀ o, o ≠ a → σ'.1 o = σ.1 o) ∧ ∀ j, j < 3 → σ'.1 a j = σ.1 b j := by
  refine ⟨sF (sF (sF σ a 0 (σ.1 b 0)) a 1 (σ.1 b 1)) a 2 (σ.1 b 2), ?_, rfl, fun o ho => by simp (disch := omega) only [sF_o], fun j hj => ?_⟩
  · simp (disch := omega) only [f_X6_take, f_X6_become, chk_t ha, chk_t hb, cr_let, rF, sF_o, Option.bind_some]
  · rcases (show j = 0 ∨ j = 1 ∨ j = 2 by omega) with rfl | rfl | rfl <;> simp (disch := omega) only [sF_k, sF_s]
theorem kC_p2 : ∀ k, k < 6 → kC (36 + k) = 3 := by decide
theorem kC_s2 : ∀ k, k < 5 → kC (42 + k) = 6 := by decide
theorem kC_v2 : ∀ k, k < 8 → kC (47 + k) = 8 := by decide
/-- what a taking of waters copies -/
def tk (σ σ' : cr_S) (s d np ns : Nat) : Prop := (σ'.1 d 5 = σ.1 s 5 ∧ σ'.1 d 6 = σ.1 s 6 ∧ σ'.1 d 7 = σ.1 s 7 ∧ σ'.1 d 8 = σ.1 s 8 ∧ σ'.1 (d + 5) 2 = σ.1 (s + 5) 2) ∧ (∀ k j, k < np → j < 5 → σ'.1 (d + 8 + k) j = σ.1 (s + 8 + k) j) ∧ (∀ k j, k < ns → j < 3 → σ'.1 (d + 14 + k) j = σ.1 (s + 14 + k) j) ∧ (∀ j, j < 4 → σ'.1 (d + 3) j = σ.1 (s + 3) j) ∧ (∀ k j, k < 8 → j < 4 → σ'.1 (d + 19 + k) j = σ.1 (s + 19 + k) j) ∧ (∀ i, i < 12 → σ'.2.1 (d + 6) i = σ.2.1 (s + 6) i ∧ σ'.2.1 (d + 7) i = σ.2.1 (s + 7) i)
theorem rW_tr {σ σ' : cr_S} {s d : Nat} {m0 m1 m2 m3 m4 : Int32} {mp ms mv mu mw me mp' ms' mv' mu' mw' me' : Nat → Int32} {np ns nu nl : Nat} {Ps Ss : Nat → Nat → Nat} (h : rW σ s m0 m1 m2 m3 m4 mp ms mv mu mw me np ns nu nl Ps Ss) (T : tk σ σ' s d np ns) (e1 : ∀ i, i < 30 → mp' i = mp i) (e2 : ∀ i, i < 15 → ms' i = ms i) (e3 : ∀ i, i < 4 → mv' i = mv i) (e4 : ∀ i, i < 32 → mu' i = mu i) (e5 : ∀ i, i < 12 → mw' i = mw i) (e6 : ∀ i, i < 12 → me' i = me i) : rW σ' d m0 m1 m2 m3 m4 mp' ms' mv' mu' mw' me' np ns nu nl Ps Ss := by
  obtain ⟨⟨a1, a2, a3⟩, ⟨b1, b2, b3⟩, c1, ⟨d1, d2, d3⟩, ⟨f1, f2, f3⟩, g, i, v, u, k⟩ := h
  obtain ⟨⟨t1, t2, t3, t4, t5⟩, t6, t7, t8, t9, t10⟩ := T
  refine ⟨⟨t1.trans a1, a2, a3⟩, ⟨t2.trans b1, b2, b3⟩, t4.trans c1, ⟨t3.trans d1, d2, d3⟩, ⟨t5.trans f1, f2, f3⟩, fun q hq => ⟨(g q hq).1, fun j hj => ?_⟩, fun q hq => ⟨(i q hq).1, fun j hj => ?_⟩, ?_, fun q hq => ?_, fun q hq => ?_⟩
  · rw [t6 q j hq hj, e1 _ (by omega)]; exact (g q hq).2 j hj
  · rw [t7 q j hq hj, e2 _ (by omega)]; exact (i q hq).2 j hj
  · exact rVoy_c v t8 e3
  · exact rVoy_c (u q hq) (fun j hj => t9 q j (by omega) hj) (fun j hj => e4 _ (by omega))
  · obtain ⟨t, b, z⟩ := k q hq
    exact ⟨t, b, by rw [(t10 q (by omega)).1, (t10 q (by omega)).2, e5 q (by omega), e6 q (by omega)]; exact z⟩
theorem C_tp_28 {np ns : Nat} (hnp : np ≤ 6) : ∀ (n f i : Nat) (σ : cr_S), i + n = np → n < f → (∀ k, k < np → ∃ b, σ.1 (9 + k) 2 = nI b ∧ 2 ≤ b ∧ b ≤ 24) → ∃ σ', f_X9_takePairsAndShips_28_2_3_L3 f σ (nI np) (nI ns) (nI i) = f_X9_takePairsAndShips_28_2_3_B36 σ' (nI np) (nI ns) ∧ σ'.2 = σ.2 ∧ (∀ o, (o < 36 + i ∨ 42 ≤ o) → σ'.1 o = σ.1 o) ∧ ∀ k j, i ≤ k → k < np → j < 5 → σ'.1 (36 + k) j = σ.1 (9 + k) j
  | 0, f + 1, i, σ, hi, hf, hb => by
    refine ⟨σ, ?_, rfl, fun _ _ => rfl, fun k j q1 q2 => absurd q1 (by omega)⟩
    rw [f_X9_takePairsAndShips_28_2_3_L3, if_pos (by rw [le_n (by omega) (by omega)]; omega)]
  | n + 1, f + 1, i, σ, hi, hf, hb => by
    obtain ⟨b, b1, b2, b3⟩ := hb i (by omega)
    obtain ⟨σ1, t1, t2, t3, t4⟩ := C_ptake (σ := σ) (kC_p2 i (by omega)) (kC_p i (by omega)) (show 36 + i ≠ 9 + i by omega) b1 b2 b3
    obtain ⟨σ2, u1, u2, u3, u4⟩ := C_tp_28 (np := np) (ns := ns) hnp n f (i + 1) σ1 (by omega) (by omega) (fun k hk => by rw [t3 _ (by omega)]; exact hb k hk)
    refine ⟨σ2, ?_, u2.trans t2, fun o ho => (u3 o (by omega)).trans (t3 o (by omega)), fun k j q1 q2 q3 => ?_⟩
    · rw [f_X9_takePairsAndShips_28_2_3_L3, if_neg (by rw [le_n (by omega) (by omega)]; omega), n_6, if_neg (by rw [le_n (by omega) (by omega)]; omega), chk_i (by omega) (by omega), chk_i (by omega) (by omega), nI_clamp (by omega), t1]
      simp only [Option.bind_some]
      rw [chk_t (kC_p2 i (by omega)), nI_1]
      exact u1
    · by_cases e : k = i
      · subst e
        rw [u3 _ (by omega), t4 j q3]
      · rw [u4 k j (by omega) q2 q3, t3 _ (by omega)]
theorem C_ts_28 {np ns : Nat} (hns : ns ≤ 5) : ∀ (n f i : Nat) (σ : cr_S), i + n = ns → n < f → ∃ σ', f_X9_takePairsAndShips_28_2_3_L39 f σ (nI np) (nI ns) (nI i) = f_X9_takePairsAndShips_28_2_3_B72 σ' (nI np) (nI ns) ∧ σ'.2 = σ.2 ∧ (∀ o, (o < 42 + i ∨ 47 ≤ o) → σ'.1 o = σ.1 o) ∧ ∀ k j, i ≤ k → k < ns → j < 3 → σ'.1 (42 + k) j = σ.1 (15 + k) j
  | 0, f + 1, i, σ, hi, hf => by
    refine ⟨σ, ?_, rfl, fun _ _ => rfl, fun k j q1 q2 => absurd q1 (by omega)⟩
    rw [f_X9_takePairsAndShips_28_2_3_L39, if_pos (by rw [le_n (by omega) (by omega)]; omega)]
  | n + 1, f + 1, i, σ, hi, hf => by
    obtain ⟨σ1, t1, t2, t3, t4⟩ := C_stake (σ := σ) (kC_s2 i (by omega)) (kC_s i (by omega)) (show 42 + i ≠ 15 + i by omega)
    obtain ⟨σ2, u1, u2, u3, u4⟩ := C_ts_28 (np := np) (ns := ns) hns n f (i + 1) σ1 (by omega) (by omega)
    refine ⟨σ2, ?_, u2.trans t2, fun o ho => (u3 o (by omega)).trans (t3 o (by omega)), fun k j q1 q2 q3 => ?_⟩
    · rw [f_X9_takePairsAndShips_28_2_3_L39, if_neg (by rw [le_n (by omega) (by omega)]; omega), n_5, if_neg (by rw [le_n (by omega) (by omega)]; omega), chk_i (by omega) (by omega), chk_i (by omega) (by omega), nI_clamp (by omega), t1]
      simp only [Option.bind_some]
      rw [chk_t (kC_s2 i (by omega)), nI_1]
      exact u1
    · by_cases e : k = i
      · subst e
        rw [u3 _ (by omega), t4 j q3]
      · rw [u4 k j (by omega) q2 q3, t3 _ (by omega)]
theorem C_tv_28 : ∀ (n f i : Nat) (σ : cr_S), i + n = 8 → n < f → ∃ σ', f_X9_take_28_1_L33 f σ (nI i) = f_X9_take_28_1_B60 σ' ∧ σ'.2 = σ.2 ∧ (∀ o, (o < 47 + i ∨ 55 ≤ o) → σ'.1 o = σ.1 o) ∧ ∀ k j, i ≤ k → k < 8 → j < 4 → σ'.1 (47 + k) j = σ.1 (20 + k) j
  | 0, f + 1, i, σ, hi, hf => by
    refine ⟨σ, ?_, rfl, fun _ _ => rfl, fun k j q1 q2 => absurd q1 (by omega)⟩
    rw [f_X9_take_28_1_L33, n_8, if_pos (by rw [le_n (by omega) (by omega)]; omega)]
  | n + 1, f + 1, i, σ, hi, hf => by
    obtain ⟨σ1, t1, t2, t3, t4⟩ := C_vtake (σ := σ) (kC_v2 i (by omega)) (kC_v i (by omega)) (show 47 + i ≠ 20 + i by omega)
    obtain ⟨σ2, u1, u2, u3, u4⟩ := C_tv_28 n f (i + 1) σ1 (by omega) (by omega)
    refine ⟨σ2, ?_, u2.trans t2, fun o ho => (u3 o (by omega)).trans (t3 o (by omega)), fun k j q1 q2 q3 => ?_⟩
    · rw [f_X9_take_28_1_L33, n_8, if_neg (by rw [le_n (by omega) (by omega)]; omega), chk_i (by omega) (by omega), chk_i (by omega) (by omega), nI_clamp (by omega), t1]
      simp only [Option.bind_some]
      rw [chk_t (kC_v2 i (by omega)), nI_1]
      exact u1
    · by_cases e : k = i
      · subst e
        rw [u3 _ (by omega), t4 j q3]
      · rw [u4 k j (by omega) q2 q3, t3 _ (by omega)]
theorem C_tl_28 : ∀ (n f i : Nat) (σ : cr_S), i + n = 12 → n < f → ∃ σ', f_X2_take_33_6_L2 f σ (nI i) = f_X2_take_33_6_B38 σ' ∧ σ'.1 = σ.1 ∧ σ'.2.2 = σ.2.2 ∧ (∀ o, o ≠ 34 → o ≠ 35 → σ'.2.1 o = σ.2.1 o) ∧ (∀ j, j < i → σ'.2.1 34 j = σ.2.1 34 j ∧ σ'.2.1 35 j = σ.2.1 35 j) ∧ ∀ j, i ≤ j → j < 12 → σ'.2.1 34 j = σ.2.1 7 j ∧ σ'.2.1 35 j = σ.2.1 8 j
  | 0, f + 1, i, σ, hi, hf => by
    refine ⟨σ, ?_, rfl, rfl, fun _ _ _ => rfl, fun _ _ => ⟨rfl, rfl⟩, fun k q1 q2 => absurd q1 (by omega)⟩
    rw [f_X2_take_33_6_L2, n_12, if_pos (by rw [le_n (by omega) (by omega)]; omega)]
  | n + 1, f + 1, i, σ, hi, hf => by
    obtain ⟨σ2, u1, u2, u3, u4, u5, u6⟩ := C_tl_28 n f (i + 1) (sA (sA σ 34 (nI i) (σ.2.1 7 i)) 35 (nI i) (σ.2.1 8 i)) (by omega) (by omega)
    refine ⟨σ2, ?_, u2, u3, fun o h1 h2 => by rw [u4 o h1 h2, sA_o h2, sA_o h1], fun j hj => ?_, fun j q1 q2 => ?_⟩
    · rw [f_X2_take_33_6_L2, n_12, if_neg (by rw [le_n (by omega) (by omega)]; omega), chk_i (by omega) (by omega), chk_i (by omega) (by omega), rA_n (by omega)]
      simp only [cr_let]
      rw [chk_i (by omega) (by omega), chk_i (by omega) (by omega), rA_n (by omega), sA_o (by omega), nI_1]
      exact u1
    · rw [(u5 j (by omega)).1, (u5 j (by omega)).2, sA_o (by omega), sA_k (by omega) (by omega), sA_k (by omega) (by omega), sA_o (by omega)]
      exact ⟨rfl, rfl⟩
    · by_cases e : j = i
      · subst e
        rw [(u5 j (by omega)).1, (u5 j (by omega)).2, sA_o (by omega), sA_s (by omega), sA_s (by omega)]
        exact ⟨rfl, rfl⟩
      · rw [(u6 j (by omega) q2).1, (u6 j (by omega) q2).2, sA_o (by omega), sA_o (by omega), sA_o (by omega), sA_o (by omega)]
        exact ⟨rfl, rfl⟩
theorem C_take_28 {σ : cr_S} {np ns : Nat} (hnp : np ≤ 6) (hns : ns ≤ 5) (h5 : σ.1 1 5 = nI np) (h6 : σ.1 1 6 = nI ns) (hb : ∀ k, k < np → ∃ b, σ.1 (9 + k) 2 = nI b ∧ 2 ≤ b ∧ b ≤ 24) : ∃ σ', f_X9_take_28_1 σ = some σ' ∧ tk σ σ' 1 28 np ns ∧ (∀ o, (o < 28 ∨ 55 ≤ o) → σ'.1 o = σ.1 o) ∧ (∀ o, (o < 28 ∨ 55 ≤ o) → σ'.2.1 o = σ.2.1 o) ∧ σ'.2.2 = σ.2.2 := by
  obtain ⟨σ1, a1, a2, a3, a4⟩ := C_tp_28 (ns := ns) hnp np cr_fuel 0 σ (by omega) (by rw [cr_fuel_v]; omega) hb
  obtain ⟨σ2, b1, b2, b3, b4⟩ := C_ts_28 (np := np) hns ns cr_fuel 0 σ1 (by omega) (by rw [cr_fuel_v]; omega)
  obtain ⟨σ3, c1, c2, c3, c4⟩ := C_vtake (σ := sF (sF σ2 28 5 (nI np)) 28 6 (nI ns)) (a := 31) (b := 4) (by decide) (by decide) (by omega)
  obtain ⟨σ4, d1, d2, d3, d4⟩ := C_tv_28 8 cr_fuel 0 σ3 (by omega) (by rw [cr_fuel_v]; omega)
  obtain ⟨σ5, e1, e2, e3, e4, -, e6⟩ := C_tl_28 12 cr_fuel 0 (sF (sF σ4 28 7 (σ4.1 1 7)) 28 8 (σ4.1 1 8)) (by omega) (by rw [cr_fuel_v]; omega)
  have x5 : ∀ o, o ≠ 28 → σ5.1 o = σ4.1 o := fun o ho => by rw [e2, sF_o ho, sF_o ho]
  have x3 : ∀ o, o ≠ 28 → o ≠ 31 → σ3.1 o = σ2.1 o := fun o h1 h2 => by rw [c3 o h2, sF_o h1, sF_o h1]
  have r4 : σ4.2 = σ.2 := by rw [d2, c2]; show σ2.2 = _; rw [b2, a2]
  have src : ∀ o, (o < 28 ∨ 55 ≤ o) → σ4.1 o = σ.1 o := fun o ho => by rw [d3 o (by omega), x3 o (by omega) (by omega), b3 o (by omega), a3 o (by omega)]
  refine ⟨sF σ5 33 2 (σ5.1 6 2), ?_, ⟨⟨?_, ?_, ?_, ?_, ?_⟩, fun k j hk hj => ?_, fun k j hk hj => ?_, fun j hj => ?_, fun k j hk hj => ?_, fun i hi => ?_⟩, fun o ho => ?_, fun o ho => ?_, ?_⟩
  · unfold f_X9_take_28_1 f_X9_takePairsAndShips_28_2_3
    simp only [rF, h5, h6]
    rw [n_0, a1]
    unfold f_X9_takePairsAndShips_28_2_3_B36
    rw [n_0, b1]
    unfold f_X9_takePairsAndShips_28_2_3_B72
    simp only [cr_let, Option.bind_some]
    rw [c1]
    simp only [Option.bind_some]
    rw [d1]
    unfold f_X9_take_28_1_B60 f_X2_take_33_6
    simp only [cr_let, rF]
    rw [sF_o (show 1 ≠ 28 by omega), n_0, e1]
    unfold f_X2_take_33_6_B38
    simp only [cr_let, rF, Option.bind_some]
  · rw [sF_o (by omega), e2, sF_k (by omega), sF_k (by omega), d3 _ (by omega), c3 _ (by omega), sF_k (by omega), sF_s, h5]
  · rw [sF_o (by omega), e2, sF_k (by omega), sF_k (by omega), d3 _ (by omega), c3 _ (by omega), sF_s, h6]
  · rw [sF_o (by omega), e2, sF_k (by omega), sF_s, src _ (by omega)]
  · rw [sF_o (by omega), e2, sF_s, src _ (by omega)]
  · show (sF σ5 33 2 (σ5.1 6 2)).1 33 2 = _
    rw [sF_s, x5 _ (by omega), src _ (by omega)]
  · show (sF σ5 33 2 (σ5.1 6 2)).1 (36 + k) j = σ.1 (9 + k) j
    rw [sF_o (by omega), x5 _ (by omega), d3 _ (by omega), x3 _ (by omega) (by omega), b3 _ (by omega), a4 k j (by omega) hk hj]
  · show (sF σ5 33 2 (σ5.1 6 2)).1 (42 + k) j = σ.1 (15 + k) j
    rw [sF_o (by omega), x5 _ (by omega), d3 _ (by omega), x3 _ (by omega) (by omega), b4 k j (by omega) hk hj, a3 _ (by omega)]
  · show (sF σ5 33 2 (σ5.1 6 2)).1 31 j = σ.1 4 j
    rw [sF_o (by omega), x5 _ (by omega), d3 _ (by omega), c4 j hj, sF_o (by omega), sF_o (by omega), b3 _ (by omega), a3 _ (by omega)]
  · show (sF σ5 33 2 (σ5.1 6 2)).1 (47 + k) j = σ.1 (20 + k) j
    rw [sF_o (by omega), x5 _ (by omega), d4 k j (by omega) hk hj, x3 _ (by omega) (by omega), b3 _ (by omega), a3 _ (by omega)]
  · have z := e6 i (by omega) hi
    rw [sF_2, sF_2, r4] at z
    exact z
  · rw [sF_o (by omega), x5 _ (by omega), src _ ho]
  · rw [sF_2, e4 o (by omega) (by omega), sF_2, sF_2, r4]
  · rw [sF_2, e3, sF_2, sF_2, r4]
theorem C_tp_1 {np ns : Nat} (hnp : np ≤ 6) : ∀ (n f i : Nat) (σ : cr_S), i + n = np → n < f → (∀ k, k < np → ∃ b, σ.1 (36 + k) 2 = nI b ∧ 2 ≤ b ∧ b ≤ 24) → ∃ σ', f_X9_takePairsAndShips_1_29_30_L3 f σ (nI np) (nI ns) (nI i) = f_X9_takePairsAndShips_1_29_30_B36 σ' (nI np) (nI ns) ∧ σ'.2 = σ.2 ∧ (∀ o, (o < 9 + i ∨ 15 ≤ o) → σ'.1 o = σ.1 o) ∧ ∀ k j, i ≤ k → k < np → j < 5 → σ'.1 (9 + k) j = σ.1 (36 + k) j
  | 0, f + 1, i, σ, hi, hf, hb => by
    refine ⟨σ, ?_, rfl, fun _ _ => rfl, fun k j q1 q2 => absurd q1 (by omega)⟩
    rw [f_X9_takePairsAndShips_1_29_30_L3, if_pos (by rw [le_n (by omega) (by omega)]; omega)]
  | n + 1, f + 1, i, σ, hi, hf, hb => by
    obtain ⟨b, b1, b2, b3⟩ := hb i (by omega)
    obtain ⟨σ1, t1, t2, t3, t4⟩ := C_ptake (σ := σ) (kC_p i (by omega)) (kC_p2 i (by omega)) (show 9 + i ≠ 36 + i by omega) b1 b2 b3
    obtain ⟨σ2, u1, u2, u3, u4⟩ := C_tp_1 (np := np) (ns := ns) hnp n f (i + 1) σ1 (by omega) (by omega) (fun k hk => by rw [t3 _ (by omega)]; exact hb k hk)
    refine ⟨σ2, ?_, u2.trans t2, fun o ho => (u3 o (by omega)).trans (t3 o (by omega)), fun k j q1 q2 q3 => ?_⟩
    · rw [f_X9_takePairsAndShips_1_29_30_L3, if_neg (by rw [le_n (by omega) (by omega)]; omega), n_6, if_neg (by rw [le_n (by omega) (by omega)]; omega), chk_i (by omega) (by omega), chk_i (by omega) (by omega), nI_clamp (by omega), t1]
      simp only [Option.bind_some]
      rw [chk_t (kC_p i (by omega)), nI_1]
      exact u1
    · by_cases e : k = i
      · subst e
        rw [u3 _ (by omega), t4 j q3]
      · rw [u4 k j (by omega) q2 q3, t3 _ (by omega)]
theorem C_ts_1 {np ns : Nat} (hns : ns ≤ 5) : ∀ (n f i : Nat) (σ : cr_S), i + n = ns → n < f → ∃ σ', f_X9_takePairsAndShips_1_29_30_L39 f σ (nI np) (nI ns) (nI i) = f_X9_takePairsAndShips_1_29_30_B72 σ' (nI np) (nI ns) ∧ σ'.2 = σ.2 ∧ (∀ o, (o < 15 + i ∨ 20 ≤ o) → σ'.1 o = σ.1 o) ∧ ∀ k j, i ≤ k → k < ns → j < 3 → σ'.1 (15 + k) j = σ.1 (42 + k) j
  | 0, f + 1, i, σ, hi, hf => by
    refine ⟨σ, ?_, rfl, fun _ _ => rfl, fun k j q1 q2 => absurd q1 (by omega)⟩
    rw [f_X9_takePairsAndShips_1_29_30_L39, if_pos (by rw [le_n (by omega) (by omega)]; omega)]
  | n + 1, f + 1, i, σ, hi, hf => by
    obtain ⟨σ1, t1, t2, t3, t4⟩ := C_stake (σ := σ) (kC_s i (by omega)) (kC_s2 i (by omega)) (show 15 + i ≠ 42 + i by omega)
    obtain ⟨σ2, u1, u2, u3, u4⟩ := C_ts_1 (np := np) (ns := ns) hns n f (i + 1) σ1 (by omega) (by omega)
    refine ⟨σ2, ?_, u2.trans t2, fun o ho => (u3 o (by omega)).trans (t3 o (by omega)), fun k j q1 q2 q3 => ?_⟩
    · rw [f_X9_takePairsAndShips_1_29_30_L39, if_neg (by rw [le_n (by omega) (by omega)]; omega), n_5, if_neg (by rw [le_n (by omega) (by omega)]; omega), chk_i (by omega) (by omega), chk_i (by omega) (by omega), nI_clamp (by omega), t1]
      simp only [Option.bind_some]
      rw [chk_t (kC_s i (by omega)), nI_1]
      exact u1
    · by_cases e : k = i
      · subst e
        rw [u3 _ (by omega), t4 j q3]
      · rw [u4 k j (by omega) q2 q3, t3 _ (by omega)]
theorem C_tv_1 : ∀ (n f i : Nat) (σ : cr_S), i + n = 8 → n < f → ∃ σ', f_X9_take_1_28_L33 f σ (nI i) = f_X9_take_1_28_B60 σ' ∧ σ'.2 = σ.2 ∧ (∀ o, (o < 20 + i ∨ 28 ≤ o) → σ'.1 o = σ.1 o) ∧ ∀ k j, i ≤ k → k < 8 → j < 4 → σ'.1 (20 + k) j = σ.1 (47 + k) j
  | 0, f + 1, i, σ, hi, hf => by
    refine ⟨σ, ?_, rfl, fun _ _ => rfl, fun k j q1 q2 => absurd q1 (by omega)⟩
    rw [f_X9_take_1_28_L33, n_8, if_pos (by rw [le_n (by omega) (by omega)]; omega)]
  | n + 1, f + 1, i, σ, hi, hf => by
    obtain ⟨σ1, t1, t2, t3, t4⟩ := C_vtake (σ := σ) (kC_v i (by omega)) (kC_v2 i (by omega)) (show 20 + i ≠ 47 + i by omega)
    obtain ⟨σ2, u1, u2, u3, u4⟩ := C_tv_1 n f (i + 1) σ1 (by omega) (by omega)
    refine ⟨σ2, ?_, u2.trans t2, fun o ho => (u3 o (by omega)).trans (t3 o (by omega)), fun k j q1 q2 q3 => ?_⟩
    · rw [f_X9_take_1_28_L33, n_8, if_neg (by rw [le_n (by omega) (by omega)]; omega), chk_i (by omega) (by omega), chk_i (by omega) (by omega), nI_clamp (by omega), t1]
      simp only [Option.bind_some]
      rw [chk_t (kC_v i (by omega)), nI_1]
      exact u1
    · by_cases e : k = i
      · subst e
        rw [u3 _ (by omega), t4 j q3]
      · rw [u4 k j (by omega) q2 q3, t3 _ (by omega)]
theorem C_tl_1 : ∀ (n f i : Nat) (σ : cr_S), i + n = 12 → n < f → ∃ σ', f_X2_take_6_33_L2 f σ (nI i) = f_X2_take_6_33_B38 σ' ∧ σ'.1 = σ.1 ∧ σ'.2.2 = σ.2.2 ∧ (∀ o, o ≠ 7 → o ≠ 8 → σ'.2.1 o = σ.2.1 o) ∧ (∀ j, j < i → σ'.2.1 7 j = σ.2.1 7 j ∧ σ'.2.1 8 j = σ.2.1 8 j) ∧ ∀ j, i ≤ j → j < 12 → σ'.2.1 7 j = σ.2.1 34 j ∧ σ'.2.1 8 j = σ.2.1 35 j
  | 0, f + 1, i, σ, hi, hf => by
    refine ⟨σ, ?_, rfl, rfl, fun _ _ _ => rfl, fun _ _ => ⟨rfl, rfl⟩, fun k q1 q2 => absurd q1 (by omega)⟩
    rw [f_X2_take_6_33_L2, n_12, if_pos (by rw [le_n (by omega) (by omega)]; omega)]
  | n + 1, f + 1, i, σ, hi, hf => by
    obtain ⟨σ2, u1, u2, u3, u4, u5, u6⟩ := C_tl_1 n f (i + 1) (sA (sA σ 7 (nI i) (σ.2.1 34 i)) 8 (nI i) (σ.2.1 35 i)) (by omega) (by omega)
    refine ⟨σ2, ?_, u2, u3, fun o h1 h2 => by rw [u4 o h1 h2, sA_o h2, sA_o h1], fun j hj => ?_, fun j q1 q2 => ?_⟩
    · rw [f_X2_take_6_33_L2, n_12, if_neg (by rw [le_n (by omega) (by omega)]; omega), chk_i (by omega) (by omega), chk_i (by omega) (by omega), rA_n (by omega)]
      simp only [cr_let]
      rw [chk_i (by omega) (by omega), chk_i (by omega) (by omega), rA_n (by omega), sA_o (by omega), nI_1]
      exact u1
    · rw [(u5 j (by omega)).1, (u5 j (by omega)).2, sA_o (by omega), sA_k (by omega) (by omega), sA_k (by omega) (by omega), sA_o (by omega)]
      exact ⟨rfl, rfl⟩
    · by_cases e : j = i
      · subst e
        rw [(u5 j (by omega)).1, (u5 j (by omega)).2, sA_o (by omega), sA_s (by omega), sA_s (by omega)]
        exact ⟨rfl, rfl⟩
      · rw [(u6 j (by omega) q2).1, (u6 j (by omega) q2).2, sA_o (by omega), sA_o (by omega), sA_o (by omega), sA_o (by omega)]
        exact ⟨rfl, rfl⟩
theorem C_take_1 {σ : cr_S} {np ns : Nat} (hnp : np ≤ 6) (hns : ns ≤ 5) (h5 : σ.1 28 5 = nI np) (h6 : σ.1 28 6 = nI ns) (hb : ∀ k, k < np → ∃ b, σ.1 (36 + k) 2 = nI b ∧ 2 ≤ b ∧ b ≤ 24) : ∃ σ', f_X9_take_1_28 σ = some σ' ∧ tk σ σ' 28 1 np ns ∧ (∀ o, (o < 1 ∨ 28 ≤ o) → σ'.1 o = σ.1 o) ∧ (∀ o, (o < 1 ∨ 28 ≤ o) → σ'.2.1 o = σ.2.1 o) ∧ σ'.2.2 = σ.2.2 := by
  obtain ⟨σ1, a1, a2, a3, a4⟩ := C_tp_1 (ns := ns) hnp np cr_fuel 0 σ (by omega) (by rw [cr_fuel_v]; omega) hb
  obtain ⟨σ2, b1, b2, b3, b4⟩ := C_ts_1 (np := np) hns ns cr_fuel 0 σ1 (by omega) (by rw [cr_fuel_v]; omega)
  obtain ⟨σ3, c1, c2, c3, c4⟩ := C_vtake (σ := sF (sF σ2 1 5 (nI np)) 1 6 (nI ns)) (a := 4) (b := 31) (by decide) (by decide) (by omega)
  obtain ⟨σ4, d1, d2, d3, d4⟩ := C_tv_1 8 cr_fuel 0 σ3 (by omega) (by rw [cr_fuel_v]; omega)
  obtain ⟨σ5, e1, e2, e3, e4, -, e6⟩ := C_tl_1 12 cr_fuel 0 (sF (sF σ4 1 7 (σ4.1 28 7)) 1 8 (σ4.1 28 8)) (by omega) (by rw [cr_fuel_v]; omega)
  have x5 : ∀ o, o ≠ 1 → σ5.1 o = σ4.1 o := fun o ho => by rw [e2, sF_o ho, sF_o ho]
  have x3 : ∀ o, o ≠ 1 → o ≠ 4 → σ3.1 o = σ2.1 o := fun o h1 h2 => by rw [c3 o h2, sF_o h1, sF_o h1]
  have r4 : σ4.2 = σ.2 := by rw [d2, c2]; show σ2.2 = _; rw [b2, a2]
  have src : ∀ o, (o < 1 ∨ 28 ≤ o) → σ4.1 o = σ.1 o := fun o ho => by rw [d3 o (by omega), x3 o (by omega) (by omega), b3 o (by omega), a3 o (by omega)]
  refine ⟨sF σ5 6 2 (σ5.1 33 2), ?_, ⟨⟨?_, ?_, ?_, ?_, ?_⟩, fun k j hk hj => ?_, fun k j hk hj => ?_, fun j hj => ?_, fun k j hk hj => ?_, fun i hi => ?_⟩, fun o ho => ?_, fun o ho => ?_, ?_⟩
  · unfold f_X9_take_1_28 f_X9_takePairsAndShips_1_29_30
    simp only [rF, h5, h6]
    rw [n_0, a1]
    unfold f_X9_takePairsAndShips_1_29_30_B36
    rw [n_0, b1]
    unfold f_X9_takePairsAndShips_1_29_30_B72
    simp only [cr_let, Option.bind_some]
    rw [c1]
    simp only [Option.bind_some]
    rw [d1]
    unfold f_X9_take_1_28_B60 f_X2_take_6_33
    simp only [cr_let, rF]
    rw [sF_o (show 28 ≠ 1 by omega), n_0, e1]
    unfold f_X2_take_6_33_B38
    simp only [cr_let, rF, Option.bind_some]
  · rw [sF_o (by omega), e2, sF_k (by omega), sF_k (by omega), d3 _ (by omega), c3 _ (by omega), sF_k (by omega), sF_s, h5]
  · rw [sF_o (by omega), e2, sF_k (by omega), sF_k (by omega), d3 _ (by omega), c3 _ (by omega), sF_s, h6]
  · rw [sF_o (by omega), e2, sF_k (by omega), sF_s, src _ (by omega)]
  · rw [sF_o (by omega), e2, sF_s, src _ (by omega)]
  · show (sF σ5 6 2 (σ5.1 33 2)).1 6 2 = _
    rw [sF_s, x5 _ (by omega), src _ (by omega)]
  · show (sF σ5 6 2 (σ5.1 33 2)).1 (9 + k) j = σ.1 (36 + k) j
    rw [sF_o (by omega), x5 _ (by omega), d3 _ (by omega), x3 _ (by omega) (by omega), b3 _ (by omega), a4 k j (by omega) hk hj]
  · show (sF σ5 6 2 (σ5.1 33 2)).1 (15 + k) j = σ.1 (42 + k) j
    rw [sF_o (by omega), x5 _ (by omega), d3 _ (by omega), x3 _ (by omega) (by omega), b4 k j (by omega) hk hj, a3 _ (by omega)]
  · show (sF σ5 6 2 (σ5.1 33 2)).1 4 j = σ.1 31 j
    rw [sF_o (by omega), x5 _ (by omega), d3 _ (by omega), c4 j hj, sF_o (by omega), sF_o (by omega), b3 _ (by omega), a3 _ (by omega)]
  · show (sF σ5 6 2 (σ5.1 33 2)).1 (20 + k) j = σ.1 (47 + k) j
    rw [sF_o (by omega), x5 _ (by omega), d4 k j (by omega) hk hj, x3 _ (by omega) (by omega), b3 _ (by omega), a3 _ (by omega)]
  · have z := e6 i (by omega) hi
    rw [sF_2, sF_2, r4] at z
    exact z
  · rw [sF_o (by omega), x5 _ (by omega), src _ ho]
  · rw [sF_2, e4 o (by omega) (by omega), sF_2, sF_2, r4]
  · rw [sF_2, e3, sF_2, sF_2, r4]
theorem S_image {σ τ : cr_S} (h : Inv σ τ) : Step σ τ (f_X10_image σ) (f_X11_image τ) := by
  obtain ⟨⟨np, ns, nu, nl, Ps, Ss, hm⟩, -, ht, hs⟩ := h
  have hnp := hm.1.2.2
  have hns := hm.2.1.2.2
  obtain ⟨σ1, p1, p2, p3, p4, p5⟩ := C_take_28 (σ := σ) hnp hns hm.1.1 hm.2.1.1 (fun k hk => by
    have w := hm.2.2.2.2.2.1 k hk
    exact ⟨Ps k 2, (w.2 2 (by omega)).1, w.1.2.2.2.1, w.1.2.2.2.2.1⟩)
  let τ0 := sA (sA (sA (sA (sA τ 12 (nI 0) (τ.1 0 0)) 12 (nI 1) (τ.1 0 1)) 12 (nI 2) (τ.1 0 5)) 12 (nI 3) (τ.1 0 20)) 12 (nI 4) (τ.1 0 22)
  obtain ⟨τ1, a1, a2, a3, a4, a5, a6⟩ := M_nr_1 (x := 5) (by omega) 30 cr_fuel 0 τ0 (by omega) (by rw [cr_fuel_v]; omega)
  obtain ⟨τ2, b1, b2, b3, b4, b5, b6⟩ := M_nr_2 (x := 35) (by omega) 15 cr_fuel 0 τ1 (by omega) (by rw [cr_fuel_v]; omega)
  obtain ⟨τ3, c1, c2, c3, c4, c5, c6⟩ := M_nr_3 (x := 50) (by omega) 4 cr_fuel 0 τ2 (by omega) (by rw [cr_fuel_v]; omega)
  obtain ⟨τ4, d1, d2, d3, d4, d5, d6⟩ := M_nr_8 (x := 54) (by omega) 32 cr_fuel 0 τ3 (by omega) (by rw [cr_fuel_v]; omega)
  obtain ⟨τ5, e1, e2, e3, e4, e5, e6⟩ := M_nr_10 (x := 86) (by omega) 12 cr_fuel 0 τ4 (by omega) (by rw [cr_fuel_v]; omega)
  obtain ⟨τ6, g1, g2, g3, g4, g5, g6⟩ := M_nr_11 (x := 98) (by omega) 12 cr_fuel 0 τ5 (by omega) (by rw [cr_fuel_v]; omega)
  have z0 : τ0.1 = τ.1 := rfl
  have z2 : τ0.2.2 = τ.2.2 := rfl
  have z4 : ∀ o, o ≠ 12 → τ0.2.1 o = τ.2.1 o := fun o ho => by
    show (sA (sA (sA (sA (sA τ 12 (nI 0) (τ.1 0 0)) 12 (nI 1) (τ.1 0 1)) 12 (nI 2) (τ.1 0 5)) 12 (nI 3) (τ.1 0 20)) 12 (nI 4) (τ.1 0 22)).2.1 o = _
    rw [sA_o ho, sA_o ho, sA_o ho, sA_o ho, sA_o ho]
  have zz : τ0.2.1 12 0 = τ.1 0 0 ∧ τ0.2.1 12 1 = τ.1 0 1 ∧ τ0.2.1 12 2 = τ.1 0 5 ∧ τ0.2.1 12 3 = τ.1 0 20 ∧ τ0.2.1 12 4 = τ.1 0 22 := by
    show (sA (sA (sA (sA (sA τ 12 (nI 0) (τ.1 0 0)) 12 (nI 1) (τ.1 0 1)) 12 (nI 2) (τ.1 0 5)) 12 (nI 3) (τ.1 0 20)) 12 (nI 4) (τ.1 0 22)).2.1 12 0 = _ ∧ (sA (sA (sA (sA (sA τ 12 (nI 0) (τ.1 0 0)) 12 (nI 1) (τ.1 0 1)) 12 (nI 2) (τ.1 0 5)) 12 (nI 3) (τ.1 0 20)) 12 (nI 4) (τ.1 0 22)).2.1 12 1 = _ ∧ (sA (sA (sA (sA (sA τ 12 (nI 0) (τ.1 0 0)) 12 (nI 1) (τ.1 0 1)) 12 (nI 2) (τ.1 0 5)) 12 (nI 3) (τ.1 0 20)) 12 (nI 4) (τ.1 0 22)).2.1 12 2 = _ ∧ (sA (sA (sA (sA (sA τ 12 (nI 0) (τ.1 0 0)) 12 (nI 1) (τ.1 0 1)) 12 (nI 2) (τ.1 0 5)) 12 (nI 3) (τ.1 0 20)) 12 (nI 4) (τ.1 0 22)).2.1 12 3 = _ ∧ (sA (sA (sA (sA (sA τ 12 (nI 0) (τ.1 0 0)) 12 (nI 1) (τ.1 0 1)) 12 (nI 2) (τ.1 0 5)) 12 (nI 3) (τ.1 0 20)) 12 (nI 4) (τ.1 0 22)).2.1 12 4 = _
    refine ⟨?_, ?_, ?_, ?_, ?_⟩ <;> simp (disch := omega) only [sA_k, sA_s]
  have f6 : τ6.1 = τ.1 := by rw [g2, e2, d2, c2, b2, a2, z0]
  have r6 : ∀ o, o ≠ 12 → τ6.2.1 o = τ.2.1 o := fun o ho => by rw [g4 o ho, e4 o ho, d4 o ho, c4 o ho, b4 o ho, a4 o ho, z4 o ho]
  have l6 : τ6.2.2 = τ.2.2 := by rw [g3, e3, d3, c3, b3, a3, z2]
  have lowq : ∀ q, q < 5 → τ6.2.1 12 q = τ0.2.1 12 q := fun q hq => by rw [g5 q (by omega), e5 q (by omega), d5 q (by omega), c5 q (by omega), b5 q (by omega), a5 q (by omega)]
  refine ⟨sF σ1 0 2 1, sF τ6 0 29 1, 1, ?_, ?_, ⟨np, ns, nu, nl, Ps, Ss, ?_⟩, Or.inr ⟨sF_s, sF_s, np, ns, nu, nl, Ps, Ss, ?_⟩, ?_, ?_⟩
  · unfold f_X10_image
    rw [p1]
    simp only [Option.bind_some, cr_let]
  · unfold f_X11_image f_X11_notesRow_1 f_X11_notesRow_2 f_X11_notesRow_3 f_X11_notesRow_8 f_X11_notesRow_10 f_X11_notesRow_11
    simp only [cr_let, rF, sA_1, n_0, n_1, n_2, n_3, n_4, n_5]
    change Option.bind (f_X11_notesRow_1_L2 cr_fuel τ0 (nI 5) (nI 0)) _ = _
    rw [a1]
    simp only [Option.bind_some]
    rw [b1]
    simp only [Option.bind_some]
    rw [c1]
    simp only [Option.bind_some]
    rw [d1]
    simp only [Option.bind_some]
    rw [e1]
    simp only [Option.bind_some]
    rw [g1]
    simp only [Option.bind_some]
  · unfold rMain at hm ⊢
    simp (disch := omega) only [sF_k, sF_2, f6, r6]
    exact rW_of hm (fun o j h1 h2 => by rw [sF_o (by omega), p3 o (by omega)]) (fun o j h1 h2 => by rw [sF_2, p4 o (by omega)])
  · simp only [sF_2]
    rw [lowq 0 (by omega), lowq 1 (by omega), lowq 2 (by omega), lowq 3 (by omega), lowq 4 (by omega), zz.1, zz.2.1, zz.2.2.1, zz.2.2.2.1, zz.2.2.2.2]
    have base := rW_tr (d := 28) (mp' := fun i => τ6.2.1 12 (5 + i)) (ms' := fun i => τ6.2.1 12 (35 + i)) (mv' := fun i => τ6.2.1 12 (50 + i)) (mu' := fun i => τ6.2.1 12 (54 + i)) (mw' := fun i => τ6.2.1 12 (86 + i)) (me' := fun i => τ6.2.1 12 (98 + i)) hm p2 (fun i hi => ?_) (fun i hi => ?_) (fun i hi => ?_) (fun i hi => ?_) (fun i hi => ?_) (fun i hi => ?_)
    · exact rW_of base (fun o j h1 h2 => by rw [sF_o (by omega)]) (fun o j _ _ => rfl)
    · show τ6.2.1 12 (5 + i) = _
      rw [g5 _ (by omega), e5 _ (by omega), d5 _ (by omega), c5 _ (by omega), b5 _ (by omega), a6 i (by omega) hi, z4 _ (by omega)]
    · show τ6.2.1 12 (35 + i) = _
      rw [g5 _ (by omega), e5 _ (by omega), d5 _ (by omega), c5 _ (by omega), b6 i (by omega) hi, a4 _ (by omega), z4 _ (by omega)]
    · show τ6.2.1 12 (50 + i) = _
      rw [g5 _ (by omega), e5 _ (by omega), d5 _ (by omega), c6 i (by omega) hi, b4 _ (by omega), a4 _ (by omega), z4 _ (by omega)]
    · show τ6.2.1 12 (54 + i) = _
      rw [g5 _ (by omega), e5 _ (by omega), d6 i (by omega) hi, c4 _ (by omega), b4 _ (by omega), a4 _ (by omega), z4 _ (by omega)]
    · show τ6.2.1 12 (86 + i) = _
      rw [g5 _ (by omega), e6 i (by omega) hi, d4 _ (by omega), c4 _ (by omega), b4 _ (by omega), a4 _ (by omega), z4 _ (by omega)]
    · show τ6.2.1 12 (98 + i) = _
      rw [g6 i (by omega) hi, e4 _ (by omega), d4 _ (by omega), c4 _ (by omega), b4 _ (by omega), a4 _ (by omega), z4 _ (by omega)]
  · exact rTp_of ht (by rw [sF_o (by omega), p3 _ (by omega)]) (by rw [sF_2, p4 _ (by omega)]) (by rw [sF_k (by omega), f6]) (by rw [sF_2, r6 _ (by omega)])
  · exact rSh_of hs (fun o j q => by rw [sF_o (by omega), p3 _ (by omega)]) (by rw [sF_2, p5]) (by rw [sF_2, r6 _ (by omega)]) (by rw [sF_2, r6 _ (by omega)]) (by rw [sF_2, l6])
theorem S_restore {σ τ : cr_S} (h : Inv σ τ) : Step σ τ (f_X10_restore σ) (f_X11_restore τ) := by
  have h0 := h
  obtain ⟨-, hk, ht, hs⟩ := h
  rcases hk with ⟨k1, k2⟩ | ⟨k1, k2, np, ns, nu, nl, Ps, Ss, hm⟩
  · refine ⟨σ, τ, -4, ?_, ?_, h0⟩
    · simp [f_X10_restore, rF, k1]
    · simp [f_X11_restore, rF, k2]
  have hnp := hm.1.2.2
  have hns := hm.2.1.2.2
  obtain ⟨σ1, p1, p2, p3, p4, p5⟩ := C_take_1 (σ := σ) hnp hns hm.1.1 hm.2.1.1 (fun k hk => by
    have w := hm.2.2.2.2.2.1 k hk
    exact ⟨Ps k 2, (w.2 2 (by omega)).1, w.1.2.2.2.1, w.1.2.2.2.2.1⟩)
  obtain ⟨τ0, hτ0⟩ : ∃ τ0, τ0 = sF (sF (sF (sF (sF τ 0 0 (τ.2.1 12 0)) 0 1 (τ.2.1 12 1)) 0 5 (τ.2.1 12 2)) 0 20 (τ.2.1 12 3)) 0 22 (τ.2.1 12 4) := ⟨_, rfl⟩
  obtain ⟨τ1, a1, a2, a3, a4, a5, a6⟩ := M_gv_1 (x := 5) (by omega) 30 cr_fuel 0 τ0 (by omega) (by rw [cr_fuel_v]; omega)
  obtain ⟨τ2, b1, b2, b3, b4, b5, b6⟩ := M_gv_2 (x := 35) (by omega) 15 cr_fuel 0 τ1 (by omega) (by rw [cr_fuel_v]; omega)
  obtain ⟨τ3, c1, c2, c3, c4, c5, c6⟩ := M_gv_3 (x := 50) (by omega) 4 cr_fuel 0 τ2 (by omega) (by rw [cr_fuel_v]; omega)
  obtain ⟨τ4, d1, d2, d3, d4, d5, d6⟩ := M_gv_8 (x := 54) (by omega) 32 cr_fuel 0 τ3 (by omega) (by rw [cr_fuel_v]; omega)
  obtain ⟨τ5, e1, e2, e3, e4, e5, e6⟩ := M_gv_10 (x := 86) (by omega) 12 cr_fuel 0 τ4 (by omega) (by rw [cr_fuel_v]; omega)
  obtain ⟨τ6, g1, g2, g3, g4, g5, g6⟩ := M_gv_11 (x := 98) (by omega) 12 cr_fuel 0 τ5 (by omega) (by rw [cr_fuel_v]; omega)
  have f6 : τ6.1 = τ0.1 := by rw [g2, e2, d2, c2, b2, a2]
  have z2 : τ0.2 = τ.2 := by rw [hτ0]; rfl
  have r6 : ∀ o, o ≠ 1 → o ≠ 2 → o ≠ 3 → o ≠ 8 → o ≠ 10 → o ≠ 11 → τ6.2.1 o = τ.2.1 o := fun o x1 x2 x3 x4 x5 x6 => by rw [g4 o x6, e4 o x5, d4 o x4, c4 o x3, b4 o x2, a4 o x1, z2]
  have l6 : τ6.2.2 = τ.2.2 := by rw [g3, e3, d3, c3, b3, a3, z2]
  have n10 : ¬ (1 : Int32) = 0 := by decide
  refine ⟨σ1, τ6, 1, ?_, ?_, ⟨np, ns, nu, nl, Ps, Ss, ?_⟩, ?_, ?_, ?_⟩
  · unfold f_X10_restore
    simp only [rF, k1]
    rw [if_neg n10, p1]
    simp only [Option.bind_some]
  · unfold f_X11_restore f_X11_gives_1 f_X11_gives_2 f_X11_gives_3 f_X11_gives_8 f_X11_gives_10 f_X11_gives_11
    simp only [rF, k2]
    rw [if_neg n10]
    simp (disch := omega) only [cr_let, n_0, n_1, n_2, n_3, n_4, n_5, rA_n, sF_2]
    rw [← hτ0, a1]
    simp only [Option.bind_some]
    rw [b1]
    simp only [Option.bind_some]
    rw [c1]
    simp only [Option.bind_some]
    rw [d1]
    simp only [Option.bind_some]
    rw [e1]
    simp only [Option.bind_some]
    rw [g1]
    simp only [Option.bind_some]
  · unfold rMain
    have y : τ6.1 0 0 = τ.2.1 12 0 ∧ τ6.1 0 1 = τ.2.1 12 1 ∧ τ6.1 0 5 = τ.2.1 12 2 ∧ τ6.1 0 20 = τ.2.1 12 3 ∧ τ6.1 0 22 = τ.2.1 12 4 := by
      rw [f6, hτ0]
      refine ⟨?_, ?_, ?_, ?_, ?_⟩ <;> simp (disch := omega) only [sF_k, sF_s]
    rw [y.1, y.2.1, y.2.2.1, y.2.2.2.1, y.2.2.2.2]
    refine rW_tr hm p2 (fun i hi => ?_) (fun i hi => ?_) (fun i hi => ?_) (fun i hi => ?_) (fun i hi => ?_) (fun i hi => ?_)
    · rw [g4 _ (by omega), e4 _ (by omega), d4 _ (by omega), c4 _ (by omega), b4 _ (by omega), a6 i (by omega) hi, z2]
    · rw [g4 _ (by omega), e4 _ (by omega), d4 _ (by omega), c4 _ (by omega), b6 i (by omega) hi, a4 _ (by omega), z2]
    · rw [g4 _ (by omega), e4 _ (by omega), d4 _ (by omega), c6 i (by omega) hi, b4 _ (by omega), a4 _ (by omega), z2]
    · rw [g4 _ (by omega), e4 _ (by omega), d6 i (by omega) hi, c4 _ (by omega), b4 _ (by omega), a4 _ (by omega), z2]
    · rw [g4 _ (by omega), e6 i (by omega) hi, d4 _ (by omega), c4 _ (by omega), b4 _ (by omega), a4 _ (by omega), z2]
    · rw [g6 i (by omega) hi, e4 _ (by omega), d4 _ (by omega), c4 _ (by omega), b4 _ (by omega), a4 _ (by omega), z2]
  · exact rKp_of h0.2.1 (fun o j q => by rw [p3 o (by omega)]) (fun o j q1 q2 => by rw [p4 o (by omega)]) (by rw [f6, hτ0]; simp (disch := omega) only [sF_k]) (r6 12 (by omega) (by omega) (by omega) (by omega) (by omega) (by omega))
  · exact rTp_of ht (by rw [p3 _ (by omega)]) (by rw [p4 _ (by omega)]) (by rw [f6, hτ0]; simp (disch := omega) only [sF_k]) (r6 5 (by omega) (by omega) (by omega) (by omega) (by omega) (by omega))
  · exact rSh_of hs (fun o j q => by rw [p3 _ (by omega)]) p5 (r6 13 (by omega) (by omega) (by omega) (by omega) (by omega) (by omega)) (r6 14 (by omega) (by omega) (by omega) (by omega) (by omega) (by omega)) l6

/-! the steps drop, sheet, item, film -/
theorem kC_r : ∀ k, k < 4 → kC (89 + 2 * k) = 4 := by decide
theorem kC_i : ∀ k, k < 4 → kC (89 + 2 * k + 1) = 3016 := by decide
theorem Inv_sh {σ σ' τ τ' : cr_S} (h : Inv σ τ) (c1 : ∀ o j, o < 89 → σ'.1 o j = σ.1 o j) (c2 : σ'.2.1 = σ.2.1) (m1 : τ'.1 = τ.1) (m2 : ∀ o, o ≠ 13 → o ≠ 14 → τ'.2.1 o = τ.2.1 o) (s : rSh σ' τ') : Inv σ' τ' := by
  obtain ⟨⟨np, ns, nu, nl, Ps, Ss, hm⟩, hk, ht, -⟩ := h
  refine ⟨⟨np, ns, nu, nl, Ps, Ss, ?_⟩, rKp_of hk (fun o j q => c1 o j (by omega)) (fun o j _ _ => by rw [c2]) (by rw [m1]) (m2 12 (by omega) (by omega)), rTp_of ht (c1 55 3 (by omega)) (by rw [c2]) (by rw [m1]) (m2 5 (by omega) (by omega)), s⟩
  unfold rMain at hm ⊢
  rw [m1, m2 1 (by omega) (by omega), m2 2 (by omega) (by omega), m2 3 (by omega) (by omega), m2 8 (by omega) (by omega), m2 10 (by omega) (by omega), m2 11 (by omega) (by omega)]
  exact rW_of hm (fun o j _ _ => c1 o j (by omega)) (fun o j _ _ => by rw [c2])
theorem C_isRow {σ : cr_S} {a b : Int32} : f_X10_isRow σ a b = some (σ, bI (inR a 0 3 && inR b 0 3)) := by
  simp only [f_X10_isRow, C_within, Option.bind_some]
  cases inR a 0 3 <;> cases inR b 0 3 <;> simp [bI]
theorem M_isSheet {τ : cr_S} {a : Int32} : f_X11_isSheet τ a = some (τ, bI (inR a 0 3)) := by
  simp only [f_X11_isSheet, L_0, L_3, M_in, Option.bind_some, chk_t (isB_b _)]
theorem M_isLane {τ : cr_S} {a : Int32} : f_X11_isLane τ a = some (τ, bI (inR a 0 3)) := by
  simp only [f_X11_isLane, L_0, L_3, M_in, Option.bind_some, chk_t (isB_b _)]
theorem m1_lt : ¬ (0 : Int32) ≤ -1 := by decide
theorem ge_0 {n : Nat} (h : n < 1000000) : (0 : Int32) ≤ nI n := by
  rw [n_0, le_n (by omega) (by omega)]; omega
theorem S_drop {σ τ : cr_S} {a : Int32} (h : Inv σ τ) : Step σ τ (f_X10_drop σ a) (f_X11_drop τ a) := by
  have h0 := h
  obtain ⟨-, -, -, hs⟩ := h
  unfold f_X10_drop f_X11_drop
  simp only [C_within, M_isSheet, Option.bind_some]
  cases q1 : inR a 0 3
  · exact ⟨σ, τ, -1, by simp [bI], by simp [bI], h0⟩
  obtain ⟨k, hk, rfl⟩ := inR_m (n := 3) (by omega) q1
  simp (disch := omega) only [bI_t, chk_i, nI_clamp, chk_t (kC_r k (by omega)), rF, rA_n]
  rcases hs k (by omega) with ⟨w1, w2⟩ | ⟨ln, m, w1, w2, w3, w4, w5, w6, w7, w8⟩
  · exact ⟨σ, τ, -11, by simp [w1], by simp [w2, m1_lt], h0⟩
  · have g := ge_0 (n := ln) (by omega)
    refine ⟨sF σ (89 + 2 * k) 1 0, sA τ 13 (nI k) (-1), nI m, ?_, ?_, Inv_sh h0 (fun o j q => by rw [sF_o (by omega)]) rfl rfl (fun o q _ => sA_o q) ?_⟩
    · simp (disch := omega) [w3, cr_let, sF_k, w6]
    · simp (disch := omega) [w5, g, cr_let, sA_o, w7]
    · intro k' hk'
      by_cases e : k' = k
      · subst e
        exact Or.inl ⟨sF_s, sA_s (by omega)⟩
      · have := hs k' hk'
        rw [sF_o (by omega), sA_k (by omega) e, sA_o (by omega)]
        exact this
theorem C_fillZ {k : Nat} (hk : k < 4) : ∀ (n f i : Nat) (σ : cr_S), i + n = 16 → n < f → ∃ σ', f_J7_fill_d0a16_L6 f σ (89 + 2 * k + 1) 0 (nI i) 16 = some σ' ∧ σ'.1 = σ.1 ∧ σ'.2.1 = σ.2.1 ∧ (∀ o, o ≠ 90 + 2 * k → σ'.2.2 o = σ.2.2 o) ∧ (∀ j, j < i → σ'.2.2 (90 + 2 * k) j = σ.2.2 (90 + 2 * k) j) ∧ ∀ j, i ≤ j → j < 16 → σ'.2.2 (90 + 2 * k) j = 0
  | 0, f + 1, i, σ, hi, hf => by
    refine ⟨σ, ?_, rfl, rfl, fun _ _ => rfl, fun _ _ => rfl, fun j q1 q2 => absurd q1 (by omega)⟩
    rw [f_J7_fill_d0a16_L6]
    simp (disch := omega) only [n_16, le_n, if_pos]
  | n + 1, f + 1, i, σ, hi, hf => by
    obtain ⟨σ2, u1, u2, u3, u4, u5, u6⟩ := C_fillZ hk n f (i + 1) (sL σ (89 + 2 * k + 1) (nI i) 0) (by omega) (by omega)
    have e90 : 89 + 2 * k + 1 = 90 + 2 * k := by omega
    refine ⟨σ2, ?_, u2, u3, fun o ho => by rw [u4 o ho, sL_o (by omega)], fun j hj => by rw [u5 j (by omega), sL_22 (by omega), if_neg (by omega)], fun j q1 q2 => ?_⟩
    · rw [f_J7_fill_d0a16_L6]
      have q : ¬ (16 : Int32) ≤ nI i := by rw [n_16, le_n (by omega) (by omega)]; omega
      simp (disch := omega) only [if_neg q, chk_t (kC_i k hk), chk_i, cr_let, nI_1]
      exact u1
    · by_cases e : j = i
      · subst e
        rw [u5 j (by omega), sL_22 (by omega), if_pos ⟨by omega, rfl⟩]
      · exact u6 j (by omega) q2
theorem M_fillZ {k : Nat} {x3 : Int32} (hk : k < 4) : ∀ (n f i : Nat) (τ : cr_S), i + n = 16 → n < f → ∃ τ', f_X11_sheet_L46 f τ (nI k) x3 (nI i) = some (τ', x3) ∧ τ'.1 = τ.1 ∧ τ'.2.1 = τ.2.1 ∧ (∀ j, (j < 16 * k + i ∨ 16 * k + 16 ≤ j) → τ'.2.2 15 j = τ.2.2 15 j) ∧ ∀ j, i ≤ j → j < 16 → τ'.2.2 15 (16 * k + j) = 0
  | 0, f + 1, i, τ, hi, hf => by
    refine ⟨τ, ?_, rfl, rfl, fun _ _ => rfl, fun j q1 q2 => absurd q1 (by omega)⟩
    rw [f_X11_sheet_L46]
    simp (disch := omega) only [n_16, le_n, if_pos]
  | n + 1, f + 1, i, τ, hi, hf => by
    obtain ⟨τ2, u1, u2, u3, u4, u5⟩ := M_fillZ (x3 := x3) hk n f (i + 1) (sL τ 15 (nI (16 * k + i)) 0) (by omega) (by omega)
    refine ⟨τ2, ?_, u2, u3, fun j hj => by rw [u4 j (by omega), sL_22 (by omega), if_neg (by omega)], fun j q1 q2 => ?_⟩
    · rw [f_X11_sheet_L46]
      simp (disch := omega) only [n_16, le_n, if_neg, pk_mul, nI_add, chk_i, cr_let, nI_1]
      exact u1
    · by_cases e : j = i
      · subst e
        rw [u4 (16 * k + j) (by omega), sL_22 (by omega), if_pos ⟨rfl, rfl⟩]
      · exact u5 j (by omega) q2
theorem S_sheet {σ τ : cr_S} {a b c : Int32} (h : Inv σ τ) : Step σ τ (f_X10_sheet σ a b c) (f_X11_sheet τ a b c) := by
  have h0 := h
  obtain ⟨-, -, -, hs⟩ := h
  unfold f_X10_sheet f_X11_sheet
  simp only [C_isRow, M_isSheet, M_isLane, Option.bind_some]
  cases q1 : inR a 0 3
  · exact ⟨σ, τ, -1, by simp [bI], by simp [bI], h0⟩
  cases q2 : inR b 0 3
  · exact ⟨σ, τ, -1, by simp [bI], by simp [bI], h0⟩
  by_cases q3 : c ≤ 16
  · by_cases q4 : 0 ≤ c
    · obtain ⟨k, hk, rfl⟩ := inR_m (n := 3) (by omega) q1
      obtain ⟨ln, hl, rfl⟩ := inR_m (n := 3) (by omega) q2
      obtain ⟨m, hm, rfl⟩ := inR_m (a := c) (n := 16) (by omega) (decide_eq_true ⟨q4, q3⟩)
      have hk : k < 4 := by omega
      obtain ⟨σ1, u1, u2, u3, u4, -, u6⟩ := C_fillZ hk 16 cr_fuel 0 (sF (sF (sF σ (89 + 2 * k) 1 1) (89 + 2 * k) 2 (nI ln)) (89 + 2 * k) 3 (nI m)) (by omega) (by rw [cr_fuel_v]; omega)
      obtain ⟨τ1, v1, v2, v3, v4, v5⟩ := M_fillZ (x3 := nI m) hk 16 cr_fuel 0 (sA (sA τ 13 (nI k) (nI ln)) 14 (nI k) (nI m)) (by omega) (by rw [cr_fuel_v]; omega)
      rw [← n_0] at u1 v1
      refine ⟨σ1, τ1, nI m, ?_, ?_, Inv_sh h0 (fun o j q => by rw [u2, sF_o (by omega), sF_o (by omega), sF_o (by omega)]) (by rw [u3]; rfl) (by rw [v2]; rfl) (fun o q1 q2 => by rw [v3, sA_o q2, sA_o q1]) ?_⟩
      · simp (disch := omega) only [bI_t, Bool.and_self, q3, q4, if_true, chk_i, nI_clamp, f_X4_begin, chk_t (kC_r k hk), cr_let, f_J7_fill_d0a16, chk_t (kC_i k hk), u1, Option.bind_some]
        simp
      · simp (disch := omega) only [bI_t, q3, q4, if_true, chk_i, cr_let, v1]
        simp
      · intro k' hk'
        by_cases e : k' = k
        · subst e
          refine Or.inr ⟨ln, m, hl, hm, ?_, ?_, ?_, ?_, ?_, fun i hi => by rw [u6 i (by omega) hi, v5 i (by omega) hi]⟩
          · rw [u2]; simp (disch := omega) only [sF_k, sF_s]
          · rw [u2]; simp (disch := omega) only [sF_k, sF_s]
          · rw [v3]; simp (disch := omega) only [sA_o, sA_s]
          · rw [u2]; simp (disch := omega) only [sF_k, sF_s]
          · rw [v3]; simp (disch := omega) only [sA_o, sA_s]
        · have := hs k' hk'
          rw [u2, sF_o (by omega), sF_o (by omega), sF_o (by omega), v3, sA_o (by omega), sA_k (by omega) e, sA_k (by omega) e, sA_o (by omega)]
          rcases this with w | ⟨a1, a2, w1, w2, w3, w4, w5, w6, w7, w8⟩
          · exact Or.inl w
          · exact Or.inr ⟨a1, a2, w1, w2, w3, w4, w5, w6, w7, fun i hi => by rw [u4 _ (by omega), v4 _ (by omega)]; exact w8 i hi⟩
    · exact ⟨σ, τ, -14, by simp [bI, q3, q4], by simp [bI, q3, q4], h0⟩
  · exact ⟨σ, τ, -1, by simp [bI, q3], by simp [bI, q3], h0⟩
theorem has_c {m : Nat} {i n : Int32} (hm : m ≤ 16) (hn : 0 ≤ n) : ((nI m - n) < i) ↔ (m : Int) < i.toInt + n.toInt := by
  have h1 := Int32.le_iff_toInt_le.mp hn
  have e0 : (0 : Int32).toInt = 0 := rfl
  have h2 := Int32.toInt_lt n
  rw [Int32.lt_iff_toInt_lt, Int32.toInt_sub, nI_toInt (by omega), Int.bmod_eq_of_le (by omega) (by omega)]
  omega
theorem has_m {m : Nat} {i n : Int32} (hm : m ≤ 16) : (lg_cmp (i.toInt64 + n.toInt64) ((nI m).toInt64) ≤ 0) ↔ i.toInt + n.toInt ≤ m := by
  have h1 := Int32.toInt_lt n
  have h2 := Int32.toInt_lt i
  have h3 := Int32.le_toInt n
  have h4 := Int32.le_toInt i
  rw [← Int32.not_lt, cmp_gt, Int64.lt_iff_toInt_lt, Int64.toInt_add, Int32.toInt_toInt64, Int32.toInt_toInt64, Int32.toInt_toInt64, nI_toInt (by omega), Int.bmod_eq_of_le (by omega) (by omega)]
  omega
theorem C_has {σ : cr_S} {k m : Nat} {i n : Int32} (hk : k < 4) (h3 : σ.1 (89 + 2 * k) 3 = nI m) (hm : m ≤ 16) : f_X4_hasItems σ (89 + 2 * k) i n = some (σ, bI (decide (0 ≤ i ∧ 0 ≤ n ∧ i.toInt + n.toInt ≤ m))) := by
  unfold f_X4_hasItems
  by_cases a : i < 0
  · have a' : ¬ 0 ≤ i := Int32.not_le.mpr a
    simp [a, a', bI]
  · have a' : 0 ≤ i := Int32.not_lt.mp a
    by_cases b : n < 0
    · have b' : ¬ 0 ≤ n := Int32.not_le.mpr b
      simp [a, b, b', bI]
    · have b' : 0 ≤ n := Int32.not_lt.mp b
      simp only [a, b, if_false, chk_t (kC_r k hk), rF, h3, has_c hm b']
      by_cases c : (m : Int) < i.toInt + n.toInt
      · have c' : ¬ i.toInt + n.toInt ≤ m := by omega
        simp [c, c', bI]
      · have c' : i.toInt + n.toInt ≤ m := by omega
        simp [c, c', a', b', bI]
theorem S_why {σ τ : cr_S} {k n : Nat} {lane i : Int32} (hs : rSh σ τ) (hk : k < 4) (hn : n ≤ 16) :
    (∃ w, f_X4_refusal σ (89 + 2 * k) lane i (nI n) = some (σ, w) ∧ f_X11_why τ (nI k) lane i (nI n) = some (τ, w) ∧ ¬ w = 0 ∧ ¬ 0 ≤ w) ∨
    (∃ i' ln m, f_X4_refusal σ (89 + 2 * k) lane i (nI n) = some (σ, 0) ∧ f_X11_why τ (nI k) lane i (nI n) = some (τ, 0) ∧ i = nI i' ∧ i' + n ≤ m ∧ m ≤ 16 ∧ lane = nI ln ∧ ln ≤ 3 ∧ τ.2.1 13 k = nI ln) := by
  unfold f_X4_refusal f_X11_why
  simp (disch := omega) only [chk_i, rA_n, chk_t (kC_r k hk), rF]
  rcases hs k hk with ⟨w1, w2⟩ | ⟨ln, m, w1, w2, w3, w4, w5, w6, w7, w8⟩
  · exact Or.inl ⟨-11, by simp [w1], by simp [w2, m1_lt], by decide, by decide⟩
  · have g := ge_0 (n := ln) (by omega)
    by_cases e : nI ln = lane
    · subst e
      by_cases z : 0 ≤ i ∧ 0 ≤ nI n ∧ i.toInt + (nI n).toInt ≤ m
      · have z1 := z.2.2
        rw [nI_toInt (by omega)] at z1
        obtain ⟨i', hi', rfl⟩ := nI_of (x := i) (Int32.not_lt.mpr z.1)
        rw [nI_toInt (by omega)] at z1
        refine Or.inr ⟨i', ln, m, ?_, ?_, rfl, by omega, w2, rfl, w1, w5⟩
        · simp [w3, w4, C_has hk w6 w2, z, bI]
        · simp only [w5, g, if_true, if_neg (Int32.not_lt.mpr z.1), w7, (has_m w2).mpr z.2.2]
      · refine Or.inl ⟨-13, ?_, ?_, by decide, by decide⟩
        · simp [w3, w4, C_has hk w6 w2, z, bI]
        · simp only [w5, g, if_true, w7, has_m w2]
          by_cases y : i < 0
          · simp [y]
          · have y' : 0 ≤ i := Int32.not_lt.mp y
            have n' : 0 ≤ nI n := ge_0 (by omega)
            have : ¬ i.toInt + (nI n).toInt ≤ m := fun q => z ⟨y', n', q⟩
            simp [y, this]
    · exact Or.inl ⟨-12, by simp [w3, w4, e], by simp [w5, g, e], by decide, by decide⟩
theorem rSh_put {σ τ : cr_S} {k i : Nat} {v : Int64} (hs : rSh σ τ) (hk : k < 4) (hi : i < 16) : rSh (sL σ (89 + 2 * k + 1) (nI i) v) (sL τ 15 (nI (16 * k + i)) v) := by
  intro k' hk'
  have := hs k' hk'
  rw [sL_1, sL_21]
  rcases this with w | ⟨a1, a2, w1, w2, w3, w4, w5, w6, w7, w8⟩
  · exact Or.inl w
  · refine Or.inr ⟨a1, a2, w1, w2, w3, w4, w5, w6, w7, fun j hj => ?_⟩
    rw [sL_22 (by omega), sL_22 (by omega)]
    by_cases e : k' = k ∧ j = i
    · rw [if_pos (by omega), if_pos (by omega)]
    · rw [if_neg (by omega), if_neg (by omega)]
      exact w8 j hj
theorem Inv_put {σ τ : cr_S} {k i : Nat} {v : Int64} (h : Inv σ τ) (hk : k < 4) (hi : i < 16) : Inv (sL σ (89 + 2 * k + 1) (nI i) v) (sL τ 15 (nI (16 * k + i)) v) := Inv_sh h (fun _ _ _ => rfl) rfl rfl (fun _ _ _ => rfl) (rSh_put h.2.2.2 hk hi)
def lbI (lane : Int32) (v : Int64) : Int64 := if lane = 0 then Int32.toInt64 ((Int32.toInt8 (Int64.toInt32 v)).toInt32) else if lane = 1 then Int32.toInt64 ((Int32.toInt16 (Int64.toInt32 v)).toInt32) else if lane = 2 then Int32.toInt64 (Int64.toInt32 v) else v
theorem C_low_b {σ : cr_S} {lane : Int32} {v : Int64} : f_X10_lowestBits σ lane v = some (σ, lbI lane v) := by
  unfold f_X10_lowestBits lbI
  by_cases a : lane = 0
  · simp [a]
  · by_cases b : lane = 1
    · simp [b]
    · by_cases c : lane = 2 <;> simp [a, b, c]
theorem M_puts {τ : cr_S} {k i : Nat} {lane : Int32} {v : Int64} (hk : k < 4) (hi : i < 16) (hl : τ.2.1 13 k = lane) : f_X11_puts τ (nI k) (nI i) v = some (sL τ 15 (nI (16 * k + i)) (lbI lane v)) := by
  unfold f_X11_puts lbI
  simp (disch := omega) only [chk_i, rA_n, hl, cr_let, f_X11_puts_B56, n_16, pk_mul, nI_add]
  by_cases a : lane = 0
  · simp [a]
  · by_cases b : lane = 1
    · simp [b]
    · by_cases c : lane = 2 <;> simp [a, b, c]
theorem S_item {σ τ : cr_S} {a b c : Int32} {v : Int64} (h : Inv σ τ) : Step σ τ (f_X10_item σ a b c v) (f_X11_item τ a b c v) := by
  unfold f_X10_item f_X11_item
  simp only [C_isRow, M_isSheet, M_isLane, Option.bind_some]
  cases q1 : inR a 0 3
  · exact ⟨σ, τ, -1, by simp [bI], by simp [bI], h⟩
  cases q2 : inR b 0 3
  · exact ⟨σ, τ, -1, by simp [bI], by simp [bI], h⟩
  obtain ⟨k, hk, rfl⟩ := inR_m (n := 3) (by omega) q1
  have hk : k < 4 := by omega
  have w := S_why (lane := b) (i := c) (n := 1) h.2.2.2 hk (by omega)
  rw [← n_1] at w
  rcases w with ⟨w, w1, w2, w3, w4⟩ | ⟨i, ln, m, w1, w2, rfl, w3, w4, rfl, w5, w6⟩
  · refine ⟨σ, τ, w, ?_, ?_, h⟩
    · simp (disch := omega) only [bI_t, Bool.and_self, chk_i, nI_clamp, w1, Option.bind_some, chk_t (kC_r k hk), cr_let, if_neg w3]
      simp
    · simp only [bI_t, w2, Option.bind_some, cr_let, if_neg w4]
      simp
  · refine ⟨_, _, 1, ?_, ?_, Inv_put (v := lbI (nI ln) v) h hk (show i < 16 by omega)⟩
    · simp (disch := omega) only [bI_t, Bool.and_self, chk_i, nI_clamp, w1, Option.bind_some, chk_t (kC_r k hk), chk_t (kC_i k hk), cr_let, C_low_b]
      simp
    · simp (disch := omega) only [bI_t, w2, Option.bind_some, cr_let, M_puts hk (show i < 16 by omega) w6]
      simp
theorem lb_b (lane : Int32) (b : Bool) : lbI lane (Int32.toInt64 (bI b)) = Int32.toInt64 (bI b) := by
  unfold lbI
  cases b
  · split
    · decide
    · split
      · decide
      · split <;> decide
  · split
    · decide
    · split
      · decide
      · split <;> decide
theorem C_film1 {f np k i j : Nat} {x1 : Int32} {o : Bool} {σ : cr_S} {Ps : Nat → Nat → Nat} (hk : k < 4) (hi : i + np ≤ 16) (hC : cStr σ np Ps) (hj : j < np) (e1 : f_X3_isOpenNow σ (9 + j) x1 = some (σ, bI o)) : f_X10_film_L57 (f + 1) σ x1 (nI i) (89 + 2 * k) (nI j) = f_X10_film_L57 f (sL σ (89 + 2 * k + 1) (nI (i + j)) (Int32.toInt64 (bI o))) x1 (nI i) (89 + 2 * k) (nI (j + 1)) := by
  have hnp := hC.2.1
  have hP := hC.2.2 j (by omega)
  have q : ¬ nI np ≤ nI j := by rw [le_n (by omega) (by omega)]; omega
  rw [f_X10_film_L57]
  simp only [rF, hC.1]
  rw [if_neg q, chk_t (kC_r k hk), chk_i (by omega) (by omega), nI_clamp (by omega), e1]
  simp only [Option.bind_some]
  rw [chk_t hP.1, one_b]
  simp only [Option.bind_some]
  rw [chk_t (kC_i k hk), nI_add, chk_i (by omega) (by omega), bI_n, nI_1]
  rfl
theorem M_film1 {f np k i j : Nat} {x1 lane : Int32} {o : Bool} {τ : cr_S} {Ps : Nat → Nat → Nat} (hk : k < 4) (hi : i + np ≤ 16) (hM : mStr τ np Ps) (hj : j < np) (hl : τ.2.1 13 k = lane) (e2 : f_X11_open τ (nI j) x1 = some (τ, bI o)) : f_X11_film_L53 (f + 1) τ x1 (nI k) (nI i) (nI j) = f_X11_film_L53 f (sL τ 15 (nI (16 * k + (i + j))) (Int32.toInt64 (bI o))) x1 (nI k) (nI i) (nI (j + 1)) := by
  have hnp := hM.2.1
  rw [f_X11_film_L53]
  simp (disch := omega) only [rF, hM.1, le_n, if_neg, e2, Option.bind_some, nI_add, cr_let, nI_1, M_puts hk (show i + j < 16 by omega) hl, lb_b]
theorem S_filmL {np k i : Nat} {x1 : Int32} {op : Nat → Bool} {Ps : Nat → Nat → Nat} {lane : Int32} (hk : k < 4) (hi : i + np ≤ 16) (hc : ∀ (σ : cr_S) (j : Nat), cStr σ np Ps → j < np → f_X3_isOpenNow σ (9 + j) x1 = some (σ, bI (op j))) (hmo : ∀ (τ : cr_S) (j : Nat), mStr τ np Ps → j < np → f_X11_open τ (nI j) x1 = some (τ, bI (op j))) : ∀ (n f j : Nat) (σ τ : cr_S), j + n = np → n < f → Inv σ τ → cStr σ np Ps → mStr τ np Ps → τ.2.1 13 k = lane → Step σ τ (f_X10_film_L57 f σ x1 (nI i) (89 + 2 * k) (nI j)) (f_X11_film_L53 f τ x1 (nI k) (nI i) (nI j))
  | 0, f + 1, j, σ, τ, hj, hf, h, hC, hM, hl => by
    have hnp := hC.2.1
    rw [f_X10_film_L57, f_X11_film_L53]
    simp (disch := omega) only [rF, hC.1, hM.1, le_n, if_pos]
    exact ⟨σ, τ, nI np, rfl, rfl, h⟩
  | n + 1, f + 1, j, σ, τ, hj, hf, h, hC, hM, hl => by
    have hnp := hC.2.1
    have q1 : i + j < 16 := by omega
    have q2 : j < np := by omega
    have q3 : j + 1 + n = np := by omega
    have q4 : n < f := by omega
    have C1 : cStr (sL σ (89 + 2 * k + 1) (nI (i + j)) (Int32.toInt64 (bI (op j)))) np Ps := ⟨hC.1, hnp, fun q hq => cP_of (hC.2.2 q hq) (fun _ _ => rfl)⟩
    have M1 : mStr (sL τ 15 (nI (16 * k + (i + j))) (Int32.toInt64 (bI (op j)))) np Ps := ⟨hM.1, hnp, fun q hq => mP_of (hM.2.2 q hq) rfl⟩
    have ih := S_filmL (lane := lane) hk hi hc hmo n f (j + 1) _ _ q3 q4 (Inv_put (v := Int32.toInt64 (bI (op j))) h hk q1) C1 M1 hl
    rw [C_film1 hk hi hC q2 (hc σ j hC q2), M_film1 hk hi hM q2 hl (hmo τ j hM q2)]
    obtain ⟨σ', τ', r, i1, i2, i3⟩ := ih
    exact ⟨σ', τ', r, i1, i2, i3⟩
theorem S_film {σ τ : cr_S} {a b c d : Int32} (h : Inv σ τ) : Step σ τ (f_X10_film σ a b c d) (f_X11_film τ a b c d) := by
  have h0 := h
  obtain ⟨⟨np, ns, nu, nl, Ps, Ss, hm⟩, -⟩ := h
  have hnp := hm.1.2.2
  unfold f_X10_film f_X11_film
  simp only [C_within, L_0, L_99999, M_in, C_isRow, M_isSheet, M_isLane, Option.bind_some, rF, hm.1.1, hm.1.2.1]
  cases q0 : inR a 0 99999
  · exact ⟨σ, τ, -1, by simp [bI], by simp [bI], h0⟩
  cases q1 : inR b 0 3
  · exact ⟨σ, τ, -1, by simp [bI], by simp [bI], h0⟩
  cases q2 : inR c 0 3
  · exact ⟨σ, τ, -1, by simp [bI], by simp [bI], h0⟩
  obtain ⟨t, ht, rfl⟩ := inR_m (n := 99999) (by omega) q0
  obtain ⟨k, hk, rfl⟩ := inR_m (n := 3) (by omega) q1
  have hk : k < 4 := by omega
  rcases S_why (lane := c) (i := d) (n := np) h0.2.2.2 hk (by omega) with ⟨w, w1, w2, w3, w4⟩ | ⟨i, ln, m, w1, w2, rfl, w3, w4, rfl, w5, w6⟩
  · refine ⟨σ, τ, w, ?_, ?_, h0⟩
    · simp (disch := omega) only [bI_t, Bool.and_self, chk_i, nI_clamp, w1, Option.bind_some, chk_t (kC_r k hk), cr_let, if_neg w3]
      simp
    · simp only [bI_t, w2, Option.bind_some, cr_let, if_neg w4]
      simp
  · obtain ⟨σ', τ', r, i1, i2, i3⟩ := S_filmL (x1 := nI t) (op := fun j => openN (Ps j) t (Ps j 4)) hk (show i + np ≤ 16 by omega) (fun σ j hC hj => C_isOpenNow (hC.2.2 j hj) (by omega)) (fun τ j hM hj => M_open hM hj ht) np cr_fuel 0 σ τ (by omega) (by rw [cr_fuel_v]; omega) h0 (rM_c hm) (rM_m hm) w6
    rw [← n_0] at i1 i2
    refine ⟨σ', τ', r, ?_, ?_, i3⟩
    · simp (disch := omega) only [bI_t, Bool.and_self, chk_i, nI_clamp, w1, Option.bind_some, chk_t (kC_r k hk), cr_let]
      simpa using i1
    · simp (disch := omega) only [bI_t, w2, Option.bind_some, cr_let]
      simpa using i2

/-! the steps fits, foretell, next -/
theorem rM_lk {σ τ : cr_S} {np ns nu nl : Nat} {Ps Ss : Nat → Nat → Nat} (h : rMain σ τ np ns nu nl Ps Ss) : ∃ W E, lkC σ nl W E ∧ lkM τ nl W E := by
  obtain ⟨-, -, -, -, ⟨f1, f2, f3⟩, -, -, -, -, k⟩ := h
  refine ⟨fun k => (τ.2.1 10 k).toNatClampNeg, fun k => decide (τ.2.1 11 k = nI 1), ⟨f1, f3, fun j hj => ?_⟩, ⟨f2, f3, fun j hj => ?_⟩⟩
  · obtain ⟨t, b, t1, b1, w1, w2, w3, w4⟩ := k j hj
    have w1' : σ.2.1 7 j = nI t := w1
    have w3' : σ.2.1 8 j = nI b := w3
    dsimp only
    rw [w1', w2, w3', w4, nI_clamp (by omega)]
    refine ⟨rfl, t1, ?_⟩
    rcases (show b = 0 ∨ b = 1 by omega) with rfl | rfl <;> decide
  · obtain ⟨t, b, t1, b1, w1, w2, w3, w4⟩ := k j hj
    dsimp only
    rw [w2, w4, nI_clamp (by omega)]
    refine ⟨rfl, t1, ?_⟩
    rcases (show b = 0 ∨ b = 1 by omega) with rfl | rfl <;> decide
theorem b567_m {τ τ' : cr_S} (b : b567 τ τ') : mSame τ τ' := ⟨fun j hj => b.2 j (by unfold mKeep at hj; omega) (by unfold mKeep at hj; omega) (by unfold mKeep at hj; omega), fun o _ _ _ _ => by rw [b.1], by rw [b.1]⟩
theorem S_fits {σ τ : cr_S} {a : Int32} (h : Inv σ τ) : Step σ τ (f_X10_fits σ a) (f_X11_fits τ a) := by
  have h0 := h
  obtain ⟨⟨np, ns, nu, nl, Ps, Ss, hm⟩, -⟩ := h
  obtain ⟨W, E, lc, lm⟩ := rM_lk hm
  unfold f_X10_fits f_X11_fits
  simp only [C_within, L_0, L_1, M_in, Option.bind_some]
  cases q1 : inR a 0 1
  · exact ⟨σ, τ, -1, by simp [bI], by simp [bI], h0⟩
  obtain ⟨σ1, u1, u2, u3, u4, -⟩ := C_survey (t := 0) (m := 0) (by omega) (by omega) lc
  obtain ⟨τ1, v1, v2, v3, v4, -⟩ := M_fit (t := 0) (by omega) lm
  have n10 : ¬ bI true = 0 := by decide
  rw [← n_0] at u1 v1
  rw [if_neg n10, if_neg n10, u1, v1]
  simp only [Option.bind_some]
  refine ⟨σ1, τ1, if a = 0 then nI (beS W E nl 23 2 (0, -4)).1 else (beS W E nl 23 2 (0, -4)).2, ?_, ?_, Inv_same h0 (g85_c u2) (b567_m v2)⟩
  · rw [show rF σ1 85 2 = _ from u3, show rF σ1 85 3 = _ from u4]
  · rw [show rF τ1 0 25 = _ from v3, show rF τ1 0 26 = _ from v4]
theorem S_foretell {σ τ : cr_S} {a : Int32} (h : Inv σ τ) : Step σ τ (f_X10_foretell σ a) (f_X11_foretell τ a) := by
  have h0 := h
  obtain ⟨⟨np, ns, nu, nl, Ps, Ss, hm⟩, -⟩ := h
  obtain ⟨W, E, lc, lm⟩ := rM_lk hm
  unfold f_X10_foretell f_X11_foretell
  simp only [C_within, M_isSecond, Option.bind_some]
  cases q1 : inR a 0 9999
  · exact ⟨σ, τ, -1, by simp [bI], by simp [bI], h0⟩
  obtain ⟨t, ht, rfl⟩ := inR_m (n := 9999) (by omega) q1
  obtain ⟨σ1, u1, u2, u3, u4, u5⟩ := C_survey (t := t) (m := 1) (by omega) (by omega) lc
  obtain ⟨τ1, v1, v2, v3, v4, v5⟩ := M_fit (t := t) (by omega) lm
  have n10 : ¬ bI true = 0 := by decide
  have w : rA σ1 87 0 = nI (beO W E nl t 23 2) := by rw [n_0, rA_n (by omega)]; exact u5 0 (by omega)
  rw [← n_1] at u1
  rw [if_neg n10, if_neg n10, u1, v1]
  simp only [Option.bind_some]
  rw [show rF σ1 85 2 = _ from u3, show rF τ1 0 25 = _ from v3, show rF τ1 0 27 = _ from v5, w]
  have inv := Inv_same h0 (g85_c u2) (b567_m v2)
  by_cases z0 : nI (beS W E nl 23 2 (0, -4)).1 = 0
  · rw [if_pos z0, if_pos z0]
    exact ⟨σ1, τ1, -4, rfl, rfl, inv⟩
  · rw [if_neg z0, if_neg z0]
    simp only [cr_let]
    by_cases z1 : nI (beO W E nl t 23 2) = nI (beS W E nl 23 2 (0, -4)).1
    · rw [if_pos z1, if_pos z1]
      exact ⟨σ1, τ1, 1, rfl, rfl, inv⟩
    · rw [if_neg z1, if_neg z1]
      by_cases z2 : nI (beO W E nl t 23 2) = 0
      · rw [if_pos z2, if_pos z2]
        exact ⟨σ1, τ1, 0, rfl, rfl, inv⟩
      · rw [if_neg z2, if_neg z2]
        exact ⟨σ1, τ1, 2, rfl, rfl, inv⟩
def lfI (T : Nat) (O : Nat → Nat) (k : Nat) : Int32 := if nI (O k) < nI T - nI (O k) then nI T - nI (O k) else nI (O k)
theorem lf_m {T : Nat} {O : Nat → Nat} {k : Nat} : (if nI (O k) ≤ nI T - nI (O k) then nI T - nI (O k) else nI (O k)) = lfI T O k := by
  unfold lfI
  by_cases z : nI (O k) < nI T - nI (O k)
  · rw [if_pos z, if_pos (Int32.le_of_lt z)]
  · rw [if_neg z]
    by_cases y : nI (O k) ≤ nI T - nI (O k)
    · rw [if_pos y]
      exact Int32.le_antisymm (Int32.not_lt.mp z) y
    · rw [if_neg y]
theorem C_left {σ : cr_S} {T k : Nat} {O : Nat → Nat} (hk : k < 60) (h2 : σ.1 85 2 = nI T) (h7 : σ.2.1 87 k = nI (O k)) : f_X1_leftAtWorst_85 σ (nI k) = some (σ, lfI T O k) := by
  unfold f_X1_leftAtWorst_85 lfI
  rw [chk_i hk (by omega), chk_i hk (by omega), rA_n (by omega), h7, show rF σ 85 2 = nI T from h2]
theorem CM_nextL {σ : cr_S} {x2 : Int32} {t T nl : Nat} {W : Nat → Nat} {E : Nat → Bool} (ht : t ≤ 9999) (hT : ¬ nI T = 0) (eT : T = (beS W E nl 23 2 (0, -4)).1) (h2 : σ.1 85 2 = nI T) (h7 : ∀ j, j < 60 → σ.2.1 87 j = nI (beO W E nl (t + j) 23 2)) : ∀ (n f g k b : Nat) (τ : cr_S), k + n = 60 → n < f → n < g → b < 60 → lkM τ nl W E → ∃ τ' r, b567 τ τ' ∧ f_X10_next_L57 f σ (nI t) x2 (nI b) (nI k) = some (σ, r) ∧ f_X11_next_L29 g τ (nI t) x2 (nI (t + b)) (lfI T (fun j => beO W E nl (t + j) 23 2) b) (nI (t + k)) = some (τ', r)
  | 0, f + 1, g + 1, k, b, τ, hk, hf, hg, hb, hl => by
    refine ⟨τ, if x2 = 0 then nI (t + b) else lfI T (fun j => beO W E nl (t + j) 23 2) b, b567_r, ?_, ?_⟩
    · rw [f_X10_next_L57, n_60, if_pos (by rw [le_n (by omega) (by omega)]; omega)]
      unfold f_X10_next_B93
      rw [C_left (O := fun j => beO W E nl (t + j) 23 2) hb h2 (h7 b hb), nI_add]
      by_cases z : x2 = 0
      · rw [if_pos z, if_pos z]
      · rw [if_neg z, if_neg z]; rfl
    · rw [f_X11_next_L29, n_60, nI_add, if_pos (by rw [le_n (by omega) (by omega)]; omega)]
      rfl
  | n + 1, f + 1, g + 1, k, b, τ, hk, hf, hg, hb, hl => by
    obtain ⟨τ1, v1, v2, v3, v4, v5⟩ := M_fit (t := t + k) (by omega) hl
    rw [← eT] at v3
    obtain ⟨τ2, r, a1, a2, a3⟩ := CM_nextL (x2 := x2) ht hT eT h2 h7 n f g (k + 1) b τ1 (by omega) (by omega) (by omega) hb (b567_l v2 hl)
    obtain ⟨τ3, r', b1, b2, b3⟩ := CM_nextL (x2 := x2) ht hT eT h2 h7 n f g (k + 1) k τ1 (by omega) (by omega) (by omega) (by omega) (b567_l v2 hl)
    have mm : f_X11_next_L29 (g + 1) τ (nI t) x2 (nI (t + b)) (lfI T (fun j => beO W E nl (t + j) 23 2) b) (nI (t + k)) = f_X11_next_L29 g τ1 (nI t) x2 (if lfI T (fun j => beO W E nl (t + j) 23 2) b ≤ lfI T (fun j => beO W E nl (t + j) 23 2) k then nI (t + b) else nI (t + k)) (if lfI T (fun j => beO W E nl (t + j) 23 2) b ≤ lfI T (fun j => beO W E nl (t + j) 23 2) k then lfI T (fun j => beO W E nl (t + j) 23 2) b else lfI T (fun j => beO W E nl (t + j) 23 2) k) (nI (t + (k + 1))) := by
      rw [f_X11_next_L29, n_60, nI_add, if_neg (by rw [le_n (by omega) (by omega)]; omega), v1]
      simp only [Option.bind_some]
      rw [show rF τ1 0 25 = _ from v3, show rF τ1 0 27 = _ from v5, if_neg hT, lf_m (O := fun j => beO W E nl (t + j) 23 2) (k := k)]
      unfold f_X11_next_B86 f_X11_next_B101 f_X11_next_B116
      simp only [cr_let]
      rw [nI_1, Nat.add_assoc]
    have cc : f_X10_next_L57 (f + 1) σ (nI t) x2 (nI b) (nI k) = if lfI T (fun j => beO W E nl (t + j) 23 2) b ≤ lfI T (fun j => beO W E nl (t + j) 23 2) k then f_X10_next_L57 f σ (nI t) x2 (nI b) (nI (k + 1)) else f_X10_next_L57 f σ (nI t) x2 (nI k) (nI (k + 1)) := by
      rw [f_X10_next_L57, n_60, if_neg (by rw [le_n (by omega) (by omega)]; omega), C_left (O := fun j => beO W E nl (t + j) 23 2) (show k < 60 by omega) h2 (h7 k (by omega))]
      simp only [Option.bind_some]
      rw [C_left (O := fun j => beO W E nl (t + j) 23 2) hb h2 (h7 b hb)]
      simp only [Option.bind_some]
      unfold f_X10_next_B87
      simp only [cr_let]
      rw [nI_1]
    rw [cc, mm]
    by_cases z : lfI T (fun j => beO W E nl (t + j) 23 2) b ≤ lfI T (fun j => beO W E nl (t + j) 23 2) k
    · rw [if_pos z, if_pos z, if_pos z]
      exact ⟨τ2, r, b567_t v2 a1, a2, a3⟩
    · rw [if_neg z, if_neg z, if_neg z]
      exact ⟨τ3, r', b567_t v2 b1, b2, b3⟩
theorem lf_in {T k : Nat} {O : Nat → Nat} (h1 : T ≤ 20000) (h2 : O k ≤ 20000) : ¬ (999999 : Int32) ≤ lfI T O k := by
  unfold lfI
  have e : (999999 : Int32).toInt = 999999 := by decide
  by_cases z : nI (O k) < nI T - nI (O k)
  · rw [if_pos z, Int32.le_iff_toInt_le, pk_sub_toInt (by omega) (by omega), e]
    omega
  · rw [if_neg z, Int32.le_iff_toInt_le, nI_toInt (by omega), e]
    omega
theorem S_next {σ τ : cr_S} {a c : Int32} (h : Inv σ τ) : Step σ τ (f_X10_next σ a c) (f_X11_next τ a c) := by
  have h0 := h
  obtain ⟨⟨np, ns, nu, nl, Ps, Ss, hm⟩, -⟩ := h
  obtain ⟨W, E, lc, lm⟩ := rM_lk hm
  unfold f_X10_next f_X11_next
  simp only [C_within, M_isSecond, L_0, L_1, M_in, Option.bind_some]
  cases q1 : inR a 0 9999
  · exact ⟨σ, τ, -1, by simp [bI], by simp [bI], h0⟩
  cases q2 : inR c 0 1
  · exact ⟨σ, τ, -1, by simp [bI], by simp [bI], h0⟩
  obtain ⟨t, ht, rfl⟩ := inR_m (n := 9999) (by omega) q1
  obtain ⟨σ1, u1, u2, u3, u4, u5⟩ := C_survey (t := t) (m := 60) (by omega) (by omega) lc
  obtain ⟨τ1, v1, v2, v3, v4, v5⟩ := M_fit (t := t) (by omega) lm
  have n10 : ¬ bI true = 0 := by decide
  obtain ⟨F, hF⟩ : ∃ F, cr_fuel = F + 1 := ⟨4999, by rw [cr_fuel_v]⟩
  have hF2 : F = 4999 := by have := cr_fuel_v; omega
  rw [← n_60] at u1
  have inv := Inv_same h0 (g85_c u2) (b567_m v2)
  rw [if_neg n10, if_neg n10, if_neg n10, if_neg n10, u1]
  simp only [Option.bind_some]
  rw [show rF σ1 85 2 = _ from u3]
  have mm : f_X11_next_L29 cr_fuel τ (nI t) c (-4) 999999 (nI t) = if nI (beS W E nl 23 2 (0, -4)).1 = 0 then some (τ1, -4) else f_X11_next_B86 (f_X11_next_L29 F) τ1 (nI t) c (-4) 999999 (nI t) (lfI (beS W E nl 23 2 (0, -4)).1 (fun j => beO W E nl (t + j) 23 2) 0) := by
    rw [hF, f_X11_next_L29, n_60, nI_add, if_neg (show ¬ nI (t + 60) ≤ nI t by rw [le_n (by omega) (by omega)]; omega), v1]
    simp only [Option.bind_some]
    rw [show rF τ1 0 25 = _ from v3, show rF τ1 0 27 = _ from v5, ← lf_m (O := fun j => beO W E nl (t + j) 23 2) (k := 0)]
    rfl
  rw [mm]
  by_cases z0 : nI (beS W E nl 23 2 (0, -4)).1 = 0
  · rw [if_pos z0, if_pos z0]
    exact ⟨σ1, τ1, -4, rfl, rfl, inv⟩
  · rw [if_neg z0, if_neg z0]
    have bT := be_in (W := W) (E := E) (nl := nl) 23 2 (0, -4) (by omega)
    have bO := beO_in (W := W) (E := E) (nl := nl) (t := t) 23 2 (by omega)
    have nle := lf_in (T := (beS W E nl 23 2 (0, -4)).1) (k := 0) (O := fun j => beO W E nl (t + j) 23 2) (by simp at bT; omega) (by show beO W E nl (t + 0) 23 2 ≤ 20000; rw [Nat.add_zero]; omega)
    obtain ⟨τ2, r, a1, a2, a3⟩ := CM_nextL (x2 := c) (W := W) (E := E) (nl := nl) ht z0 rfl u3 u5 59 cr_fuel F 1 0 τ1 (by omega) (by rw [cr_fuel_v]; omega) (by omega) (by omega) (b567_l v2 lm)
    rw [← n_0, ← n_1] at a2
    refine ⟨σ1, τ2, r, a2, ?_, Inv_same inv cSame.rf (b567_m a1)⟩
    unfold f_X11_next_B86 f_X11_next_B101 f_X11_next_B116
    simp only [cr_let]
    rw [if_neg nle, if_neg nle, nI_1]
    rw [Nat.add_zero] at a3
    exact a3

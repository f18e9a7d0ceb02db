/-! to pass a pair -/
def shutN (op : Nat → Bool) : Nat → Nat → Nat
  | t, 0 => t
  | t, n + 1 => if op t then shutN op (t + 1) n else t
theorem shut_s (op : Nat → Bool) (t n : Nat) : shutN op t (n + 1) = if op t then shutN op (t + 1) n else t := rfl
theorem shut_in (op : Nat → Bool) : ∀ n t, t ≤ shutN op t n ∧ shutN op t n ≤ t + n
  | 0, t => ⟨Nat.le_refl _, Nat.le_refl _⟩
  | n + 1, t => by
    unfold shutN
    have h := shut_in op n (t + 1)
    split <;> omega
/-- how a pair is passed by a way of n seconds between from t on -/
def howN (op : Nat → Bool) (t n : Nat) : Nat := if shutN op t n = t + n then 0 else if shutN op t n + 1 = t + n then 1 else 2
def secN (op : Nat → Bool) (t n : Nat) : Nat := if shutN op t n + 1 < t + n then shutN op t n else t + n
theorem how_in (op : Nat → Bool) (t n : Nat) : howN op t n ≤ 2 := by
  unfold howN
  split
  · omega
  · split <;> omega
theorem C_shutL {σ : cr_S} {o ph : Nat} {P : Nat → Nat} (hP : cP σ o P) (hph : ph < 1000) : ∀ (n f t : Nat), n < f → t + n < 400000 → f_X3_firstShut_L3 f σ o (nI (t + n)) (nI ph) (nI t) = some (σ, nI (shutN (fun u => openN P u ph) t n))
  | 0, f + 1, t, _, h => by
    rw [f_X3_firstShut_L3]
    simp (disch := omega) only [le_n, if_pos, Nat.add_zero, shutN]
  | n + 1, f + 1, t, hf, h => by
    rw [f_X3_firstShut_L3]
    simp (disch := omega) only [le_n, if_neg, C_isOpenAt hP (t := t) (by omega) hph, Option.bind_some, chk_t hP.1, cr_let, n_1, nI_add]
    have ih := C_shutL hP hph n f (t + 1) (by omega) (by omega)
    rw [show t + 1 + n = t + (n + 1) by omega] at ih
    rw [ih, shut_s]
    cases openN P t ph <;> simp [bI]
theorem C_firstShut {σ : cr_S} {o ph t n : Nat} {P : Nat → Nat} (hP : cP σ o P) (hph : ph < 1000) (hn : n < 4000) (ht : t + n < 400000) : f_X3_firstShut σ o (nI t) (nI (t + n)) (nI ph) = some (σ, nI (shutN (fun u => openN P u ph) t n)) := by
  unfold f_X3_firstShut
  exact C_shutL hP hph n cr_fuel t (by rw [cr_fuel_v]; omega) ht
theorem C_goBetween {σ : cr_S} {o q t pace : Nat} {P S : Nat → Nat} (hP : cP σ o P) (hS : cS σ q S) (ho : o ≠ 70) (hq : q ≠ 70) (ht : t < 100000) (h1 : 1 ≤ pace) (h2 : pace ≤ 5) :
    ∃ σ', f_X0_goBetween_70 σ o q (nI t) (nI pace) = some (σ', nI (howN (fun u => openN P u (P 4)) (t + cu (P 1) pace) (cu (spN S) pace))) ∧ σ' = sF σ 70 5 (nI (secN (fun u => openN P u (P 4)) (t + cu (P 1) pace) (cu (spN S) pace))) := by
  have hv := hP.2.1
  obtain ⟨o0, o1, o2, o3, o4, o5, o6, o7⟩ := hP.2.2
  have v1 := hv 1 (by omega)
  have v4 := hv 4 (by omega)
  have c1 := cu_in (a := P 1) (b := pace) o1 h1
  have hs := sp_in hS.2.2
  have c2 := cu_in (a := spN S) (b := pace) hs.1 h1
  have hsh := shut_in (fun u => openN P u (P 4)) (cu (spN S) pace) (t + cu (P 1) pace)
  unfold f_X0_goBetween_70
  simp (disch := omega) only [chk_t hP.1, rF, v1, v4, C_secondsFor, Option.bind_some, cr_let, C_span hS, chk_t hS.1, nI_add, C_firstShut hP, n_1, sub_n, le_n, eq_n]
  unfold howN secN
  generalize shutN (fun u => openN P u (P 4)) (t + cu (P 1) pace) (cu (spN S) pace) = sh at hsh ⊢
  generalize t + cu (P 1) pace + cu (spN S) pace = en at hsh ⊢
  by_cases z : en - 1 ≤ sh
  · rw [if_pos z, if_neg (show ¬ sh + 1 < en by omega)]
    refine ⟨_, ?_, rfl⟩
    by_cases y : sh = en
    · rw [if_pos y, if_pos y]; rfl
    · rw [if_neg y, if_neg y, if_pos (show sh + 1 = en by omega)]
  · rw [if_neg z, if_pos (show sh + 1 < en by omega), if_neg (show ¬ sh = en by omega), if_neg (show ¬ sh + 1 = en by omega)]
    exact ⟨_, rfl, rfl⟩
theorem M_passL {p ph : Nat} {P : Nat → Nat} (hph : ph < 1000) : ∀ (n f t : Nat) (τ : cr_S), mP τ p P → n + 1 < f → t + n < 400000 → τ.1 0 6 = 0 → τ.1 0 7 = nI (t + n) →
    ∃ τ', f_X11_passes_L50 f τ (nI p) (nI ph) (nI (t + n)) (nI t) = some τ' ∧ τ'.2 = τ.2 ∧ (∀ k, k ≠ 6 → k ≠ 7 → τ'.1 0 k = τ.1 0 k) ∧ τ'.1 0 6 = nI (howN (fun u => openN P u ph) t n) ∧ τ'.1 0 7 = nI (secN (fun u => openN P u ph) t n)
  | 0, f + 1, t, τ, hP, _, h, h6, h7 => by
    rw [f_X11_passes_L50]
    simp (disch := omega) only [le_n, if_pos, Nat.add_zero]
    exact ⟨τ, rfl, rfl, fun _ _ _ => rfl, by rw [h6]; simp [howN, shutN, n_0], by rw [h7]; simp [secN, shutN, show ¬ t + 1 < t by omega]⟩
  | n + 1, f + 2, t, τ, hP, hf, h, h6, h7 => by
    rw [f_X11_passes_L50]
    simp (disch := omega) only [le_n, if_neg, rF, h6, M_isOpen hP (t := t) (by omega) hph, Option.bind_some]
    cases hb : openN P t ph
    · simp only [bI_f, if_true, f_X11_passes_B90, f_X11_passes_B109, f_X11_passes_B112, cr_let]
      have e1 : (if nI t = nI (t + (n + 1)) - 1 then (1 : Int32) else 2) = nI (howN (fun u => openN P u ph) t (n + 1)) := by
        unfold howN
        simp (disch := omega) only [shutN, hb, n_1, n_2, sub_n, eq_n]
        by_cases z : n = 0
        · subst z; simp
        · simp [z]
      rw [e1]
      have e2 : (if rF (sF τ 0 6 (nI (howN (fun u => openN P u ph) t (n + 1)))) 0 6 = 2 then nI t else nI (t + (n + 1))) = nI (secN (fun u => openN P u ph) t (n + 1)) := by
        unfold howN secN
        simp (disch := omega) only [rF, sF_1, shutN, hb, n_2]
        by_cases z : n = 0
        · subst z; simp (disch := omega) [eq_n]
        · simp (disch := omega) [z, eq_n, Nat.pos_of_ne_zero z]
      rw [e2, f_X11_passes_L50]
      refine ⟨sF (sF τ 0 6 (nI (howN (fun u => openN P u ph) t (n + 1)))) 0 7 (nI (secN (fun u => openN P u ph) t (n + 1))), ?_, rfl, fun k k6 k7 => by simp [sF_1, k6, k7], by simp [sF_1], by simp [sF_1]⟩
      have e3 : ¬ rF (sF (sF τ 0 6 (nI (howN (fun u => openN P u ph) t (n + 1)))) 0 7 (nI (secN (fun u => openN P u ph) t (n + 1)))) 0 6 = 0 := by
        simp only [rF, sF_1]
        unfold howN
        simp (disch := omega) [shutN, hb, n_0]
        by_cases z : n = 0
        · subst z; simp (disch := omega) [eq_n]
        · simp (disch := omega) [z, eq_n]
      simp [e3]
    · simp only [bI_t, f_X11_passes_B112, cr_let, n_1, nI_add]
      obtain ⟨τ', q1, q2, q3, q4, q5⟩ := M_passL hph n (f + 1) (t + 1) τ hP (by omega) (by omega) h6 (by rw [h7]; congr 1; omega)
      rw [show t + 1 + n = t + (n + 1) by omega] at q1
      refine ⟨τ', by simpa (disch := omega) [eq_n, n_0] using q1, q2, q3, ?_, ?_⟩
      · rw [q4]
        congr 1
        unfold howN
        simp only [shutN, hb, if_true]
        rw [show t + 1 + n = t + (n + 1) by omega]
      · rw [q5]
        congr 1
        unfold secN
        simp only [shutN, hb, if_true]
        rw [show t + 1 + n = t + (n + 1) by omega]
theorem M_passes {τ : cr_S} {p s ph t pace : Nat} {P S : Nat → Nat} (hP : mP τ p P) (hS : mS τ s S) (hph : ph < 1000) (ht : t < 100000) (h1 : 1 ≤ pace) (h2 : pace ≤ 5) :
    ∃ τ', f_X11_passes τ (nI s) (nI p) (nI ph) (nI t) (nI pace) = some τ' ∧ τ'.2 = τ.2 ∧ (∀ k, k ≠ 6 → k ≠ 7 → τ'.1 0 k = τ.1 0 k) ∧ τ'.1 0 6 = nI (howN (fun u => openN P u ph) (t + cu (P 1) pace) (cu (spN S) pace)) ∧ τ'.1 0 7 = nI (secN (fun u => openN P u ph) (t + cu (P 1) pace) (cu (spN S) pace)) := by
  have hv := hP.2.1
  have hp := hP.1
  obtain ⟨o0, o1, o2, o3, o4, o5, o6, o7⟩ := hP.2.2
  have v1 := hv 1 (by omega)
  have c1 := cu_in (a := P 1) (b := pace) o1 h1
  have hs := sp_in hS.2.2
  have c2 := cu_in (a := spN S) (b := pace) hs.1 h1
  unfold f_X11_passes
  simp (disch := omega) only [n_5, n_1, pk_mul, nI_add, chk_i, rA_n, v1, M_upwards, Option.bind_some, cr_let, M_span hS]
  obtain ⟨τ', q1, q2, q3, q4, q5⟩ := M_passL (p := p) (P := P) hph (cu (spN S) pace) cr_fuel (t + cu (P 1) pace) (sF (sF τ 0 6 0) 0 7 (nI (t + cu (P 1) pace + cu (spN S) pace))) hP (by rw [cr_fuel_v]; omega) (by omega) (by simp [sF_1]) (by simp [sF_1])
  exact ⟨τ', q1, q2, fun k k6 k7 => by rw [q3 k k6 k7]; simp [sF_1, k6, k7], q4, q5⟩

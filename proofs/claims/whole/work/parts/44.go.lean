/-! a passage -/
def hwN (Ps : Nat → Nat → Nat) (S : Nat → Nat) (pc : Nat → Nat) (k t : Nat) : Nat := howN (fun u => openN (Ps k) u (Ps k 4)) (t + cu (Ps k 1) (pc k)) (cu (spN S) (pc k))
def scN (Ps : Nat → Nat → Nat) (S : Nat → Nat) (pc : Nat → Nat) (k t : Nat) : Nat := secN (fun u => openN (Ps k) u (Ps k 4)) (t + cu (Ps k 1) (pc k)) (cu (spN S) (pc k))
def bitI (h k : Nat) : Int32 := if h = 1 then 1 <<< (nI k &&& 31) else 0
def goN (hw sc : Nat → Nat → Nat) : Nat → Nat → Nat → Int32 → Int32 × Int32 × Nat
  | 0, _, t, r => (-4, r, t)
  | n + 1, k, t, r => if hw k t = 2 then (nI k, r ||| bitI (hw k t) k, sc k t) else goN hw sc n (k + 1) (sc k t) (r ||| bitI (hw k t) k)
theorem go_s (hw sc : Nat → Nat → Nat) (n k t : Nat) (r : Int32) : goN hw sc (n + 1) k t r = if hw k t = 2 then (nI k, r ||| bitI (hw k t) k, sc k t) else goN hw sc n (k + 1) (sc k t) (r ||| bitI (hw k t) k) := rfl
theorem sec_in (op : Nat → Bool) (t n : Nat) : t ≤ secN op t n ∧ secN op t n ≤ t + n := by
  have := shut_in op n t
  unfold secN
  split <;> omega
def cStr (σ : cr_S) (np : Nat) (Ps : Nat → Nat → Nat) : Prop := σ.1 1 5 = nI np ∧ np ≤ 6 ∧ ∀ k, k < np → cP σ (9 + k) (Ps k)
def mStr (τ : cr_S) (np : Nat) (Ps : Nat → Nat → Nat) : Prop := τ.1 0 0 = nI np ∧ np ≤ 6 ∧ ∀ k, k < np → mP τ k (Ps k)
theorem cP_of {σ σ' : cr_S} {o : Nat} {P : Nat → Nat} (h : cP σ o P) (e : ∀ j, j < 5 → σ'.1 o j = σ.1 o j) : cP σ' o P := ⟨h.1, fun j hj => by rw [e j hj]; exact h.2.1 j hj, h.2.2⟩
theorem cS_of {σ σ' : cr_S} {o : Nat} {S : Nat → Nat} (h : cS σ o S) (e : ∀ j, j < 3 → σ'.1 o j = σ.1 o j) : cS σ' o S := ⟨h.1, fun j hj => by rw [e j hj]; exact h.2.1 j hj, h.2.2⟩
theorem mP_of {τ τ' : cr_S} {p : Nat} {P : Nat → Nat} (h : mP τ p P) (e : τ'.2.1 1 = τ.2.1 1) : mP τ' p P := ⟨h.1, fun j hj => by rw [e]; exact h.2.1 j hj, h.2.2⟩
theorem mS_of {τ τ' : cr_S} {p : Nat} {S : Nat → Nat} (h : mS τ p S) (e : τ'.2.1 2 = τ.2.1 2) : mS τ' p S := ⟨h.1, fun j hj => by rw [e]; exact h.2.1 j hj, h.2.2⟩
theorem m4_ne (n : Nat) (h : n < 1000000) : ¬ nI n = (-4) := by
  intro q
  have := congrArg Int32.toInt q
  rw [nI_toInt (by omega)] at this
  have e : (-4 : Int32).toInt = -4 := rfl
  omega
theorem C_goL {q np : Nat} {Ps : Nat → Nat → Nat} {S pc : Nat → Nat} (hq : q ≠ 70) (hpc : ∀ k, k < np → 1 ≤ pc k ∧ pc k ≤ 5) : ∀ (n f k t : Nat) (r : Int32) (σ : cr_S), k + n = np → n + 1 < f → t + 41 * n < 90000 → cStr σ np Ps → cS σ q S → (∀ j, j < np → σ.2.1 71 j = nI (pc j)) → σ.1 70 3 = -4 → σ.1 70 4 = r → σ.1 70 5 = nI t →
    ∃ σ', f_X0_go_70_1_L19 f σ q (nI k) = some σ' ∧ σ'.2 = σ.2 ∧ (∀ o j, o ≠ 70 → σ'.1 o j = σ.1 o j) ∧ σ'.1 70 3 = (goN (hwN Ps S pc) (scN Ps S pc) n k t r).1 ∧ σ'.1 70 4 = (goN (hwN Ps S pc) (scN Ps S pc) n k t r).2.1 ∧ σ'.1 70 5 = nI (goN (hwN Ps S pc) (scN Ps S pc) n k t r).2.2
  | 0, f + 1, k, t, r, σ, hk, _, _, hC, hS, hp, h3, h4, h5 => by
    rw [f_X0_go_70_1_L19]
    have := hC.2.1
    simp (disch := omega) only [rF, hC.1, le_n, if_pos]
    exact ⟨σ, rfl, rfl, fun _ _ _ => rfl, h3, h4, h5⟩
  | n + 1, f + 2, k, t, r, σ, hk, hf, ht, hC, hS, hp, h3, h4, h5 => by
    have hnp := hC.2.1
    have hP := hC.2.2 k (by omega)
    have hkp := hpc k (by omega)
    obtain ⟨σ1, g1, g2⟩ := C_goBetween (t := t) (pace := pc k) hP hS (by omega) hq (by omega) hkp.1 hkp.2
    rw [f_X0_go_70_1_L19]
    have hw2 := how_in (fun u => openN (Ps k) u (Ps k 4)) (t + cu (Ps k 1) (pc k)) (cu (spN S) (pc k))
    simp (disch := omega) only [rF, hC.1, le_n, if_neg, h3, if_true, chk_i, nI_clamp, h5, rA_n, hp k, g1, Option.bind_some, cr_let]
    change _ = some (σ1, nI (hwN Ps S pc k t)) at g1
    change σ1 = sF σ 70 5 (nI (scN Ps S pc k t)) at g2
    change hwN Ps S pc k t ≤ 2 at hw2
    rw [show howN (fun u => openN (Ps k) u (Ps k 4)) (t + cu (Ps k 1) (pc k)) (cu (spN S) (pc k)) = hwN Ps S pc k t from rfl]
    have e1 : (if nI (hwN Ps S pc k t) = 1 then (1 : Int32) <<< (nI k &&& 31) else 0) = bitI (hwN Ps S pc k t) k := by
      unfold bitI
      simp (disch := omega) only [n_1, eq_n]
    have e2 : (if nI (hwN Ps S pc k t) = 2 then nI k else (-4)) = if hwN Ps S pc k t = 2 then nI k else (-4) := by
      simp (disch := omega) only [n_2, eq_n]
    have hsc : scN Ps S pc k t ≤ t + 41 := by
      have a1 := sec_in (fun u => openN (Ps k) u (Ps k 4)) (t + cu (Ps k 1) (pc k)) (cu (spN S) (pc k))
      have a2 := cu_in (a := Ps k 1) (b := pc k) hP.2.2.2.1 hkp.1
      have a3 := sp_in hS.2.2
      have a4 := cu_in (a := spN S) (b := pc k) a3.1 hkp.1
      have a5 := hP.2.2.2.2.1
      unfold scN
      omega
    rw [e1]
    simp only [f_X0_go_70_1_B81, f_X0_go_70_1_B99, cr_let]
    rw [e2, go_s]
    have f4 : σ1.1 70 4 = r := by rw [g2]; simp [sF_1, h4]
    rw [f4]
    subst g2
    by_cases z : hwN Ps S pc k t = 2
    · rw [if_pos z, if_pos z]
      refine ⟨sF (sF (sF σ 70 5 (nI (scN Ps S pc k t))) 70 4 (r ||| bitI (hwN Ps S pc k t) k)) 70 3 (nI k), ?_, rfl, fun o j ho => by simp [sF_1, ho], by simp [sF_1], by simp [sF_1], by simp [sF_1]⟩
      rw [f_X0_go_70_1_L19]
      have e9 := m4_ne k (by omega)
      simp [rF, sF_1, e9]
    · rw [if_neg z, if_neg z, n_1, nI_add]
      obtain ⟨σ', q1, q2, q3, q4, q5, q6⟩ := C_goL hq hpc n (f + 1) (k + 1) (scN Ps S pc k t) (r ||| bitI (hwN Ps S pc k t) k) (sF (sF (sF σ 70 5 (nI (scN Ps S pc k t))) 70 4 (r ||| bitI (hwN Ps S pc k t) k)) 70 3 (-4)) (by omega) (by omega) (by omega)
        ⟨by simp [sF_1, hC.1], hnp, fun j hj => cP_of (hC.2.2 j hj) (fun i hi => by simp [sF_1, show ¬ 9 + j = 70 by omega])⟩ (cS_of hS (fun i hi => by simp [sF_1, hq])) hp (by simp [sF_1]) (by simp [sF_1]) (by simp [sF_1])
      exact ⟨σ', q1, q2, fun o j ho => by rw [q3 o j ho]; simp [sF_1, ho], q4, q5, q6⟩

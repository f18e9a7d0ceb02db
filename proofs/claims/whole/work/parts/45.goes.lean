theorem M_goL {s np : Nat} {Ps : Nat → Nat → Nat} {S pc : Nat → Nat} (hpc : ∀ k, k < np → 1 ≤ pc k ∧ pc k ≤ 5) : ∀ (n f k t : Nat) (r : Int32) (τ : cr_S), k + n = np → n + 1 < f → t + 41 * n < 90000 → mStr τ np Ps → mS τ s S → (∀ j, j < np → τ.2.1 4 j = nI (pc j)) → τ.1 0 8 = -4 → τ.1 0 9 = r → τ.1 0 7 = nI t →
    ∃ τ', f_X11_goes_L18 f τ (nI s) (nI k) = some τ' ∧ τ'.2 = τ.2 ∧ (∀ j, j ≠ 6 → j ≠ 7 → j ≠ 8 → j ≠ 9 → τ'.1 0 j = τ.1 0 j) ∧ τ'.1 0 8 = (goN (hwN Ps S pc) (scN Ps S pc) n k t r).1 ∧ τ'.1 0 9 = (goN (hwN Ps S pc) (scN Ps S pc) n k t r).2.1 ∧ τ'.1 0 7 = nI (goN (hwN Ps S pc) (scN Ps S pc) n k t r).2.2
  | 0, f + 1, k, t, r, τ, hk, _, _, hC, hS, hp, h3, h4, h5 => by
    rw [f_X11_goes_L18]
    have := hC.2.1
    simp (disch := omega) only [rF, hC.1, le_n, if_pos]
    exact ⟨τ, rfl, rfl, fun _ _ _ _ _ => rfl, h3, h4, h5⟩
  | n + 1, f + 2, k, t, r, τ, hk, hf, ht, hC, hS, hp, h3, h4, h5 => by
    have hnp := hC.2.1
    have hP := hC.2.2 k (by omega)
    have hkp := hpc k (by omega)
    have hph : Ps k 4 < 1000 := by
      have a1 := hP.2.2.2.2.2.2.2.2.2
      have a2 := hP.2.2.2.2.2.2.1
      omega
    have v4 := hP.2.1 4 (by omega)
    obtain ⟨τ1, g1, g2, g3, g4, g5⟩ := M_passes (t := t) (pace := pc k) (ph := Ps k 4) hP hS hph (by omega) hkp.1 hkp.2
    rw [f_X11_goes_L18]
    have hw2 := how_in (fun u => openN (Ps k) u (Ps k 4)) (t + cu (Ps k 1) (pc k)) (cu (spN S) (pc k))
    simp (disch := omega) only [rF, hC.1, le_n, if_neg, h3, if_true, n_5, n_4, pk_mul, nI_add, chk_i, h5, rA_n, v4, hp k]
    rw [← n_4, g1]
    simp only [Option.bind_some]
    change τ1.1 0 6 = nI (hwN Ps S pc k t) at g4
    change τ1.1 0 7 = nI (scN Ps S pc k t) at g5
    change hwN Ps S pc k t ≤ 2 at hw2
    have e1 : (if nI (hwN Ps S pc k t) = 1 then (1 : Int32) <<< (nI k &&& 31) else 0) = bitI (hwN Ps S pc k t) k := by
      unfold bitI
      simp (disch := omega) only [n_1, eq_n]
    have e2 : (if nI (hwN Ps S pc k t) = 2 then nI k else (-4)) = if hwN Ps S pc k t = 2 then nI k else (-4) := by
      simp (disch := omega) only [n_2, eq_n]
    have hsc : scN Ps S pc k t ≤ t + 41 := by
      have a1 := sec_in (fun u => openN (Ps k) u (Ps k 4)) (t + cu (Ps k 1) (pc k)) (cu (spN S) (pc k))
      have a2 := cu_in (a := Ps k 1) (b := pc k) hP.2.2.2.1 hkp.1
      have a3 := sp_in hS.2.2
      have a4 := cu_in (a := spN S) (b := pc k) a3.1 hkp.1
      have a5 := hP.2.2.2.2.1
      unfold scN
      omega
    rw [g4, e2]
    simp only [f_X11_goes_B76, f_X11_goes_B99, cr_let, rF, sF_1]
    have f9 : τ1.1 0 9 = r := by rw [g3 9 (by omega) (by omega), h4]
    have f6 : (if True ∧ 6 = 8 then (if hwN Ps S pc k t = 2 then nI k else (-4)) else τ1.1 0 6) = nI (hwN Ps S pc k t) := by rw [if_neg (by simp), g4]
    have f9' : (if True ∧ 9 = 8 then (if hwN Ps S pc k t = 2 then nI k else (-4)) else τ1.1 0 9) = r := by rw [if_neg (by simp), f9]
    rw [f6, f9', e1, go_s]
    by_cases z : hwN Ps S pc k t = 2
    · rw [if_pos z, if_pos z]
      refine ⟨sF (sF τ1 0 8 (nI k)) 0 9 (r ||| bitI (hwN Ps S pc k t) k), ?_, by rw [sF_2, sF_2, g2], fun j j6 j7 j8 j9 => by simp [sF_1, j8, j9, g3 j j6 j7], by simp [sF_1], by simp [sF_1], by simp [sF_1, g5]⟩
      rw [f_X11_goes_L18]
      have e9 := m4_ne k (by omega)
      simp [rF, sF_1, e9]
    · rw [if_neg z, if_neg z, n_1, nI_add]
      obtain ⟨τ', q1, q2, q3, q4, q5, q6⟩ := M_goL hpc n (f + 1) (k + 1) (scN Ps S pc k t) (r ||| bitI (hwN Ps S pc k t) k) (sF (sF τ1 0 8 (-4)) 0 9 (r ||| bitI (hwN Ps S pc k t) k)) (by omega) (by omega) (by omega)
        ⟨by simp [sF_1, g3, hC.1], hnp, fun j hj => mP_of (hC.2.2 j hj) (by rw [sF_2, sF_2, g2])⟩ (mS_of hS (by rw [sF_2, sF_2, g2])) (fun j hj => by rw [sF_2, sF_2, g2]; exact hp j hj) (by simp [sF_1]) (by simp [sF_1]) (by simp [sF_1, g5])
      refine ⟨τ', q1, by rw [q2, sF_2, sF_2, g2], fun j j6 j7 j8 j9 => by rw [q3 j j6 j7 j8 j9]; simp [sF_1, j8, j9, g3 j j6 j7], q4, q5, q6⟩
/-- what a passage of np pairs from t on comes to -/
def goR (Ps : Nat → Nat → Nat) (S pc : Nat → Nat) (np t : Nat) : Int32 × Int32 × Nat := goN (hwN Ps S pc) (scN Ps S pc) np 0 t 0
theorem C_go {σ : cr_S} {q np t : Nat} {Ps : Nat → Nat → Nat} {S pc : Nat → Nat} (hC : cStr σ np Ps) (hS : cS σ q S) (hq : q ≠ 70) (hpc : ∀ k, k < np → 1 ≤ pc k ∧ pc k ≤ 5) (hp : ∀ j, j < np → σ.2.1 71 j = nI (pc j)) (ht : t < 80000) :
    ∃ σ', f_X0_go_70_1 σ q (nI t) = some σ' ∧ σ'.2 = σ.2 ∧ (∀ o j, o ≠ 70 → σ'.1 o j = σ.1 o j) ∧ σ'.1 70 3 = (goR Ps S pc np t).1 ∧ σ'.1 70 4 = (goR Ps S pc np t).2.1 ∧ σ'.1 70 5 = nI (goR Ps S pc np t).2.2 := by
  have hnp := hC.2.1
  unfold f_X0_go_70_1
  simp only [cr_let]
  rw [n_0]
  obtain ⟨σ', q1, q2, q3, q4⟩ := C_goL (t := t) hq hpc np cr_fuel 0 0 (sF (sF (sF σ 70 3 (-4)) 70 4 (nI 0)) 70 5 (nI t)) (by omega) (by rw [cr_fuel_v]; omega) (by omega) ⟨by simp [sF_1, hC.1], hnp, fun j hj => cP_of (hC.2.2 j hj) (fun i hi => by simp [sF_1, show ¬ 9 + j = 70 by omega])⟩ (cS_of hS (fun i hi => by simp [sF_1, hq])) hp (by simp [sF_1]) (by simp [sF_1, n_0]) (by simp [sF_1])
  exact ⟨σ', q1, q2, fun o j ho => by rw [q3 o j ho]; simp [sF_1, ho], q4⟩
theorem M_goes {τ : cr_S} {s np t : Nat} {Ps : Nat → Nat → Nat} {S pc : Nat → Nat} (hC : mStr τ np Ps) (hS : mS τ s S) (hpc : ∀ k, k < np → 1 ≤ pc k ∧ pc k ≤ 5) (hp : ∀ j, j < np → τ.2.1 4 j = nI (pc j)) (ht : t < 80000) :
    ∃ τ', f_X11_goes τ (nI s) (nI t) = some τ' ∧ τ'.2 = τ.2 ∧ (∀ j, j ≠ 6 → j ≠ 7 → j ≠ 8 → j ≠ 9 → τ'.1 0 j = τ.1 0 j) ∧ τ'.1 0 8 = (goR Ps S pc np t).1 ∧ τ'.1 0 9 = (goR Ps S pc np t).2.1 ∧ τ'.1 0 7 = nI (goR Ps S pc np t).2.2 := by
  have hnp := hC.2.1
  unfold f_X11_goes
  simp only [cr_let]
  rw [n_0]
  obtain ⟨τ', q1, q2, q3, q4⟩ := M_goL (t := t) hpc np cr_fuel 0 0 (sF (sF (sF τ 0 8 (-4)) 0 9 (nI 0)) 0 7 (nI t)) (by omega) (by rw [cr_fuel_v]; omega) (by omega) ⟨by simp [sF_1, hC.1], hnp, fun j hj => mP_of (hC.2.2 j hj) rfl⟩ (mS_of hS rfl) hp (by simp [sF_1]) (by simp [sF_1, n_0]) (by simp [sF_1])
  exact ⟨τ', q1, q2, fun j j6 j7 j8 j9 => by rw [q3 j j6 j7 j8 j9]; simp [sF_1, j7, j8, j9], q4⟩

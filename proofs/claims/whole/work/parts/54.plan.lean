/-! a plan of a full one -/
def tN (Ps : Nat → Nat → Nat) (S : Nat → Nat) (t : Nat) : Nat → Nat
  | 0 => t
  | k + 1 => tN Ps S t k + cu (Ps k 1) (hiN S) + cu (spN S) (hiN S)
def thN (Ps : Nat → Nat → Nat) (S : Nat → Nat) (t k ph : Nat) : Bool := decide (shutN (fun u => openN (Ps k) u ph) (tN Ps S t k + cu (Ps k 1) (hiN S)) (cu (spN S) (hiN S)) = tN Ps S t k + cu (Ps k 1) (hiN S) + cu (spN S) (hiN S))
theorem tN_in {Ps : Nat → Nat → Nat} {S : Nat → Nat} {np t : Nat} (hP : ∀ k, k < np → okP (Ps k)) (hS : okS S) : ∀ k, k ≤ np → t ≤ tN Ps S t k ∧ tN Ps S t k ≤ t + 41 * k
  | 0, _ => ⟨Nat.le_refl _, Nat.le_refl _⟩
  | k + 1, h => by
    have ih := tN_in (t := t) hP hS k (by omega)
    have hh := hi_in hS
    have a1 := hP k (by omega)
    have a2 := cu_in (a := Ps k 1) (b := hiN S) a1.2.1 hh.1
    have a3 := sp_in hS
    have a4 := cu_in (a := spN S) (b := hiN S) a3.1 hh.1
    have a5 := a1.2.2.1
    simp only [tN]
    omega
def cPlan (σ : cr_S) (Ps : Nat → Nat → Nat) (S : Nat → Nat) (np t : Nat) : Prop := ∀ k, k < np → σ.2.1 72 k = nI (tN Ps S t k + cu (Ps k 1) (hiN S)) ∧ σ.2.1 73 k = nI (tN Ps S t (k + 1))
theorem C_planL {q np t : Nat} {Ps : Nat → Nat → Nat} {S : Nat → Nat} (ht : t < 80000) : ∀ (n f i : Nat) (σ : cr_S), i + n = np → n < f → cStr σ np Ps → cS σ q S → ∃ σ', f_X0_planFull_70_1_L6 f σ q (nI (tN Ps S t i)) (nI i) = some σ' ∧ σ'.1 = σ.1 ∧ σ'.2.2 = σ.2.2 ∧ (∀ o, o ≠ 72 → o ≠ 73 → σ'.2.1 o = σ.2.1 o) ∧ (∀ j, j < i → σ'.2.1 72 j = σ.2.1 72 j ∧ σ'.2.1 73 j = σ.2.1 73 j) ∧ ∀ k, i ≤ k → k < np → σ'.2.1 72 k = nI (tN Ps S t k + cu (Ps k 1) (hiN S)) ∧ σ'.2.1 73 k = nI (tN Ps S t (k + 1))
  | 0, f + 1, i, σ, hi, hf, hC, hS => by
    have hnp := hC.2.1
    refine ⟨σ, ?_, rfl, rfl, fun _ _ _ => rfl, fun _ _ => ⟨rfl, rfl⟩, fun j q1 q2 => absurd q1 (by omega)⟩
    rw [f_X0_planFull_70_1_L6]
    simp (disch := omega) only [rF, hC.1, le_n, if_pos]
  | n + 1, f + 1, i, σ, hi, hf, hC, hS => by
    have hnp := hC.2.1
    have hP := hC.2.2 i (by omega)
    have hh := hi_in hS.2.2
    have hs := sp_in hS.2.2
    have htn := tN_in (t := t) (np := np) (fun k hk => (hC.2.2 k hk).2.2) hS.2.2 i (by omega)
    have v1 := hP.2.1 1 (by omega)
    have b1 := hP.2.2.2.1
    have b2 := hP.2.2.2.2.1
    have c1 := cu_in (a := Ps i 1) (b := hiN S) b1 hh.1
    have c2 := cu_in (a := spN S) (b := hiN S) hs.1 hh.1
    have hS1 : ∀ v : Int32, cS (sA σ 72 (nI i) v) q S := fun v => cS_of hS (fun _ _ => rfl)
    obtain ⟨σ2, u1, u2, u3, u4, u5, u6⟩ := C_planL (q := q) (np := np) (t := t) (Ps := Ps) (S := S) ht n f (i + 1) (sA (sA σ 72 (nI i) (nI (tN Ps S t i + cu (Ps i 1) (hiN S)))) 73 (nI i) (nI (tN Ps S t (i + 1)))) (by omega) (by omega) ⟨hC.1, hnp, fun k hk => cP_of (hC.2.2 k hk) (fun _ _ => rfl)⟩ (cS_of hS (fun _ _ => rfl))
    refine ⟨σ2, ?_, u2, u3, fun o h1 h2 => by rw [u4 o h1 h2, sA_o h2, sA_o h1], fun j hj => ?_, fun k q1 q2 => ?_⟩
    · rw [f_X0_planFull_70_1_L6]
      simp (disch := omega) only [rF, hC.1, le_n, if_neg, chk_i, nI_clamp, chk_t hP.1, C_high hS, Option.bind_some, chk_t hS.1, v1, C_secondsFor, cr_let, nI_add, C_span (hS1 _), C_high (hS1 _), rA_n, sA_s, n_1]
      exact u1
    · have w := u5 j (by omega)
      rw [sA_o (by omega), sA_k (by omega) (by omega), sA_k (by omega) (by omega), sA_o (by omega)] at w
      exact w
    · by_cases e : k = i
      · subst e
        have w := u5 k (by omega)
        rw [sA_o (by omega), sA_s (by omega), sA_s (by omega)] at w
        exact w
      · exact u6 k (by omega) q2
theorem C_planFull {σ : cr_S} {q np t : Nat} {Ps : Nat → Nat → Nat} {S : Nat → Nat} (hC : cStr σ np Ps) (hS : cS σ q S) (ht : t < 80000) : ∃ σ', f_X0_planFull_70_1 σ q (nI t) = some σ' ∧ σ'.1 = σ.1 ∧ cSame σ σ' ∧ cPlan σ' Ps S np t := by
  have hnp := hC.2.1
  obtain ⟨σ2, u1, u2, u3, u4, -, u6⟩ := C_planL (q := q) (np := np) (t := t) (Ps := Ps) (S := S) ht np cr_fuel 0 σ (by omega) (by rw [cr_fuel_v]; omega) hC hS
  refine ⟨σ2, ?_, u2, ⟨fun o j _ => by rw [u2], fun o j ho => by rw [u4 o (by omega) (by omega)], u3⟩, fun k hk => u6 k (by omega) hk⟩
  unfold f_X0_planFull_70_1
  rw [n_0]
  exact u1
theorem C_throughBy {σ : cr_S} {k np t ph : Nat} {Ps : Nat → Nat → Nat} {S : Nat → Nat} (hC : cStr σ np Ps) (hS : okS S) (hp : cPlan σ Ps S np t) (hk : k < np) (hph : ph < 1000) (ht : t < 80000) : f_X0_isThroughBy_70_1 σ (nI k) (nI ph) = some (σ, bI (thN Ps S t k ph)) := by
  have hnp := hC.2.1
  have hP := hC.2.2 k hk
  have hh := hi_in hS
  have hs := sp_in hS
  have htn := tN_in (t := t) (np := np) (fun k hk => (hC.2.2 k hk).2.2) hS k (by omega)
  have b1 := hP.2.2.2.1
  have b2 := hP.2.2.2.2.1
  have c1 := cu_in (a := Ps k 1) (b := hiN S) b1 hh.1
  have c2 := cu_in (a := spN S) (b := hiN S) hs.1 hh.1
  have p1 := (hp k hk).1
  have p2 := (hp k hk).2
  simp only [tN] at p2
  have hsh := shut_in (fun u => openN (Ps k) u ph) (cu (spN S) (hiN S)) (tN Ps S t k + cu (Ps k 1) (hiN S))
  unfold f_X0_isThroughBy_70_1 thN
  simp (disch := omega) only [chk_i, nI_clamp, rA_n, p1, p2, C_firstShut hP, Option.bind_some, chk_t hP.1, eq_n]
  by_cases z : shutN (fun u => openN (Ps k) u ph) (tN Ps S t k + cu (Ps k 1) (hiN S)) (cu (spN S) (hiN S)) = tN Ps S t k + cu (Ps k 1) (hiN S) + cu (spN S) (hiN S)
  · simp [z, bI, chk_t (show isB 1 = true by decide)]
  · simp [z, bI, chk_t (show isB 0 = true by decide)]
theorem C_through {σ : cr_S} {k np t : Nat} {Ps : Nat → Nat → Nat} {S : Nat → Nat} (hC : cStr σ np Ps) (hS : okS S) (hp : cPlan σ Ps S np t) (hk : k < np) (ht : t < 80000) : f_X0_isThrough_70_1 σ (nI k) = some (σ, bI (thN Ps S t k (Ps k 4))) := by
  have hnp := hC.2.1
  have hP := hC.2.2 k hk
  have v4 := hP.2.1 4 (by omega)
  have a1 := hP.2.2.2.2.2.2.2.2.2
  have a2 := hP.2.2.2.2.2.2.1
  unfold f_X0_isThrough_70_1
  simp (disch := omega) only [chk_i, nI_clamp, chk_t hP.1, rF, v4, C_throughBy hC hS hp hk, Option.bind_some, chk_t (isB_b _)]
theorem or_z (x y : Int32) : x ||| y = 0 ↔ x = 0 ∧ y = 0 := by
  constructor
  · intro h
    have h1 := congrArg Int32.toBitVec h
    have h2 : x.toBitVec ||| y.toBitVec = 0#32 := h1
    have h3 := BitVec.or_eq_zero_iff.mp h2
    exact ⟨Int32.toBitVec_inj.mp h3.1, Int32.toBitVec_inj.mp h3.2⟩
  · rintro ⟨rfl, rfl⟩
    rfl
theorem bit_ne : ∀ k, k < 6 → ¬ bitI 1 k = 0 := by decide
theorem go_nz {hw sc : Nat → Nat → Nat} : ∀ (n k t : Nat) (r : Int32), ¬ r = 0 → ¬ (goN hw sc n k t r).2.1 = 0
  | 0, k, t, r, h => h
  | n + 1, k, t, r, h => by
    have h1 : ¬ (r ||| bitI (hw k t) k) = 0 := fun q => h ((or_z _ _).mp q).1
    rw [go_s]
    split
    · exact h1
    · exact go_nz n (k + 1) (sc k t) _ h1
/-- a full one is clean just where it is through by the plan -/
theorem full_clean {Ps : Nat → Nat → Nat} {S : Nat → Nat} {np t : Nat} (hnp : np ≤ 6) (hP : ∀ k, k < np → okP (Ps k)) (hS : okS S) : ∀ (n k : Nat), k + n = np → (((goN (hwN Ps S fun _ => hiN S) (scN Ps S fun _ => hiN S) n k (tN Ps S t k) 0).1 = -4 ∧ (goN (hwN Ps S fun _ => hiN S) (scN Ps S fun _ => hiN S) n k (tN Ps S t k) 0).2.1 = 0) ↔ ∀ j, k ≤ j → j < np → thN Ps S t j (Ps j 4) = true)
  | 0, k, h => by
    refine ⟨fun _ j q1 q2 => absurd q1 (by omega), fun _ => ⟨rfl, rfl⟩⟩
  | n + 1, k, h => by
    have ih := full_clean (t := t) hnp hP hS n (k + 1) (by omega)
    have hh := hi_in hS
    have hs := sp_in hS
    have c2 := cu_in (a := spN S) (b := hiN S) hs.1 hh.1
    have hsh := shut_in (fun u => openN (Ps k) u (Ps k 4)) (cu (spN S) (hiN S)) (tN Ps S t k + cu (Ps k 1) (hiN S))
    rw [go_s]
    by_cases z : thN Ps S t k (Ps k 4) = true
    · have z' := of_decide_eq_true z
      have e1 : hwN Ps S (fun _ => hiN S) k (tN Ps S t k) = 0 := by
        unfold hwN howN
        rw [if_pos z']
      have e2 : scN Ps S (fun _ => hiN S) k (tN Ps S t k) = tN Ps S t (k + 1) := by
        unfold scN secN
        dsimp only
        rw [if_neg (by omega)]
        rfl
      rw [e1, e2, if_neg (by omega), show (0 : Int32) ||| bitI 0 k = 0 from by simp [bitI]]
      rw [ih]
      constructor
      · intro q j h1 h2
        by_cases e : j = k
        · subst e; exact z
        · exact q j (by omega) h2
      · intro q j h1 h2
        exact q j (by omega) h2
    · have z' : ¬ shutN (fun u => openN (Ps k) u (Ps k 4)) (tN Ps S t k + cu (Ps k 1) (hiN S)) (cu (spN S) (hiN S)) = tN Ps S t k + cu (Ps k 1) (hiN S) + cu (spN S) (hiN S) := fun q => z (decide_eq_true q)
      refine ⟨fun q => ?_, fun q => absurd (q k (Nat.le_refl k) (by omega)) z⟩
      exfalso
      by_cases y : hwN Ps S (fun _ => hiN S) k (tN Ps S t k) = 2
      · rw [if_pos y] at q
        exact m4_ne k (by omega) q.1
      · rw [if_neg y] at q
        have e1 : hwN Ps S (fun _ => hiN S) k (tN Ps S t k) = 1 := by
          unfold hwN howN at y ⊢
          rw [if_neg z'] at y ⊢
          by_cases w : shutN (fun u => openN (Ps k) u (Ps k 4)) (tN Ps S t k + cu (Ps k 1) (hiN S)) (cu (spN S) (hiN S)) + 1 = tN Ps S t k + cu (Ps k 1) (hiN S) + cu (spN S) (hiN S)
          · rw [if_pos w]
          · rw [if_neg w] at y
            exact absurd rfl y
        rw [e1] at q
        exact go_nz n (k + 1) _ _ (fun w => bit_ne k (by omega) ((or_z _ _).mp w).2) q.2

/-! the step worth -/
def btN (th : Nat → Bool) (p : Nat) : Nat → Nat → Bool
  | 0, _ => true
  | n + 1, k => (decide (k = p) || th k) && btN th p n (k + 1)
theorem bt_iff (th : Nat → Bool) (p : Nat) : ∀ n k, btN th p n k = true ↔ ∀ j, k ≤ j → j < k + n → j ≠ p → th j = true
  | 0, k => ⟨fun _ j q1 q2 => absurd q1 (by omega), fun _ => rfl⟩
  | n + 1, k => by
    have ih := bt_iff th p n (k + 1)
    simp only [btN, Bool.and_eq_true, Bool.or_eq_true, decide_eq_true_eq]
    rw [ih]
    constructor
    · rintro ⟨h1, h2⟩ j q1 q2 q3
      by_cases e : j = k
      · subst e
        rcases h1 with h | h
        · exact absurd h q3
        · exact h
      · exact h2 j (by omega) (by omega) q3
    · intro h
      refine ⟨?_, fun j q1 q2 q3 => h j (by omega) (by omega) q3⟩
      by_cases e : k = p
      · exact Or.inl e
      · exact Or.inr (h k (by omega) (by omega) e)
theorem C_butL {σ : cr_S} {p np t : Nat} {Ps : Nat → Nat → Nat} {S : Nat → Nat} (hC : cStr σ np Ps) (hS : okS S) (hp : cPlan σ Ps S np t) (hpn : p < np) (ht : t < 80000) : ∀ (n f k : Nat), k + n = np → n < f → f_X0_isThroughBut_70_1_L2 f σ (nI p) (nI k) = some (σ, bI (btN (fun k => thN Ps S t k (Ps k 4)) p n k))
  | 0, f + 1, k, hk, hf => by
    have hnp := hC.2.1
    rw [f_X0_isThroughBut_70_1_L2]
    simp (disch := omega) only [rF, hC.1, le_n, if_pos, btN, bI_t]
  | n + 1, f + 1, k, hk, hf => by
    have hnp := hC.2.1
    have ih := C_butL hC hS hp hpn ht n f (k + 1) (by omega) (by omega)
    rw [f_X0_isThroughBut_70_1_L2]
    simp (disch := omega) only [rF, hC.1, le_n, if_neg, eq_n, f_X0_isThroughBut_70_1_B26, cr_let, n_1, nI_add, C_through hC hS hp (show k < np by omega), Option.bind_some, ih, btN]
    by_cases e : k = p
    · simp [e]
    · cases thN Ps S t k (Ps k 4) <;> simp [e, bI]
theorem shut_true : ∀ (n t : Nat), shutN (fun _ => true) t n = t + n
  | 0, t => rfl
  | n + 1, t => by
    rw [shut_s]
    simp only [if_true]
    rw [shut_true n (t + 1)]
    omega
def blown (Ps : Nat → Nat → Nat) (p : Nat) : Nat → Nat → Nat := fun k => if k = p then (fun j => if j = 0 then 0 else if j = 3 then Ps p 2 else Ps p j) else Ps k
theorem blown_1 (Ps : Nat → Nat → Nat) (p k : Nat) : blown Ps p k 1 = Ps k 1 := by
  unfold blown
  by_cases e : k = p
  · subst e; simp
  · simp [e]
theorem blown_4 (Ps : Nat → Nat → Nat) (p k : Nat) : blown Ps p k 4 = Ps k 4 := by
  unfold blown
  by_cases e : k = p
  · subst e; simp
  · simp [e]
theorem blown_t (Ps : Nat → Nat → Nat) (S : Nat → Nat) (p t : Nat) : ∀ k, tN (blown Ps p) S t k = tN Ps S t k
  | 0 => rfl
  | k + 1 => by simp only [tN, blown_t Ps S p t k, blown_1]
theorem blown_th {Ps : Nat → Nat → Nat} {S : Nat → Nat} {p t k : Nat} (hP : okP (Ps p)) : thN (blown Ps p) S t k (blown Ps p k 4) = (decide (k = p) || thN Ps S t k (Ps k 4)) := by
  unfold thN
  rw [blown_t, blown_1, blown_4]
  by_cases e : k = p
  · subst e
    have : (fun u => openN (blown Ps k k) u (Ps k 4)) = fun _ => true := by
      funext u
      have h := hP.2.2.2.1
      simp [openN, blown, plainN]
      exact Nat.mod_lt _ (by omega)
    rw [this, shut_true]
    simp
  · have : blown Ps p k = Ps k := by unfold blown; simp [e]
    rw [this]
    simp [e]
theorem M_isClean {τ : cr_S} : f_X11_isClean τ = some (τ, bI (decide (τ.1 0 8 = -4 ∧ τ.1 0 9 = 0))) := by
  unfold f_X11_isClean rF
  by_cases h1 : τ.1 0 8 = -4 <;> by_cases h2 : τ.1 0 9 = 0 <;> simp [h1, h2, bI]
theorem upd_back {f : Nat → Int32} {i j : Nat} (hne : i ≠ j) {g : Nat → Int32} (h : ∀ q, q ≠ i → q ≠ j → g q = f q) (hi : g i = f i) (hj : g j = f j) : g = f := funext fun q => by
  by_cases e : q = i
  · rw [e, hi]
  · by_cases e2 : q = j
    · rw [e2, hj]
    · exact h q e e2
theorem S_worL {k p np ns nu nl : Nat} {Ps Ss : Nat → Nat → Nat} (hk : k < ns) (hp : p < np) : ∀ (n f t : Nat) (x : Int32) (σ τ : cr_S), t + n = 60 → n < f → Inv σ τ → rMain σ τ np ns nu nl Ps Ss → Step σ τ (f_X10_worth_L23 f σ (nI k) (nI p) x (nI t)) (f_X11_worth_L45 f τ (nI k) (nI p) (nI (Ps p 3)) (nI (Ps p 0)) x (nI t))
  | 0, f + 1, t, x, σ, τ, ht, hf, h0, hm => by
    rw [f_X10_worth_L23, f_X11_worth_L45]
    simp (disch := omega) only [n_60, le_n, if_pos]
    exact ⟨σ, τ, x, rfl, rfl, h0⟩
  | n + 1, f + 1, t, x, σ, τ, ht, hf, h0, hm => by
    have hns := hm.2.1.2.2
    have hc := rM_c hm
    have hM := rM_m hm
    have hnp := hc.2.1
    have cS1 := rM_cS hm hk
    have mS1 := rM_mS hm hk
    have oS := cS1.2.2
    have oP := (hc.2.2 p hp).2.2
    have mv := (hM.2.2 p hp).2.1
    have m0 := mv 0 (by omega)
    have m2 := mv 2 (by omega)
    have m3 := mv 3 (by omega)
    rw [Nat.add_zero] at m0
    -- the class
    obtain ⟨σ1, p1, p2, p3, p4⟩ := C_planFull (t := t) hc cS1 (by omega)
    have hc1 : cStr σ1 np Ps := ⟨by rw [p2]; exact hc.1, hnp, fun j hj => cP_of (hc.2.2 j hj) (fun _ _ => by rw [p2])⟩
    have but := C_butL hc1 oS p4 hp (by omega) np cr_fuel 0 (by omega) (by rw [cr_fuel_v]; omega)
    have thr := C_through hc1 oS p4 hp (by omega)
    -- the reference
    obtain ⟨τ1, r1, r2, r3, r4, -⟩ := M_goesFull (t := t) hM mS1 (by omega)
    have a1 : τ1.2.1 1 = τ.2.1 1 := r2.2.1 1 (by omega) (by omega) (by omega) (by omega)
    have hM2 : mStr (sA (sA τ1 1 (nI (5 * p)) (nI 0)) 1 (nI (5 * p + 3)) (nI (Ps p 2))) np (blown Ps p) := by
      refine ⟨by rw [sA_1, sA_1, r2.1 0 (by unfold mKeep; omega)]; exact hM.1, hnp, fun j hj => ⟨by omega, fun i hi => ?_, ?_⟩⟩
      · have w := (hM.2.2 j hj).2.1 i hi
        unfold blown
        by_cases e : j = p
        · subst e
          simp only [if_true]
          rcases (show i = 0 ∨ i = 1 ∨ i = 2 ∨ i = 3 ∨ i = 4 by omega) with rfl | rfl | rfl | rfl | rfl <;> simp (disch := omega) [sA_k, sA_s, a1] <;> exact w
        · simp only [if_neg e]
          rw [sA_k (by omega) (by omega), sA_k (by omega) (by omega), a1]
          exact w
      · unfold blown
        by_cases e : j = p
        · subst e
          have := oP
          simp [okP] at this ⊢
          omega
        · simp only [if_neg e]
          exact (hM.2.2 j hj).2.2
    have mS2 : mS (sA (sA τ1 1 (nI (5 * p)) (nI 0)) 1 (nI (5 * p + 3)) (nI (Ps p 2))) k (Ss k) := mS_of mS1 (by rw [sA_o (by omega), sA_o (by omega), r2.2.1 2 (by omega) (by omega) (by omega) (by omega)])
    obtain ⟨τ2, w1, w2, w3, w4, -⟩ := M_goesFull (t := t) hM2 mS2 (by omega)
    have b1 : τ2.2.1 1 = (sA (sA τ1 1 (nI (5 * p)) (nI 0)) 1 (nI (5 * p + 3)) (nI (Ps p 2))).2.1 1 := w2.2.1 1 (by omega) (by omega) (by omega) (by omega)
    have same : mSame τ (sA (sA τ2 1 (nI (5 * p)) (nI (Ps p 0))) 1 (nI (5 * p + 3)) (nI (Ps p 3))) := by
      refine ⟨fun j hj => ?_, fun o h4 h6 h7 h9 => ?_, ?_⟩
      · rw [sA_1, sA_1, w2.1 j hj, sA_1, sA_1, r2.1 j hj]
      · by_cases e : o = 1
        · subst e
          refine upd_back (i := 5 * p) (j := 5 * p + 3) (by omega) (fun q q1 q2 => ?_) ?_ ?_
          · rw [sA_k (by omega) q2, sA_k (by omega) q1, b1, sA_k (by omega) q2, sA_k (by omega) q1, a1]
          · rw [sA_k (by omega) (by omega), sA_s (by omega), m0]
          · rw [sA_s (by omega), m3]
        · rw [sA_o e, sA_o e, w2.2.1 o h4 h6 h7 h9, sA_o e, sA_o e, r2.2.1 o h4 h6 h7 h9]
      · rw [sA_22, sA_22, w2.2.2, sA_22, sA_22, r2.2.2]
    have go : ∀ x' : Int32, Step σ τ (f_X10_worth_L23 f σ1 (nI k) (nI p) x' (nI (t + 1))) (f_X11_worth_L45 f (sA (sA τ2 1 (nI (5 * p)) (nI (Ps p 0))) 1 (nI (5 * p + 3)) (nI (Ps p 3))) (nI k) (nI p) (nI (Ps p 3)) (nI (Ps p 0)) x' (nI (t + 1))) := fun x' => by
      obtain ⟨σ', τ', r, i1, i2, i3⟩ := S_worL hk hp n f (t + 1) x' σ1 _ (by omega) (by omega) (Inv_same h0 p3 same) (rMain_same hm p3 same)
      exact ⟨σ', τ', r, i1, i2, i3⟩
    have fc1 := full_clean (t := t) hnp (fun j hj => (hc.2.2 j hj).2.2) oS np 0 (by omega)
    have fc2 := full_clean (t := t) hnp (fun j hj => (hM2.2.2 j hj).2.2) oS np 0 (by omega)
    have d1 : decide (τ1.1 0 8 = -4 ∧ τ1.1 0 9 = 0) = (btN (fun k' => thN Ps (Ss k) t k' (Ps k' 4)) p np 0 && thN Ps (Ss k) t p (Ps p 4)) := by
      rw [r3, r4]
      apply Bool.eq_iff_iff.mpr
      rw [decide_eq_true_eq, Bool.and_eq_true, bt_iff]
      refine (show (_ ∧ _) ↔ _ from fc1).trans ⟨fun q => ⟨fun j q1 q2 _ => q j q1 (by omega), q p (by omega) hp⟩, fun q j q1 q2 => ?_⟩
      by_cases e : j = p
      · rw [e]; exact q.2
      · exact q.1 j q1 (by omega) e
    have d2 : decide (τ2.1 0 8 = -4 ∧ τ2.1 0 9 = 0) = btN (fun k' => thN Ps (Ss k) t k' (Ps k' 4)) p np 0 := by
      rw [w3, w4]
      apply Bool.eq_iff_iff.mpr
      rw [decide_eq_true_eq, bt_iff]
      refine (show (_ ∧ _) ↔ _ from fc2).trans ⟨fun q j q1 q2 q3 => ?_, fun q j q1 q2 => ?_⟩
      · have := q j q1 (by omega)
        rw [blown_th oP] at this
        simpa [q3] using this
      · rw [blown_th oP]
        by_cases e : j = p
        · simp [e]
        · simpa [e] using q j q1 (by omega) e
    rw [f_X10_worth_L23, f_X11_worth_L45]
    have butd : f_X0_isThroughBut_70_1 σ1 (nI p) = some (σ1, bI (btN (fun k' => thN Ps (Ss k) t k' (Ps k' 4)) p np 0)) := by
      unfold f_X0_isThroughBut_70_1
      rw [n_0]
      exact but
    have mm : ∀ y : Int32, f_X11_worth_B73 (f_X11_worth_L45 f) τ1 (nI k) (nI p) (nI (Ps p 3)) (nI (Ps p 0)) (nI t) y x = f_X11_worth_L45 f (sA (sA τ2 1 (nI (5 * p)) (nI (Ps p 0))) 1 (nI (5 * p + 3)) (nI (Ps p 3))) (nI k) (nI p) (nI (Ps p 3)) (nI (Ps p 0)) (x - y + (if bI (btN (fun k' => thN Ps (Ss k) t k' (Ps k' 4)) p np 0) = 0 then 0 else 1)) (nI (t + 1)) := fun y => by
      have w1' := w1
      rw [← n_0] at w1'
      simp (disch := omega) only [f_X11_worth_B73, f_X11_worth_B126, cr_let, n_5, n_2, n_3, pk_mul, nI_add, chk_i, rA_n, sA_k, a1, m2, w1', Option.bind_some, M_isClean, d2, nI_1]
    simp (disch := omega) only [n_60, le_n, if_neg, chk_i, nI_clamp, p1, Option.bind_some, butd, r1, M_isClean, d1, mm]
    cases y1 : btN (fun k' => thN Ps (Ss k) t k' (Ps k' 4)) p np 0
    · have g := go x
      simpa [bI, f_X10_worth_B86, f_X10_worth_B87, f_X10_worth_B100, cr_let, nI_1] using g
    · cases y2 : thN Ps (Ss k) t p (Ps p 4)
      · have g := go (x + 1)
        simpa [bI, thr, y2, f_X10_worth_B86, f_X10_worth_B87, f_X10_worth_B100, cr_let, nI_1] using g
      · have g := go x
        simpa [bI, thr, y2, f_X10_worth_B86, f_X10_worth_B87, f_X10_worth_B100, cr_let, nI_1] using g
theorem S_worth {σ τ : cr_S} {a b : Int32} (h : Inv σ τ) : Step σ τ (f_X10_worth σ a b) (f_X11_worth τ a b) := by
  have h0 := h
  obtain ⟨⟨np, ns, nu, nl, Ps, Ss, hm⟩, -⟩ := h
  have h1 := hm.2.1
  have hns := h1.2.2
  have hc := rM_c hm
  have hM := rM_m hm
  have hnp := hc.2.1
  unfold f_X10_worth f_X11_worth
  simp only [C_isShip, h1.1, M_isShip, h1.2.1, Option.bind_some, C_isPair, hc.1, M_isPair, hM.1]
  cases q1 : inR a 0 (nI ns - 1)
  · exact ⟨σ, τ, -1, by simp [bI], by simp [bI], h0⟩
  cases q2 : inR b 0 (nI np - 1)
  · exact ⟨σ, τ, -1, by simp [bI], by simp [bI], h0⟩
  obtain ⟨k, hk, rfl⟩ := inR_n (by omega) q1
  obtain ⟨p, hp, rfl⟩ := inR_n (by omega) q2
  have mv := (hM.2.2 p hp).2.1
  have m0 := mv 0 (by omega)
  have m3 := mv 3 (by omega)
  rw [Nat.add_zero] at m0
  obtain ⟨σ', τ', r, i1, i2, i3⟩ := S_worL hk hp 60 cr_fuel 0 0 σ τ (by omega) (by rw [cr_fuel_v]; omega) h0 hm
  refine ⟨σ', τ', r, ?_, ?_, i3⟩
  · rw [← n_0] at i1
    simpa [bI] using i1
  · simp (disch := omega) only [n_5, n_3, pk_mul, nI_add, chk_i, rA_n, m0, m3, cr_let]
    rw [← n_0] at i2
    simpa [bI] using i2

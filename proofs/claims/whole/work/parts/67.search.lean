/-! the soonest: what the class's search measures -/
def s74 (σ σ' : cr_S) : Prop := σ'.2.2 = σ.2.2 ∧ (∀ o, o ≠ 74 → σ'.1 o = σ.1 o) ∧ ∀ o, (o < 75 ∨ 85 ≤ o) → σ'.2.1 o = σ.2.1 o
theorem s74_r {σ : cr_S} : s74 σ σ := ⟨rfl, fun _ _ => rfl, fun _ _ => rfl⟩
theorem s74_t {a b c : cr_S} (h : s74 a b) (g : s74 b c) : s74 a c := ⟨g.1.trans h.1, fun o q => (g.2.1 o q).trans (h.2.1 o q), fun o q => (g.2.2 o q).trans (h.2.2 o q)⟩
theorem s74_c {σ σ' : cr_S} (b : s74 σ σ') : cSame σ σ' := ⟨fun o j ho => by rw [b.2.1 o (by omega)], fun o j ho => by rw [b.2.2 o (by omega)], b.1⟩
theorem s74_P {σ σ' : cr_S} {o : Nat} {P : Nat → Nat} (b : s74 σ σ') (ho : o ≠ 74) (h : cP σ o P) : cP σ' o P := cP_of h (fun j _ => by rw [b.2.1 o ho])
theorem s74_S {σ σ' : cr_S} {o : Nat} {S : Nat → Nat} (b : s74 σ σ') (ho : o ≠ 74) (h : cS σ o S) : cS σ' o S := cS_of h (fun j _ => by rw [b.2.1 o ho])
theorem s74_C {σ σ' : cr_S} {np : Nat} {Ps : Nat → Nat → Nat} (b : s74 σ σ') (h : cStr σ np Ps) : cStr σ' np Ps := by
  have hn := h.2.1
  exact ⟨by rw [b.2.1 1 (by omega)]; exact h.1, hn, fun k hk => s74_P b (by omega) (h.2.2 k hk)⟩
def msN (P : Nat → Nat) (t0 L x : Nat) : Nat := shutN (fun u => openN P u (P 4)) (t0 + x) (L - x) - (t0 + x)
theorem C_measL {o t0 L : Nat} {P : Nat → Nat} (ht : t0 ≤ 9999) (hL : L ≤ 346) : ∀ (n f : Nat) (σ : cr_S), n ≤ L → n < f → cP σ o P → (∀ x, n ≤ x → x ≤ L → σ.2.1 83 x = nI (msN P t0 L x)) → ∃ σ', f_X5_measure_74_L12 f σ o (nI t0) (nI n - 1) = some σ' ∧ σ'.1 = σ.1 ∧ σ'.2.2 = σ.2.2 ∧ (∀ q, q ≠ 83 → σ'.2.1 q = σ.2.1 q) ∧ ∀ x, x ≤ L → σ'.2.1 83 x = nI (msN P t0 L x)
  | 0, f + 1, σ, hn, hf, hP, hM => by
    refine ⟨σ, ?_, rfl, rfl, fun _ _ => rfl, fun x hx => hM x (by omega) hx⟩
    rw [f_X5_measure_74_L12, if_pos (by decide)]
  | n + 1, f + 1, σ, hn, hf, hP, hM => by
    have hsh := shut_in (fun u => openN P u (P 4)) (L - (n + 1)) (t0 + (n + 1))
    have e0 : nI (n + 1) - 1 = nI n := by rw [← nI_1, Int32.add_sub_cancel]
    have eM : msN P t0 L n = if openN P (t0 + n) (P 4) then msN P t0 L (n + 1) + 1 else 0 := by
      unfold msN
      rw [show L - n = (L - (n + 1)) + 1 by omega, shut_s]
      by_cases z : openN P (t0 + n) (P 4) = true
      · rw [if_pos z, if_pos z, show t0 + n + 1 = t0 + (n + 1) by omega]
        omega
      · rw [if_neg z, if_neg z]
        omega
    have hmb : msN P t0 L (n + 1) ≤ 346 := by unfold msN; omega
    obtain ⟨σ2, u1, u2, u3, u4, u5⟩ := C_measL (o := o) (P := P) ht hL n f (sA σ 83 (nI n) (nI (msN P t0 L n))) (by omega) (by omega) (cP_of hP (fun _ _ => rfl)) (fun x q1 q2 => by
      by_cases e : x = n
      · subst e; rw [sA_s (by omega)]
      · rw [sA_k (by omega) e]; exact hM x (by omega) q2)
    refine ⟨σ2, ?_, u2, u3, fun q hq => (u4 q hq).trans (sA_o hq), u5⟩
    rw [f_X5_measure_74_L12, e0, if_neg (nl_0 (by omega)), nI_add, C_isOpenNow hP (by omega)]
    simp only [Option.bind_some]
    rw [chk_t hP.1]
    have fin : ∀ v, v = nI (msN P t0 L n) → f_X5_measure_74_B49 (f_X5_measure_74_L12 f) σ o (nI t0) (nI n) v (nI n) = some σ2 := fun v hv => by
      unfold f_X5_measure_74_B49
      simp only [cr_let]
      rw [chk_i (by omega) (by omega), hv, ← Int32.sub_eq_add_neg]
      exact u1
    cases z : openN P (t0 + n) (P 4)
    · rw [if_pos (by decide)]
      rw [z] at eM
      exact fin _ (by rw [eM]; rfl)
    · rw [if_neg (by decide), nI_1, chk_i (by omega) (by omega), rA_n (by omega), hM (n + 1) (by omega) (by omega), nI_1]
      rw [z] at eM
      exact fin _ (by rw [eM]; rfl)
theorem C_meas {σ : cr_S} {o t0 L : Nat} {P : Nat → Nat} (ht : t0 ≤ 9999) (hL : L ≤ 346) (hP : cP σ o P) : ∃ σ', f_X5_measure_74 σ o (nI t0) (nI L) = some σ' ∧ σ'.1 = σ.1 ∧ σ'.2.2 = σ.2.2 ∧ (∀ q, q ≠ 83 → σ'.2.1 q = σ.2.1 q) ∧ ∀ x, x ≤ L → σ'.2.1 83 x = nI (msN P t0 L x) := by
  obtain ⟨σ2, u1, u2, u3, u4, u5⟩ := C_measL (o := o) (P := P) ht hL L cr_fuel (sA σ 83 (nI L) 0) (by omega) (by rw [cr_fuel_v]; omega) (cP_of hP (fun _ _ => rfl)) (fun x q1 q2 => by
    have e : x = L := by omega
    subst e
    rw [sA_s (by omega), n_0]
    congr 1
    unfold msN
    rw [Nat.sub_self]
    show 0 = t0 + x - (t0 + x)
    omega)
  refine ⟨σ2, ?_, u2, u3, fun q hq => (u4 q hq).trans (sA_o hq), u5⟩
  unfold f_X5_measure_74
  rw [chk_i (by omega) (by omega)]
  simp only [cr_let]
  exact u1
def duN (P S : Nat → Nat) (pc : Nat) : Nat := cu (P 1) pc + cu (spN S) pc
def tpN (P S : Nat → Nat) (t pc : Nat) : Bool := decide (shutN (fun u => openN P u (P 4)) (t + cu (P 1) pc) (cu (spN S) pc) = t + cu (P 1) pc + cu (spN S) pc)
theorem du_in {P S : Nat → Nat} {pc : Nat} (hP : okP P) (hS : okS S) (h1 : 1 ≤ pc) : 2 ≤ duN P S pc ∧ duN P S pc ≤ 41 := by
  have a := cu_in (a := P 1) (b := pc) hP.2.1 h1
  have s := sp_in hS
  have b := cu_in (a := spN S) (b := pc) s.1 h1
  have := hP.2.2.1
  unfold duN
  omega
theorem n_346 : (346 : Int32) = nI 346 := id rfl
theorem n_M : (1000000 : Int32) = nI 1000000 := id rfl
theorem C_behind {σ : cr_S} {o q t0 L t pc : Nat} {P S : Nat → Nat} (hP : cP σ o P) (hS : cS σ q S) (h1 : 1 ≤ pc) (h2 : pc ≤ 5) (hL : L ≤ 346) (ht : t + 41 ≤ L) (ht2 : t + 41 < 346) (hM : ∀ x, x ≤ L → σ.2.1 83 x = nI (msN P t0 L x)) : f_X5_behindBy_74 σ o q (nI t) (nI pc) = some (σ, nI (if tpN P S (t0 + t) pc then t + duN P S pc else 1000000)) := by
  have v1 := hP.2.1 1 (by omega)
  have a := cu_in (a := P 1) (b := pc) hP.2.2.2.1 h1
  have s := sp_in hS.2.2
  have b := cu_in (a := spN S) (b := pc) s.1 h1
  have d := du_in hP.2.2 hS.2.2 h1
  have p30 := hP.2.2.2.2.1
  have e1 : f_X10_secondsFor σ (nI (P 1)) (nI pc) = some (σ, nI (cu (P 1) pc)) := C_secondsFor h1 (by omega) (by omega)
  have e2 : f_X10_secondsFor σ (nI (spN S)) (nI pc) = some (σ, nI (cu (spN S) pc)) := C_secondsFor h1 (by omega) (by omega)
  have si := shut_iff (fun u => openN P u (P 4)) (L - (t + cu (P 1) pc)) (t0 + (t + cu (P 1) pc)) (cu (spN S) pc) (by unfold duN at d; omega)
  have si2 := shut_iff (fun u => openN P u (P 4)) (cu (spN S) pc) (t0 + (t + cu (P 1) pc)) (cu (spN S) pc) (by omega)
  have hi1 := shut_in (fun u => openN P u (P 4)) (L - (t + cu (P 1) pc)) (t0 + (t + cu (P 1) pc))
  have hi2 := shut_in (fun u => openN P u (P 4)) (cu (spN S) pc) (t0 + (t + cu (P 1) pc))
  unfold f_X5_behindBy_74
  rw [chk_t hP.1, show rF σ o 1 = nI (P 1) from v1, e1]
  simp only [Option.bind_some, cr_let]
  rw [C_span hS]
  simp only [Option.bind_some]
  rw [chk_t hS.1, e2]
  simp only [Option.bind_some, nI_add]
  unfold duN at d ⊢
  rw [n_346, if_neg (by rw [le_n (by omega) (by omega)]; omega), chk_i (by omega) (by omega), rA_n (by omega), hM _ (by omega), n_M]
  have key : (msN P t0 L (t + cu (P 1) pc) < cu (spN S) pc) ↔ ¬ tpN P S (t0 + t) pc = true := by
    unfold msN tpN
    rw [decide_eq_true_eq, Nat.add_assoc t0 t]
    constructor
    · intro w q
      have := si.mpr (si2.mp (by omega))
      omega
    · intro w
      refine Nat.lt_of_not_le (fun q => w ?_)
      have := si2.mpr (si.mp (by omega))
      omega
  have mb : msN P t0 L (t + cu (P 1) pc) ≤ 346 := by unfold msN; omega
  by_cases z : tpN P S (t0 + t) pc = true
  · rw [if_neg (by rw [lt_n (by omega) (by omega)]; exact fun q => (key.mp q) z), if_pos z, Nat.add_assoc]
  · rw [if_pos (by rw [lt_n (by omega) (by omega)]; exact key.mpr z), if_neg z]

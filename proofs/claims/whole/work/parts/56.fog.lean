/-! fog: how likely a plan is clean -/
def b2n (b : Bool) : Nat := if b then 1 else 0
def wgN (Ps : Nat → Nat → Nat) (S : Nat → Nat) (t k : Nat) : Nat := 2 * b2n (thN Ps S t k (Ps k 4)) + b2n (thN Ps S t k ((Ps k 4 + Ps k 2 - 1) % Ps k 2)) + b2n (thN Ps S t k ((Ps k 4 + Ps k 2 + 1) % Ps k 2))
def fgN (w : Nat → Nat) : Nat → Nat → Nat → Nat
  | 0, _, a => a
  | n + 1, k, a => fgN w n (k + 1) (a * w k)
theorem wg_in (Ps : Nat → Nat → Nat) (S : Nat → Nat) (t k : Nat) : wgN Ps S t k ≤ 4 := by
  unfold wgN b2n
  split <;> split <;> split <;> omega
theorem fg_0 (w : Nat → Nat) : ∀ n k, fgN w n k 0 = 0
  | 0, k => rfl
  | n + 1, k => by rw [fgN, Nat.zero_mul, fg_0 w n (k + 1)]
theorem fg_in {w : Nat → Nat} (hw : ∀ k, w k ≤ 4) : ∀ n k a, fgN w n k a ≤ a * 4 ^ n
  | 0, k, a => by simp [fgN]
  | n + 1, k, a => by
    rw [fgN]
    have h1 := fg_in hw n (k + 1) (a * w k)
    have h2 : a * w k * 4 ^ n ≤ a * 4 * 4 ^ n := Nat.mul_le_mul_right _ (Nat.mul_le_mul_left _ (hw k))
    have h3 : a * 4 ^ (n + 1) = a * 4 * 4 ^ n := by rw [Nat.pow_succ, Nat.mul_comm (4 ^ n) 4, ← Nat.mul_assoc]
    omega
theorem bI_n (b : Bool) : bI b = nI (b2n b) := by cases b <;> rfl
theorem one_b {σ : cr_S} {b : Bool} : f_X10_oneIf σ (bI b) = some (σ, nI (b2n b)) := by
  unfold f_X10_oneIf
  rw [ite_b, bI_n]
theorem C_phB {σ : cr_S} {o e : Nat} {P : Nat → Nat} {a : Int32} (hP : cP σ o P) (ha : nI (P 4 + P 2) + a = nI e) (he : e < 100000) : f_X3_phaseBehind σ o a = some (σ, nI (e % P 2)) := by
  have v2 := hP.2.1 2 (by omega)
  have v4 := hP.2.1 4 (by omega)
  have a2 := hP.2.2.2.2.2.2.1
  have a3 := hP.2.2.2.2.2.1
  unfold f_X3_phaseBehind
  simp (disch := omega) only [chk_t hP.1, rF, v2, v4, n_0, le_n, if_neg, chk_0', nI_add, ha, rem_n]
theorem C_fogL {σ : cr_S} {np t : Nat} {Ps : Nat → Nat → Nat} {S : Nat → Nat} (hC : cStr σ np Ps) (hS : okS S) (hp : cPlan σ Ps S np t) (ht : t < 80000) : ∀ (n f k a : Nat), k + n = np → n < f → a * 4 ^ n ≤ 4096 → f_X0_fogWeight_70_1_L4 f σ (nI a) (nI k) = some (σ, nI (fgN (wgN Ps S t) n k a))
  | 0, f + 1, k, a, hk, hf, ha => by
    have hnp := hC.2.1
    rw [f_X0_fogWeight_70_1_L4]
    simp (disch := omega) only [rF, hC.1, le_n, if_pos, fgN]
  | n + 1, f + 1, k, a, hk, hf, ha => by
    have hnp := hC.2.1
    have hP := hC.2.2 k (by omega)
    have a1 := hP.2.2.2.2.2.2.2.2.2
    have a2 := hP.2.2.2.2.2.2.1
    have a3 := hP.2.2.2.2.2.1
    have hwg := wg_in Ps S t k
    have pw : 1 ≤ 4 ^ n := Nat.one_le_pow _ _ (by omega)
    have ha1 : a ≤ 4096 := by
      have : a * 1 ≤ a * 4 ^ (n + 1) := Nat.mul_le_mul_left _ (Nat.one_le_pow _ _ (by omega))
      omega
    rw [f_X0_fogWeight_70_1_L4]
    by_cases z : a = 0
    · subst z
      rw [fg_0]
      simp (disch := omega) only [rF, hC.1, le_n, if_neg, n_0, if_pos]
    · have hnext : a * wgN Ps S t k * 4 ^ n ≤ 4096 := by
        have h2 : a * wgN Ps S t k * 4 ^ n ≤ a * 4 * 4 ^ n := Nat.mul_le_mul_right _ (Nat.mul_le_mul_left _ hwg)
        have h3 : a * 4 ^ (n + 1) = a * 4 * 4 ^ n := by rw [Nat.pow_succ, Nat.mul_comm (4 ^ n) 4, ← Nat.mul_assoc]
        omega
      have ih := C_fogL hC hS hp ht n f (k + 1) (a * wgN Ps S t k) (by omega) (by omega) hnext
      have e1 : nI (Ps k 4 + Ps k 2) + (-1) = nI (Ps k 4 + Ps k 2 - 1) := sb_m1 (by omega)
      have e2 : nI (Ps k 4 + Ps k 2) + 1 = nI (Ps k 4 + Ps k 2 + 1) := nI_1 _
      have l1 : (Ps k 4 + Ps k 2 - 1) % Ps k 2 < Ps k 2 := Nat.mod_lt _ (by omega)
      have l2 : (Ps k 4 + Ps k 2 + 1) % Ps k 2 < Ps k 2 := Nat.mod_lt _ (by omega)
      simp (disch := omega) only [rF, hC.1, le_n, if_neg, n_0, chk_i, nI_clamp, C_through hC hS hp (show k < np by omega), Option.bind_some, one_b, C_phB hP e1, C_phB hP e2, chk_t hP.1, C_throughBy hC hS hp (show k < np by omega), cr_let, n_2, pk_mul, nI_add, nI_1]
      exact ih
theorem C_fogW {σ : cr_S} {np t : Nat} {Ps : Nat → Nat → Nat} {S : Nat → Nat} (hC : cStr σ np Ps) (hS : okS S) (hp : cPlan σ Ps S np t) (ht : t < 80000) : f_X0_fogWeight_70_1 σ = some (σ, nI (fgN (wgN Ps S t) np 0 1)) := by
  have hnp := hC.2.1
  have : (4 : Nat) ^ np ≤ 4 ^ 6 := Nat.pow_le_pow_right (by omega) hnp
  unfold f_X0_fogWeight_70_1
  rw [n_1, n_0]
  exact C_fogL hC hS hp ht np cr_fuel 0 1 (by omega) (by rw [cr_fuel_v]; omega) (by omega)
theorem how_0 (op : Nat → Bool) (t n : Nat) : (nI (howN op t n) = 0) ↔ shutN op t n = t + n := by
  have h := how_in op t n
  rw [n_0, eq_n (by omega) (by omega)]
  unfold howN
  by_cases z : shutN op t n = t + n
  · simp [z]
  · rw [if_neg z]
    by_cases y : shutN op t n + 1 = t + n
    · simp [y, z]
    · simp [y, z]
theorem M_pass3 {τ : cr_S} {p s np t ph : Nat} {Ps : Nat → Nat → Nat} {S : Nat → Nat} (hM : mStr τ np Ps) (hS : mS τ s S) (hp : p < np) (hph : ph < 1000) (ht : t < 80000) :
    ∃ τ', f_X11_passes τ (nI s) (nI p) (nI ph) (nI (tN Ps S t p)) (nI (hiN S)) = some τ' ∧ τ'.2 = τ.2 ∧ (∀ j, j ≠ 6 → j ≠ 7 → τ'.1 0 j = τ.1 0 j) ∧ (τ'.1 0 6 = 0 ↔ thN Ps S t p ph = true) ∧ (thN Ps S t p ph = true → τ'.1 0 7 = nI (tN Ps S t (p + 1))) := by
  have hnp := hM.2.1
  have hP := hM.2.2 p hp
  have hh := hi_in hS.2.2
  have htn := tN_in (t := t) (np := np) (fun k hk => (hM.2.2 k hk).2.2) hS.2.2 p (by omega)
  obtain ⟨τ', q1, q2, q3, q4, q5⟩ := M_passes (t := tN Ps S t p) (pace := hiN S) (ph := ph) hP hS hph (by omega) hh.1 hh.2
  refine ⟨τ', q1, q2, q3, ?_, fun z => ?_⟩
  · rw [q4, how_0]
    unfold thN
    rw [decide_eq_true_eq]
  · have z' := of_decide_eq_true z
    rw [q5]
    unfold secN
    rw [z', if_neg (by omega)]
    rfl
def b12 (τ τ' : cr_S) : Prop := τ'.2 = τ.2 ∧ ∀ j, j ≠ 6 → j ≠ 7 → τ'.1 0 j = τ.1 0 j
theorem M_cl1 {r8 : cr_S → Int32 → Int32 → Int32 → Int32 → Option (cr_S × Int32)} {τ : cr_S} {p s np t a m : Nat} {Ps : Nat → Nat → Nat} {S : Nat → Nat} {x9 : Int32} {e f : Nat} (hM : mStr τ np Ps) (hS : mS τ s S) (hp : p < np) (ht : t < 80000) (h9 : nI (Ps p 4) + x9 + nI (Ps p 2) = nI e) (he : e < 1000) (h2 : ¬ 2 ≤ x9) :
    ∃ τ', b12 τ τ' ∧ f_X11_clears_L49 r8 (f + 1) τ (nI s) (nI a) (nI (tN Ps S t p)) (nI p) (nI (Ps p 2)) (nI (Ps p 4)) (nI m) x9 = f_X11_clears_L49 r8 f τ' (nI s) (nI a) (nI (tN Ps S t p)) (nI p) (nI (Ps p 2)) (nI (Ps p 4)) (nI (m + (if x9 = 0 then 2 else 1) * b2n (thN Ps S t p (e % Ps p 2)))) (x9 + 1) := by
  have hnp := hM.2.1
  have hP := hM.2.2 p hp
  have a2 := hP.2.2.2.2.2.2.1
  have a3 := hP.2.2.2.2.2.1
  have l1 : e % Ps p 2 < Ps p 2 := Nat.mod_lt _ (by omega)
  obtain ⟨τ', q1, q2, q3, q4, -⟩ := M_pass3 (ph := e % Ps p 2) hM hS hp (by omega) ht
  refine ⟨τ', ⟨q2, q3⟩, ?_⟩
  rw [f_X11_clears_L49]
  simp (disch := omega) only [if_neg h2, chk_0, M_high hS, Option.bind_some, h9, rem_n, q1, rF, f_X11_clears_B103, cr_let]
  cases y : thN Ps S t p (e % Ps p 2)
  · have : ¬ τ'.1 0 6 = 0 := fun q => by rw [q4, y] at q; cases q
    simp [this, b2n]
  · have : τ'.1 0 6 = 0 := q4.mpr y
    by_cases z : x9 = 0
    · simp [this, z, b2n, n_2, nI_add]
    · simp [this, z, b2n, nI_1]
theorem M_clL {s np t : Nat} {Ps : Nat → Nat → Nat} {S : Nat → Nat} (ht : t < 80000) : ∀ (n f k a : Nat) (τ : cr_S), k + n = np → n < f → a * 4 ^ n ≤ 4096 → mStr τ np Ps → mS τ s S → ∃ τ', f_X11_clears_L8 f τ (nI s) (nI a) (nI (tN Ps S t k)) (nI k) = some (τ', nI (fgN (wgN Ps S t) n k a)) ∧ b12 τ τ'
  | 0, f + 1, k, a, τ, hk, hf, ha, hM, hS => by
    have hnp := hM.2.1
    rw [f_X11_clears_L8]
    simp (disch := omega) only [rF, hM.1, le_n, if_pos, fgN]
    exact ⟨τ, rfl, rfl, fun _ _ _ => rfl⟩
  | n + 1, f + 1, k, a, τ, hk, hf, ha, hM, hS => by
    have hnp := hM.2.1
    have hP := hM.2.2 k (by omega)
    have a1 := hP.2.2.2.2.2.2.2.2.2
    have a2 := hP.2.2.2.2.2.2.1
    have a3 := hP.2.2.2.2.2.1
    have v1 := hP.2.1 1 (by omega)
    have v2 := hP.2.1 2 (by omega)
    have v4 := hP.2.1 4 (by omega)
    have hh := hi_in hS.2.2
    have hs := sp_in hS.2.2
    have c0 := hP.2.2.2.1
    have c00 := hP.2.2.2.2.1
    have hwg := wg_in Ps S t k
    have ha1 : a ≤ 4096 := by
      have : a * 1 ≤ a * 4 ^ (n + 1) := Nat.mul_le_mul_left _ (Nat.one_le_pow _ _ (by omega))
      omega
    have hnext : a * wgN Ps S t k * 4 ^ n ≤ 4096 := by
      have h2 : a * wgN Ps S t k * 4 ^ n ≤ a * 4 * 4 ^ n := Nat.mul_le_mul_right _ (Nat.mul_le_mul_left _ hwg)
      have h3 : a * 4 ^ (n + 1) = a * 4 * 4 ^ n := by rw [Nat.pow_succ, Nat.mul_comm (4 ^ n) 4, ← Nat.mul_assoc]
      omega
    obtain ⟨F, hF⟩ : ∃ F, cr_fuel = F + 4 := ⟨4996, by rw [cr_fuel_v]⟩
    have keep : ∀ {τ τ' : cr_S}, b12 τ τ' → mStr τ np Ps → mStr τ' np Ps := fun {τ τ'} b h => ⟨by rw [b.2 0 (by omega) (by omega)]; exact h.1, h.2.1, fun j hj => mP_of (h.2.2 j hj) (by rw [b.1])⟩
    have keepS : ∀ {τ τ' : cr_S}, b12 τ τ' → mS τ s S → mS τ' s S := fun {τ τ'} b h => mS_of h (by rw [b.1])
    obtain ⟨τ1, b1, g1⟩ := M_cl1 (r8 := f_X11_clears_L8 f) (a := a) (m := 0) (x9 := -1) (e := Ps k 4 + Ps k 2 - 1) (f := F + 3) hM hS (show k < np by omega) ht (by rw [Int32.add_assoc, Int32.add_comm (-1), ← Int32.add_assoc, nI_add]; exact sb_m1 (by omega)) (by omega) (by decide)
    have hM1 := keep b1 hM
    have hS1 := keepS b1 hS
    obtain ⟨τ2, b2, g2⟩ := M_cl1 (r8 := f_X11_clears_L8 f) (a := a) (m := b2n (thN Ps S t k ((Ps k 4 + Ps k 2 - 1) % Ps k 2))) (x9 := 0) (e := Ps k 4 + Ps k 2) (f := F + 2) hM1 hS1 (show k < np by omega) ht (by rw [Int32.add_zero, nI_add]) (by omega) (by decide)
    have hM2 := keep b2 hM1
    have hS2 := keepS b2 hS1
    have e0 : (Ps k 4 + Ps k 2) % Ps k 2 = Ps k 4 := by rw [Nat.add_mod_right, Nat.mod_eq_of_lt a1]
    rw [e0] at g2
    obtain ⟨τ3, b3, g3⟩ := M_cl1 (r8 := f_X11_clears_L8 f) (a := a) (m := b2n (thN Ps S t k ((Ps k 4 + Ps k 2 - 1) % Ps k 2)) + 2 * b2n (thN Ps S t k (Ps k 4))) (x9 := 1) (e := Ps k 4 + Ps k 2 + 1) (f := F + 1) hM2 hS2 (show k < np by omega) ht (by rw [n_1, nI_add, nI_add]; congr 1; omega) (by omega) (by decide)
    have hM3 := keep b3 hM2
    have hS3 := keepS b3 hS2
    obtain ⟨τ4, g4, b4⟩ := M_clL (s := s) (np := np) (t := t) (Ps := Ps) (S := S) ht n f (k + 1) (a * wgN Ps S t k) τ3 (by omega) (by omega) hnext hM3 hS3
    have v1' : τ3.2.1 1 (5 * k + 1) = nI (Ps k 1) := (hM3.2.2 k (by omega)).2.1 1 (by omega)
    refine ⟨τ4, ?_, by rw [b4.1, b3.1, b2.1, b1.1], fun j j6 j7 => by rw [b4.2 j j6 j7, b3.2 j j6 j7, b2.2 j j6 j7, b1.2 j j6 j7]⟩
    rw [f_X11_clears_L8]
    have hn0 : (nI 0 : Int32) = 0 := rfl
    simp (disch := omega) only [rF, hM.1, le_n, if_neg, n_5, n_2, n_4, pk_mul, nI_add, chk_i, rA_n, v2, v4, cr_let]
    rw [hF]
    rw [hn0] at g1
    rw [g1, show ((-1 : Int32) + 1) = 0 from by decide]
    have m1 : 0 + (if (-1 : Int32) = 0 then 2 else 1) * b2n (thN Ps S t k ((Ps k 4 + Ps k 2 - 1) % Ps k 2)) = b2n (thN Ps S t k ((Ps k 4 + Ps k 2 - 1) % Ps k 2)) := by simp
    rw [m1, g2, show ((0 : Int32) + 1) = 1 from by decide]
    simp only [if_true]
    rw [g3, show ((1 : Int32) + 1) = 2 from by decide]
    have m3 : b2n (thN Ps S t k ((Ps k 4 + Ps k 2 - 1) % Ps k 2)) + 2 * b2n (thN Ps S t k (Ps k 4)) + (if (1 : Int32) = 0 then 2 else 1) * b2n (thN Ps S t k ((Ps k 4 + Ps k 2 + 1) % Ps k 2)) = wgN Ps S t k := by
      unfold wgN
      simp
      omega
    rw [m3, f_X11_clears_L49]
    simp (disch := omega) only [show (2 : Int32) ≤ 2 from by decide, if_true, f_X11_clears_B112, cr_let, n_5, n_1, pk_mul, nI_add, chk_i, M_high hS3, Option.bind_some, rA_n, v1', M_upwards, M_span hS3]
    have e9 : tN Ps S t k + (cu (Ps k 1) (hiN S) + cu (spN S) (hiN S)) = tN Ps S t (k + 1) := by simp only [tN]; omega
    rw [e9]
    exact g4
theorem M_clears {τ : cr_S} {s np t : Nat} {Ps : Nat → Nat → Nat} {S : Nat → Nat} (hM : mStr τ np Ps) (hS : mS τ s S) (ht : t < 80000) : ∃ τ', f_X11_clears τ (nI s) (nI t) = some (τ', nI (fgN (wgN Ps S t) np 0 1)) ∧ b12 τ τ' := by
  have hnp := hM.2.1
  have : (4 : Nat) ^ np ≤ 4 ^ 6 := Nat.pow_le_pow_right (by omega) hnp
  unfold f_X11_clears
  rw [n_1, n_0]
  exact M_clL (t := t) ht np cr_fuel 0 1 τ (by omega) (by rw [cr_fuel_v]; omega) (by omega) hM hS

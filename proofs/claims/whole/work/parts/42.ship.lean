/-! reads behind writes -/
theorem sF_1 {σ : cr_S} {o k o' k' : Nat} {v : Int32} : (sF σ o k v).1 o' k' = if o' = o ∧ k' = k then v else σ.1 o' k' := by
  unfold sF
  by_cases q : o' = o
  · subst q
    by_cases r : k' = k
    · subst r; simp [va_up_self, pk_us]
    · simp [va_up_self, pk_un r, r]
  · simp [va_up_ne _ _ q, q]
theorem sF_2 {σ : cr_S} {o k : Nat} {v : Int32} : (sF σ o k v).2 = σ.2 := rfl
theorem sA_1 {σ : cr_S} {o : Nat} {i v : Int32} : (sA σ o i v).1 = σ.1 := rfl
theorem sA_22 {σ : cr_S} {o : Nat} {i v : Int32} : (sA σ o i v).2.2 = σ.2.2 := rfl
theorem sA_21 {σ : cr_S} {o i o' j : Nat} {v : Int32} (hi : i < 2147483648) : (sA σ o (nI i) v).2.1 o' j = if o' = o ∧ j = i then v else σ.2.1 o' j := by
  unfold sA
  rw [nI_clamp (by simpa using hi)]
  by_cases q : o' = o
  · subst q
    by_cases r : j = i
    · subst r; simp [va_up_self, pk_us]
    · simp [va_up_self, pk_un r, r]
  · simp [va_up_ne _ _ q, q]
theorem sL_1 {σ : cr_S} {o : Nat} {i : Int32} {v : Int64} : (sL σ o i v).1 = σ.1 := rfl
theorem sL_21 {σ : cr_S} {o : Nat} {i : Int32} {v : Int64} : (sL σ o i v).2.1 = σ.2.1 := rfl
theorem sL_22 {σ : cr_S} {o i o' j : Nat} {v : Int64} (hi : i < 2147483648) : (sL σ o (nI i) v).2.2 o' j = if o' = o ∧ j = i then v else σ.2.2 o' j := by
  unfold sL
  rw [nI_clamp (by simpa using hi)]
  by_cases q : o' = o
  · subst q
    by_cases r : j = i
    · subst r; simp [va_up_self, pk_uLs]
    · simp [va_up_self, pk_uLn r, r]
  · simp [va_up_ne _ _ q, q]
def hiN (S : Nat → Nat) : Nat := if (S 0 = 1 ∨ S 0 = 3) ∧ 2 < S 2 then 2 else S 2
def loN (S : Nat → Nat) : Nat := if S 0 = 2 then hiN S else 1
def spN (S : Nat → Nat) : Nat := if S 0 = 3 then S 1 + 2 else S 1
def cu (a b : Nat) : Nat := (a + b - 1) / b
theorem hi_in {S : Nat → Nat} (h : okS S) : 1 ≤ hiN S ∧ hiN S ≤ 5 := by
  unfold hiN okS at *
  split <;> omega
theorem lo_in {S : Nat → Nat} (h : okS S) : 1 ≤ loN S ∧ loN S ≤ hiN S := by
  have := hi_in h
  unfold loN
  split <;> omega
theorem sp_in {S : Nat → Nat} (h : okS S) : 1 ≤ spN S ∧ spN S ≤ 11 := by
  unfold spN okS at *
  split <;> omega
theorem cu_in {a b : Nat} (ha : 1 ≤ a) (hb : 1 ≤ b) : 1 ≤ cu a b ∧ cu a b ≤ a := by
  unfold cu
  refine ⟨(Nat.le_div_iff_mul_le (by omega)).mpr (by omega), ?_⟩
  rw [Nat.div_le_iff_le_mul_add_pred (by omega)]
  obtain ⟨k, rfl⟩ : ∃ k, a = k + 1 := ⟨a - 1, by omega⟩
  obtain ⟨j, rfl⟩ : ∃ j, b = j + 1 := ⟨b - 1, by omega⟩
  have : (j + 1) * (k + 1) = j * k + j + k + 1 := by rw [Nat.mul_add, Nat.add_mul]; omega
  omega
theorem M_high {τ : cr_S} {p : Nat} {S : Nat → Nat} (hS : mS τ p S) : f_X11_high τ (nI p) = some (τ, nI (hiN S)) := by
  obtain ⟨hp, hv, o0, o1, o2, o3, o4⟩ := hS
  have v0 := hv 0 (by omega)
  have v2 := hv 2 (by omega)
  rw [Nat.add_zero] at v0
  simp (disch := omega) only [f_X11_high, n_3, n_2, n_1, pk_mul, nI_add, rA_n, chk_i, v0, v2, cr_let, rem_n, eq_n, le_n]
  unfold hiN
  rcases (show S 0 = 0 ∨ S 0 = 1 ∨ S 0 = 2 ∨ S 0 = 3 by omega) with q | q | q | q <;> simp only [q] <;> by_cases z : S 2 ≤ 2 <;> simp [z, Nat.not_lt.mpr, Nat.lt_of_not_le]
theorem M_low {τ : cr_S} {p : Nat} {S : Nat → Nat} (hS : mS τ p S) : f_X11_low τ (nI p) = some (τ, nI (loN S)) := by
  have hh := M_high hS
  obtain ⟨hp, hv, o0, o1, o2, o3, o4⟩ := hS
  have v0 := hv 0 (by omega)
  rw [Nat.add_zero] at v0
  simp (disch := omega) only [f_X11_low, n_3, n_2, n_1, pk_mul, rA_n, chk_i, v0, eq_n, hh, Option.bind_some]
  unfold loN
  by_cases q : S 0 = 2 <;> simp [q]
theorem M_span {τ : cr_S} {p : Nat} {S : Nat → Nat} (hS : mS τ p S) : f_X11_span τ (nI p) = some (τ, nI (spN S)) := by
  obtain ⟨hp, hv, o0, o1, o2, o3, o4⟩ := hS
  have v0 := hv 0 (by omega)
  have v1 := hv 1 (by omega)
  rw [Nat.add_zero] at v0
  simp (disch := omega) only [f_X11_span, n_3, n_2, n_1, n_0, pk_mul, nI_add, rA_n, chk_i, v0, v1, eq_n]
  unfold spN
  by_cases q : S 0 = 3 <;> simp [q, nI_add]
theorem C_high {σ : cr_S} {o : Nat} {S : Nat → Nat} (hS : cS σ o S) : f_X6_high σ o = some (σ, nI (hiN S)) := by
  obtain ⟨hp, hv, o0, o1, o2, o3, o4⟩ := hS
  have v0 := hv 0 (by omega)
  have v2 := hv 2 (by omega)
  simp (disch := omega) only [f_X6_high, f_X6_high_B16, f_X6_high_B21, chk_t hp, rF, n_3, n_2, n_1, n_0, v0, v2, eq_n, le_n]
  unfold hiN
  rcases (show S 0 = 0 ∨ S 0 = 1 ∨ S 0 = 2 ∨ S 0 = 3 by omega) with q | q | q | q <;> simp only [q] <;> by_cases z : S 2 ≤ 2 <;> simp (disch := omega) [z, Nat.not_lt.mpr, Nat.lt_of_not_le, eq_n]
theorem C_low {σ : cr_S} {o : Nat} {S : Nat → Nat} (hS : cS σ o S) : f_X6_low σ o = some (σ, nI (loN S)) := by
  have hh := C_high hS
  obtain ⟨hp, hv, o0, o1, o2, o3, o4⟩ := hS
  have v0 := hv 0 (by omega)
  simp (disch := omega) only [f_X6_low, chk_t hp, rF, n_2, n_1, v0, eq_n, hh, Option.bind_some]
  unfold loN
  by_cases q : S 0 = 2 <;> simp [q]
theorem C_span {σ : cr_S} {o : Nat} {S : Nat → Nat} (hS : cS σ o S) : f_X6_span σ o = some (σ, nI (spN S)) := by
  obtain ⟨hp, hv, o0, o1, o2, o3, o4⟩ := hS
  have v0 := hv 0 (by omega)
  have v1 := hv 1 (by omega)
  simp (disch := omega) only [f_X6_span, chk_t hp, rF, n_3, n_2, v0, v1, eq_n, nI_add]
  unfold spN
  by_cases q : S 0 = 3 <;> simp [q]
theorem M_upwards {τ : cr_S} {a b : Nat} (hb : 1 ≤ b) (ha : a < 1000) (hb2 : b < 1000) : f_X11_upwards τ (nI a) (nI b) = some (τ, nI (cu a b)) := by
  simp (disch := omega) only [f_X11_upwards, chk_0, n_1, nI_add, sub_n, div_n, cu]
theorem C_secondsFor {σ : cr_S} {a b : Nat} (hb : 1 ≤ b) (ha : a < 1000) (hb2 : b < 1000) : f_X10_secondsFor σ (nI a) (nI b) = some (σ, nI (cu a b)) := by
  simp (disch := omega) only [f_X10_secondsFor, chk_0, n_1, nI_add, sub_n, div_n, cu, le_n, if_pos]

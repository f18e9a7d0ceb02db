/-! a pair, a ship: what they are, and whether a pair is open -/
def okP (P : Nat → Nat) : Prop := P 0 ≤ 3 ∧ 1 ≤ P 1 ∧ P 1 ≤ 30 ∧ 2 ≤ P 2 ∧ P 2 ≤ 24 ∧ 1 ≤ P 3 ∧ P 3 ≤ P 2 ∧ P 4 < P 2
def okS (S : Nat → Nat) : Prop := S 0 ≤ 3 ∧ 1 ≤ S 1 ∧ S 1 ≤ 9 ∧ 1 ≤ S 2 ∧ S 2 ≤ 5
def mP (τ : cr_S) (p : Nat) (P : Nat → Nat) : Prop := p < 6 ∧ (∀ j, j < 5 → τ.2.1 1 (5 * p + j) = nI (P j)) ∧ okP P
def cP (σ : cr_S) (o : Nat) (P : Nat → Nat) : Prop := kC o = 3 ∧ (∀ j, j < 5 → σ.1 o j = nI (P j)) ∧ okP P
def mS (τ : cr_S) (p : Nat) (S : Nat → Nat) : Prop := p < 5 ∧ (∀ j, j < 3 → τ.2.1 2 (3 * p + j) = nI (S j)) ∧ okS S
def cS (σ : cr_S) (o : Nat) (S : Nat → Nat) : Prop := kC o = 6 ∧ (∀ j, j < 3 → σ.1 o j = nI (S j)) ∧ okS S
def openN (P : Nat → Nat) (t ph : Nat) : Bool :=
  if P 0 = 1 then plainN (P 2) (P 3) (t / 2) ph
  else if P 0 = 2 then (plainN (P 2) (P 3) t ph || plainN (P 2) (P 3) (t + P 2 / 2) ph)
  else if P 0 = 3 then (decide (0 < t) && plainN (P 2) (P 3) (t / 2) ph && plainN (P 2) (P 3) ((t - 1) / 2) ph)
  else plainN (P 2) (P 3) t ph
theorem ite_b {b : Bool} : (if bI b = 0 then (0 : Int32) else 1) = bI b := by cases b <;> simp [bI]
theorem bI_t : bI true = 1 := rfl
theorem bI_f : bI false = 0 := rfl
theorem M_isOpen {τ : cr_S} {p t ph : Nat} {P : Nat → Nat} (hP : mP τ p P) (ht : t < 500000) (hph : ph < 1000) : f_X11_isOpen τ (nI p) (nI t) (nI ph) = some (τ, bI (openN P t ph)) := by
  obtain ⟨hp, hv, o0, o1, o2, o3, o4, o5, o6, o7⟩ := hP
  have v0 := hv 0 (by omega)
  have v2 := hv 2 (by omega)
  have v3 := hv 3 (by omega)
  rw [Nat.add_zero] at v0
  have pl : ∀ u, u < 1000000 → f_X11_isPlain τ (nI p) (nI u) (nI ph) = some (τ, bI (plainN (P 2) (P 3) u ph)) := fun u hu => M_isPlain hp v2 v3 (by omega) o4 (by omega) hu (by omega)
  have k1 : ∀ u, nI u / nI 2 = nI (u / 2) ∨ 2147483648 ≤ u := fun u => by
    by_cases q : u < 2147483648
    · exact Or.inl (div_n q (by omega) (by omega))
    · exact Or.inr (by omega)
  unfold f_X11_isOpen
  simp (disch := omega) only [n_5, n_2, n_3, n_0, n_1, pk_mul, nI_add, rA_n, chk_i, v0, v2, cr_let, eq_n, le_n, div_n, pl, Option.bind_some, sub_n]
  rcases (show P 0 = 0 ∨ P 0 = 1 ∨ P 0 = 2 ∨ P 0 = 3 by omega) with q | q | q | q
  · simp [q, openN, chk_t (isB_b _)]
  · simp [q, openN, chk_t (isB_b _)]
  · simp only [q, openN]
    cases plainN (P 2) (P 3) t ph <;> simp [bI_t, bI_f, ← n_0, ← n_1, ite_b, chk_t (isB_b _)]
  · simp only [q, openN]
    by_cases z : t = 0
    · simp [z, bI_f, ← n_0]
    · have z2 : 0 < t := by omega
      have z3 : t - 1 < 1000000 := by omega
      try simp (disch := omega) only [pl, sub_n, div_n]
      cases plainN (P 2) (P 3) (t / 2) ph <;> cases plainN (P 2) (P 3) ((t - 1) / 2) ph <;> simp [z, z2, bI_t, bI_f, ← n_0, ← n_1]
theorem C_isOpenAt {σ : cr_S} {o t ph : Nat} {P : Nat → Nat} (hP : cP σ o P) (ht : t < 500000) (hph : ph < 1000) : f_X3_isOpenAt σ o (nI t) (nI ph) = some (σ, bI (openN P t ph)) := by
  obtain ⟨hp, hv, o0, o1, o2, o3, o4, o5, o6, o7⟩ := hP
  have v0 := hv 0 (by omega)
  have v2 := hv 2 (by omega)
  have v3 := hv 3 (by omega)
  have pl : ∀ u, u < 1000000 → f_X3_isPlainOpen σ o (nI u) (nI ph) = some (σ, bI (plainN (P 2) (P 3) u ph)) := fun u hu => C_isPlain hp v2 v3 (by omega) o4 (by omega) hu (by omega)
  unfold f_X3_isOpenAt
  simp (disch := omega) only [n_2, n_3, n_0, n_1, nI_add, rF, chk_t hp, v0, v2, cr_let, eq_n, le_n, div_n, pl, Option.bind_some, sub_n]
  rcases (show P 0 = 0 ∨ P 0 = 1 ∨ P 0 = 2 ∨ P 0 = 3 by omega) with q | q | q | q
  · simp [q, openN, chk_t (isB_b _)]
  · simp [q, openN, chk_t (isB_b _)]
  · simp only [q, openN]
    cases plainN (P 2) (P 3) t ph <;> simp [bI_t, bI_f, ← n_0, ← n_1, ite_b, chk_t (isB_b _)]
  · simp only [q, openN]
    by_cases z : t = 0
    · simp [z, bI_f, ← n_0]
    · have z2 : 0 < t := by omega
      try simp (disch := omega) only [pl, sub_n, div_n]
      cases plainN (P 2) (P 3) (t / 2) ph <;> cases plainN (P 2) (P 3) ((t - 1) / 2) ph <;> simp [z, z2, bI_t, bI_f, ← n_0, ← n_1]

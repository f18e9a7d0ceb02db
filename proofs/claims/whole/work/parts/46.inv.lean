/-! what holds between the class's world and the reference's -/
def inR (a b c : Int32) : Bool := decide (b ≤ a ∧ a ≤ c)
theorem C_within {σ : cr_S} {a b c : Int32} : f_X10_isWithin σ a b c = some (σ, bI (inR a b c)) := by
  unfold f_X10_isWithin inR
  by_cases h1 : a < b
  · have h2 : ¬ b ≤ a := Int32.not_le.mpr h1
    simp [h1, h2, bI]
  · have h2 : b ≤ a := Int32.not_lt.mp h1
    by_cases h3 : c < a
    · have h4 : ¬ a ≤ c := Int32.not_le.mpr h3
      simp [h1, h3, h4, bI]
    · have h4 : a ≤ c := Int32.not_lt.mp h3
      simp [h1, h3, h2, h4, bI]
theorem cmp_lt (x y : Int64) : lg_cmp x y < 0 ↔ x < y := by
  unfold lg_cmp
  by_cases h : y < x
  · have : ¬ x < y := Int64.lt_asymm h
    simp [h, this]
  · by_cases e : x = y
    · subst e; simp [Int64.lt_irrefl]
    · have q : x < y := by
        rcases Int64.lt_or_eq_of_le (Int64.not_lt.mp h) with q | q
        · exact q
        · exact absurd q e
      simp [h, e, q]
theorem cmp_gt (x y : Int64) : 0 < lg_cmp x y ↔ y < x := by
  unfold lg_cmp
  by_cases h : y < x
  · simp [h]
  · by_cases e : x = y
    · subst e; simp [Int64.lt_irrefl]
    · simp [h, e]
theorem w_lt (a b : Int32) : a.toInt64 < b.toInt64 ↔ a < b := by
  rw [Int64.lt_iff_toInt_lt, Int32.lt_iff_toInt_lt, Int32.toInt_toInt64, Int32.toInt_toInt64]
theorem M_in {τ : cr_S} {a b c : Int32} : f_X11_in τ (Int32.toInt64 a) (Int32.toInt64 b) (Int32.toInt64 c) = some (τ, bI (inR a b c)) := by
  unfold f_X11_in inR
  simp only [cmp_lt, cmp_gt, w_lt]
  by_cases h1 : a < b
  · have h2 : ¬ b ≤ a := Int32.not_le.mpr h1
    simp [h1, h2, bI]
  · have h2 : b ≤ a := Int32.not_lt.mp h1
    by_cases h3 : c < a
    · have h4 : ¬ a ≤ c := Int32.not_le.mpr h3
      simp [h1, h3, h4, bI]
    · have h4 : a ≤ c := Int32.not_lt.mp h3
      simp [h1, h3, h2, h4, bI]
theorem inR_n {a : Int32} {n : Nat} (hn : n < 1000000) (h : inR a 0 (nI n - 1) = true) : ∃ k, k < n ∧ a = nI k := by
  unfold inR at h
  have h := of_decide_eq_true h
  have h1 := Int32.le_iff_toInt_le.mp h.1
  have h2 := Int32.le_iff_toInt_le.mp h.2
  have e0 : (0 : Int32).toInt = 0 := rfl
  have e1 : (nI n - 1).toInt = (n : Int) - 1 := by
    rw [n_1, pk_sub_toInt (by omega) (by omega)]
    rfl
  rw [e0] at h1
  rw [e1] at h2
  obtain ⟨j, hj, rfl⟩ := nI_of (x := a) (fun q => by have := Int32.lt_iff_toInt_lt.mp q; rw [e0] at this; omega)
  rw [nI_toInt hj] at h2
  exact ⟨j, by omega, rfl⟩
theorem inR_m {a : Int32} {n : Nat} (hn : n < 1000000) (h : inR a 0 (nI n) = true) : ∃ k, k ≤ n ∧ a = nI k := by
  unfold inR at h
  have h := of_decide_eq_true h
  have h1 := Int32.le_iff_toInt_le.mp h.1
  have h2 := Int32.le_iff_toInt_le.mp h.2
  have e0 : (0 : Int32).toInt = 0 := rfl
  rw [e0] at h1
  rw [nI_toInt (by omega)] at h2
  obtain ⟨j, hj, rfl⟩ := nI_of (x := a) (fun q => by have := Int32.lt_iff_toInt_lt.mp q; rw [e0] at this; omega)
  rw [nI_toInt hj] at h2
  exact ⟨j, by omega, rfl⟩
theorem inR_l {a : Int32} {l n : Nat} (hl : l < 1000000) (hn : n < 1000000) (h : inR a (nI l) (nI n) = true) : ∃ k, l ≤ k ∧ k ≤ n ∧ a = nI k := by
  have h' := of_decide_eq_true h
  have h1 := Int32.le_iff_toInt_le.mp h'.1
  rw [nI_toInt (by omega)] at h1
  have h2 := Int32.le_iff_toInt_le.mp h'.2
  rw [nI_toInt (by omega)] at h2
  have e0 : (0 : Int32).toInt = 0 := rfl
  obtain ⟨j, hj, rfl⟩ := nI_of (x := a) (fun q => by have := Int32.lt_iff_toInt_lt.mp q; rw [e0] at this; omega)
  rw [nI_toInt hj] at h1 h2
  exact ⟨j, by omega, by omega, rfl⟩
/-- a voyage: clock, who is out, pairs passed, scrapes -/
def rVoy (c m : Nat → Int32) (ns : Nat) : Prop := ∃ clk psd : Nat, clk ≤ 9999 ∧ psd ≤ 6 ∧ c 0 = nI clk ∧ m 0 = nI clk ∧ c 2 = nI psd ∧ m 2 = nI psd ∧ c 3 = m 3 ∧ ((c 1 = -1 ∧ m 1 = -4) ∨ ∃ o, o < ns ∧ c 1 = nI o ∧ m 1 = nI o)
/-- the waters at w of the class, and the reference's numbers and rows -/
def rW (σ : cr_S) (w : Nat) (m0 m1 m2 m3 m4 : Int32) (mp ms mv mu mw me : Nat → Int32) (np ns nu nl : Nat) (Ps Ss : Nat → Nat → Nat) : Prop :=
  (σ.1 w 5 = nI np ∧ m0 = nI np ∧ np ≤ 6) ∧ (σ.1 w 6 = nI ns ∧ m1 = nI ns ∧ ns ≤ 5) ∧ σ.1 w 8 = m2 ∧ (σ.1 w 7 = nI nu ∧ m3 = nI nu ∧ nu ≤ 8) ∧ (σ.1 (w + 5) 2 = nI nl ∧ m4 = nI nl ∧ nl ≤ 12) ∧
  (∀ k, k < np → okP (Ps k) ∧ ∀ j, j < 5 → σ.1 (w + 8 + k) j = nI (Ps k j) ∧ mp (5 * k + j) = nI (Ps k j)) ∧
  (∀ k, k < ns → okS (Ss k) ∧ ∀ j, j < 3 → σ.1 (w + 14 + k) j = nI (Ss k j) ∧ ms (3 * k + j) = nI (Ss k j)) ∧
  rVoy (σ.1 (w + 3)) mv ns ∧ (∀ k, k < nu → rVoy (σ.1 (w + 19 + k)) (fun j => mu (4 * k + j)) ns) ∧
  (∀ k, k < nl → ∃ t b : Nat, t ≤ 9999 ∧ b ≤ 1 ∧ σ.2.1 (w + 6) k = nI t ∧ mw k = nI t ∧ σ.2.1 (w + 7) k = nI b ∧ me k = nI b)
def rMain (σ τ : cr_S) (np ns nu nl : Nat) (Ps Ss : Nat → Nat → Nat) : Prop := rW σ 1 (τ.1 0 0) (τ.1 0 1) (τ.1 0 5) (τ.1 0 20) (τ.1 0 22) (τ.2.1 1) (τ.2.1 2) (τ.2.1 3) (τ.2.1 8) (τ.2.1 10) (τ.2.1 11) np ns nu nl Ps Ss
def rKp (σ τ : cr_S) : Prop := (σ.1 0 2 = 0 ∧ τ.1 0 29 = 0) ∨ (σ.1 0 2 = 1 ∧ τ.1 0 29 = 1 ∧ ∃ np ns nu nl Ps Ss, rW σ 28 (τ.2.1 12 0) (τ.2.1 12 1) (τ.2.1 12 2) (τ.2.1 12 3) (τ.2.1 12 4) (fun i => τ.2.1 12 (5 + i)) (fun i => τ.2.1 12 (35 + i)) (fun i => τ.2.1 12 (50 + i)) (fun i => τ.2.1 12 (54 + i)) (fun i => τ.2.1 12 (86 + i)) (fun i => τ.2.1 12 (98 + i)) np ns nu nl Ps Ss)
def rTp (σ τ : cr_S) : Prop := ∃ nt : Nat, nt ≤ 100 ∧ σ.1 55 3 = nI nt ∧ τ.1 0 12 = nI nt ∧ ∀ k, k < nt → ∃ ch : Nat, 32 ≤ ch ∧ ch ≤ 126 ∧ σ.2.1 56 k = nI ch ∧ τ.2.1 5 k = nI ch
def rSh (σ τ : cr_S) : Prop := ∀ k, k < 4 → (σ.1 (89 + 2 * k) 1 = 0 ∧ τ.2.1 13 k = -1) ∨ ∃ ln m : Nat, ln ≤ 3 ∧ m ≤ 16 ∧ σ.1 (89 + 2 * k) 1 = 1 ∧ σ.1 (89 + 2 * k) 2 = nI ln ∧ τ.2.1 13 k = nI ln ∧ σ.1 (89 + 2 * k) 3 = nI m ∧ τ.2.1 14 k = nI m ∧ ∀ i, i < 16 → σ.2.2 (90 + 2 * k) i = τ.2.2 15 (16 * k + i)
def Inv (σ τ : cr_S) : Prop := (∃ np ns nu nl Ps Ss, rMain σ τ np ns nu nl Ps Ss) ∧ rKp σ τ ∧ rTp σ τ ∧ rSh σ τ
/-- a call answers alike, and what holds between the worlds goes on -/
def Step (σ τ : cr_S) (x y : Option (cr_S × Int32)) : Prop := ∃ σ' τ' r, x = some (σ', r) ∧ y = some (τ', r) ∧ Inv σ' τ'
/-- what the queries leave as it was -/
def cSame (σ σ' : cr_S) : Prop := (∀ o j, (o < 70 ∨ 88 ≤ o) → σ'.1 o j = σ.1 o j) ∧ (∀ o j, (o < 70 ∨ 88 ≤ o) → σ'.2.1 o j = σ.2.1 o j) ∧ σ'.2.2 = σ.2.2
def mKeep (j : Nat) : Prop := j ≠ 6 ∧ j ≠ 7 ∧ j ≠ 8 ∧ j ≠ 9 ∧ j ≠ 13 ∧ j ≠ 14 ∧ j ≠ 17 ∧ j ≠ 18 ∧ j ≠ 25 ∧ j ≠ 26 ∧ j ≠ 27
def mSame (τ τ' : cr_S) : Prop := (∀ j, mKeep j → τ'.1 0 j = τ.1 0 j) ∧ (∀ o, o ≠ 4 → o ≠ 6 → o ≠ 7 → o ≠ 9 → τ'.2.1 o = τ.2.1 o) ∧ τ'.2.2 15 = τ.2.2 15
theorem cSame.rf {σ : cr_S} : cSame σ σ := ⟨fun _ _ _ => rfl, fun _ _ _ => rfl, rfl⟩
theorem mSame.rf {τ : cr_S} : mSame τ τ := ⟨fun _ _ => rfl, fun _ _ _ _ _ => rfl, rfl⟩
theorem cSame.tr {a b c : cr_S} (h : cSame a b) (g : cSame b c) : cSame a c := ⟨fun o j q => (g.1 o j q).trans (h.1 o j q), fun o j q => (g.2.1 o j q).trans (h.2.1 o j q), g.2.2.trans h.2.2⟩
theorem mSame.tr {a b c : cr_S} (h : mSame a b) (g : mSame b c) : mSame a c := ⟨fun j q => (g.1 j q).trans (h.1 j q), fun o a1 a2 a3 a4 => (g.2.1 o a1 a2 a3 a4).trans (h.2.1 o a1 a2 a3 a4), g.2.2.trans h.2.2⟩
theorem rW_of {σ σ' : cr_S} {w : Nat} {m0 m1 m2 m3 m4 : Int32} {mp ms mv mu mw me : Nat → Int32} {np ns nu nl : Nat} {Ps Ss : Nat → Nat → Nat} (h : rW σ w m0 m1 m2 m3 m4 mp ms mv mu mw me np ns nu nl Ps Ss) (e1 : ∀ o j, w ≤ o → o < w + 27 → σ'.1 o j = σ.1 o j) (e2 : ∀ o j, w ≤ o → o < w + 27 → σ'.2.1 o j = σ.2.1 o j) : rW σ' w m0 m1 m2 m3 m4 mp ms mv mu mw me np ns nu nl Ps Ss := by
  obtain ⟨⟨a1, a2, a3⟩, ⟨b1, b2, b3⟩, c1, ⟨d1, d2, d3⟩, ⟨f1, f2, f3⟩, g, i, v, u, k⟩ := h
  have ev : ∀ o, w ≤ o → o < w + 27 → σ'.1 o = σ.1 o := fun o h1 h2 => funext fun j => e1 o j h1 h2
  refine ⟨⟨by rw [ev _ (by omega) (by omega)]; exact a1, a2, a3⟩, ⟨by rw [ev _ (by omega) (by omega)]; exact b1, b2, b3⟩, by rw [ev _ (by omega) (by omega)]; exact c1, ⟨by rw [ev _ (by omega) (by omega)]; exact d1, d2, d3⟩, ⟨by rw [ev _ (by omega) (by omega)]; exact f1, f2, f3⟩, fun q hq => ⟨(g q hq).1, fun j hj => ?_⟩, fun q hq => ⟨(i q hq).1, fun j hj => ?_⟩, ?_, fun q hq => ?_, fun q hq => ?_⟩
  · rw [ev _ (by omega) (by omega)]; exact (g q hq).2 j hj
  · rw [ev _ (by omega) (by omega)]; exact (i q hq).2 j hj
  · rw [ev _ (by omega) (by omega)]; exact v
  · rw [ev _ (by omega) (by omega)]; exact u q hq
  · obtain ⟨t, b, z⟩ := k q hq
    exact ⟨t, b, by rw [e2 _ _ (by omega) (by omega), e2 _ _ (by omega) (by omega)]; exact z⟩
theorem Inv_same {σ σ' τ τ' : cr_S} (h : Inv σ τ) (c : cSame σ σ') (m : mSame τ τ') : Inv σ' τ' := by
  obtain ⟨⟨np, ns, nu, nl, Ps, Ss, h1⟩, h2, ⟨nt, t1, t2, t3, t4⟩, h4⟩ := h
  obtain ⟨c1, c2, c3⟩ := c
  obtain ⟨m1, m2, m3⟩ := m
  refine ⟨⟨np, ns, nu, nl, Ps, Ss, ?_⟩, ?_, ⟨nt, t1, ?_, ?_, fun k hk => ?_⟩, fun k hk => ?_⟩
  · unfold rMain at h1 ⊢
    rw [m1 0 (by unfold mKeep; omega), m1 1 (by unfold mKeep; omega), m1 5 (by unfold mKeep; omega), m1 20 (by unfold mKeep; omega), m1 22 (by unfold mKeep; omega), m2 1 (by omega) (by omega) (by omega) (by omega), m2 2 (by omega) (by omega) (by omega) (by omega), m2 3 (by omega) (by omega) (by omega) (by omega), m2 8 (by omega) (by omega) (by omega) (by omega), m2 10 (by omega) (by omega) (by omega) (by omega), m2 11 (by omega) (by omega) (by omega) (by omega)]
    exact rW_of h1 (fun o j h1 h2 => c1 o j (by omega)) (fun o j h1 h2 => c2 o j (by omega))
  · unfold rKp at h2 ⊢
    rw [c1 0 2 (by omega), m1 29 (by unfold mKeep; omega), m2 12 (by omega) (by omega) (by omega) (by omega)]
    rcases h2 with h2 | ⟨q1, q2, a, b, d, e, f, g, q⟩
    · exact Or.inl h2
    · exact Or.inr ⟨q1, q2, a, b, d, e, f, g, rW_of q (fun o j h1 h2 => c1 o j (by omega)) (fun o j h1 h2 => c2 o j (by omega))⟩
  · rw [c1 55 3 (by omega)]; exact t2
  · rw [m1 12 (by unfold mKeep; omega)]; exact t3
  · rw [c2 56 k (by omega), m2 5 (by omega) (by omega) (by omega) (by omega)]; exact t4 k hk
  · rw [c1 _ 1 (by omega), c1 _ 2 (by omega), c1 _ 3 (by omega), m2 13 (by omega) (by omega) (by omega) (by omega), m2 14 (by omega) (by omega) (by omega) (by omega), m3, c3]
    exact h4 k hk
theorem kC_p : ∀ k, k < 6 → kC (9 + k) = 3 := by decide
theorem kC_s : ∀ k, k < 5 → kC (15 + k) = 6 := by decide
theorem rM_c {σ τ : cr_S} {np ns nu nl : Nat} {Ps Ss : Nat → Nat → Nat} (h : rMain σ τ np ns nu nl Ps Ss) : cStr σ np Ps := by
  obtain ⟨⟨a1, a2, a3⟩, -, -, -, -, g, -⟩ := h
  refine ⟨a1, a3, fun k hk => ⟨kC_p k (by omega), fun j hj => ?_, (g k hk).1⟩⟩
  exact ((g k hk).2 j hj).1
theorem rM_m {σ τ : cr_S} {np ns nu nl : Nat} {Ps Ss : Nat → Nat → Nat} (h : rMain σ τ np ns nu nl Ps Ss) : mStr τ np Ps := by
  obtain ⟨⟨a1, a2, a3⟩, -, -, -, -, g, -⟩ := h
  exact ⟨a2, a3, fun k hk => ⟨by omega, fun j hj => ((g k hk).2 j hj).2, (g k hk).1⟩⟩
theorem rM_cS {σ τ : cr_S} {np ns nu nl : Nat} {Ps Ss : Nat → Nat → Nat} (h : rMain σ τ np ns nu nl Ps Ss) {k : Nat} (hk : k < ns) : cS σ (15 + k) (Ss k) := by
  obtain ⟨-, ⟨a1, a2, a3⟩, -, -, -, -, g, -⟩ := h
  exact ⟨kC_s k (by omega), fun j hj => ((g k hk).2 j hj).1, (g k hk).1⟩
theorem rM_mS {σ τ : cr_S} {np ns nu nl : Nat} {Ps Ss : Nat → Nat → Nat} (h : rMain σ τ np ns nu nl Ps Ss) {k : Nat} (hk : k < ns) : mS τ k (Ss k) := by
  obtain ⟨-, ⟨a1, a2, a3⟩, -, -, -, -, g, -⟩ := h
  exact ⟨by omega, fun j hj => ((g k hk).2 j hj).2, (g k hk).1⟩

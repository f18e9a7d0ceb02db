/-! numbers: Int32 as Nat where it is small -/
theorem n_1 : (1 : Int32) = nI 1 := id rfl
theorem n_2 : (2 : Int32) = nI 2 := id rfl
theorem n_3 : (3 : Int32) = nI 3 := id rfl
theorem n_4 : (4 : Int32) = nI 4 := id rfl
theorem n_5 : (5 : Int32) = nI 5 := id rfl
theorem n_6 : (6 : Int32) = nI 6 := id rfl
theorem n_0 : (0 : Int32) = nI 0 := id rfl
theorem rA_n {σ : cr_S} {o n : Nat} (h : n < 2147483648) : rA σ o (nI n) = σ.2.1 o n := by
  unfold rA
  rw [nI_clamp (by simpa using h)]
theorem rL_n {σ : cr_S} {o n : Nat} (h : n < 2147483648) : rL σ o (nI n) = σ.2.2 o n := by
  unfold rL
  rw [nI_clamp (by simpa using h)]
theorem chk_t {α : Type} {c : Prop} [Decidable c] {k : Option α} (h : c) : chk c k = k := if_pos h
theorem inb_n {n N : Nat} (h : n < N) (hN : N < 2147483648) : inb (nI n) N = true := decide_eq_true (nI_in h (by simpa using hN))
theorem chk_i {α : Type} {n N : Nat} {k : Option α} (h : n < N) (hN : N < 2147483648) : chk (inb (nI n) N) k = k := chk_t (inb_n h hN)
theorem ne0_n {n : Nat} (h0 : 0 < n) (h : n < 2147483648) : ¬ nI n = 0 := nI_ne0 h0 (by simpa using h)
theorem chk_0 {α : Type} {n : Nat} {k : Option α} (h0 : 0 < n) (h : n < 2147483648) : chk (¬ nI n = 0) k = k := chk_t (ne0_n h0 h)
theorem chk_0' {α : Type} {n : Nat} {k : Option α} (h0 : 0 < n) (h : n < 2147483648) : chk (¬ nI n = nI 0) k = k := chk_t (ne0_n h0 h)
theorem le_n {a b : Nat} (ha : a < 2147483648) (hb : b < 2147483648) : (nI a ≤ nI b) = (a ≤ b) := propext (nI_leI (by simpa using ha) (by simpa using hb))
theorem lt_n {a b : Nat} (ha : a < 2147483648) (hb : b < 2147483648) : (nI a < nI b) = (a < b) := propext (nI_ltI (by simpa using ha) (by simpa using hb))
theorem eq_n {a b : Nat} (ha : a < 2147483648) (hb : b < 2147483648) : (nI a = nI b) = (a = b) := propext (nI_eq (by simpa using ha) (by simpa using hb))
theorem rem_n {a d : Nat} (ha : a < 2147483648) (h0 : 0 < d) (hd : d < 2147483648) : nI a - nI a / nI d * nI d = nI (a % d) := pk_rem (by simpa using ha) h0 (by simpa using hd)
theorem div_n {a d : Nat} (ha : a < 2147483648) (h0 : 0 < d) (hd : d < 2147483648) : nI a / nI d = nI (a / d) := pk_div (by simpa using ha) h0 (by simpa using hd)
theorem sub_n {a b : Nat} (h : b ≤ a) : nI a - nI b = nI (a - b) := pk_sub h
theorem isB_0 : isB (nI 0) = true := by decide
theorem isB_1 : isB (nI 1) = true := by decide
def bI (b : Bool) : Int32 := if b then 1 else 0
theorem isB_b (b : Bool) : isB (bI b) = true := by cases b <;> decide
theorem bI_0 (b : Bool) : (bI b = 0) = (b = false) := by cases b <;> simp [bI]
def plainN (b og t ph : Nat) : Bool := decide ((t + ph) % b < og)
theorem M_isPlain {τ : cr_S} {p b og t ph : Nat} (hp : p < 6) (h2 : τ.2.1 1 (5 * p + 2) = nI b) (h3 : τ.2.1 1 (5 * p + 3) = nI og) (hb : 0 < b) (hb2 : b ≤ 24) (hog : og ≤ 24) (ht : t < 1000000) (hph : ph < 1000000) : f_X11_isPlain τ (nI p) (nI t) (nI ph) = some (τ, bI (plainN b og t ph)) := by
  have hm : (t + ph) % b < b := Nat.mod_lt _ hb
  simp (disch := omega) only [f_X11_isPlain, n_5, n_2, n_3, n_0, n_1, pk_mul, nI_add, rA_n, chk_i, h2, h3, chk_0', rem_n, le_n]
  by_cases q : og ≤ (t + ph) % b
  · simp only [if_pos q, chk_t isB_0]
    simp [bI, plainN, Nat.not_lt.mpr q, n_0]
  · simp only [if_neg q, chk_t isB_1]
    simp [bI, plainN, Nat.lt_of_not_le q, n_1]
theorem C_isPlain {σ : cr_S} {o b og t ph : Nat} (ho : kC o = 3) (h2 : σ.1 o 2 = nI b) (h3 : σ.1 o 3 = nI og) (hb : 0 < b) (hb2 : b ≤ 24) (hog : og ≤ 24) (ht : t < 1000000) (hph : ph < 1000000) : f_X3_isPlainOpen σ o (nI t) (nI ph) = some (σ, bI (plainN b og t ph)) := by
  have hm : (t + ph) % b < b := Nat.mod_lt _ hb
  simp (disch := omega) only [f_X3_isPlainOpen, chk_t ho, rF, h2, h3, n_0, le_n, if_neg, nI_add, chk_0', rem_n]
  by_cases q : og ≤ (t + ph) % b
  · simp only [if_pos q]
    simp [bI, plainN, Nat.not_lt.mpr q, n_0]
  · simp only [if_neg q]
    simp [bI, plainN, Nat.lt_of_not_le q, n_1]

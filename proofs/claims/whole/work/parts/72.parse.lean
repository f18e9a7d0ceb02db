/-! the readers of a strait: the letter that comes next, a letter that is taken -/
theorem isC_c : ∀ c, c < 127 → isC (nI c) = true := by decide +kernel
/-- what was typed -/
def tpC (σ : cr_S) (nt : Nat) (ch : Nat → Nat) : Prop := nt ≤ 100 ∧ σ.1 55 3 = nI nt ∧ ∀ k, k < nt → 32 ≤ ch k ∧ ch k ≤ 126 ∧ σ.2.1 56 k = nI (ch k)
def tpM (τ : cr_S) (nt : Nat) (ch : Nat → Nat) : Prop := nt ≤ 100 ∧ τ.1 0 12 = nI nt ∧ ∀ k, k < nt → 32 ≤ ch k ∧ ch k ≤ 126 ∧ τ.2.1 5 k = nI (ch k)
def atC (σ σ' : cr_S) (a : Nat) : Prop := σ'.2 = σ.2 ∧ (∀ o, o ≠ 55 → σ'.1 o = σ.1 o) ∧ (∀ j, j ≠ 6 → σ'.1 55 j = σ.1 55 j) ∧ σ'.1 55 6 = nI a
def atM (τ τ' : cr_S) (a : Nat) : Prop := τ'.2 = τ.2 ∧ (∀ j, j ≠ 13 → τ'.1 0 j = τ.1 0 j) ∧ τ'.1 0 13 = nI a
def skN (ch : Nat → Nat) (nt : Nat) : Nat → Nat → Nat
  | 0, a => a
  | n + 1, a => if a < nt ∧ ch a = 32 then skN ch nt n (a + 1) else a
def hrN (ch : Nat → Nat) (nt a : Nat) : Nat := if a < nt then ch a else 0
theorem sk_in {ch : Nat → Nat} {nt : Nat} : ∀ n a, a ≤ nt → a ≤ skN ch nt n a ∧ skN ch nt n a ≤ nt
  | 0, a, h => ⟨Nat.le_refl _, h⟩
  | n + 1, a, h => by
    rw [skN]
    by_cases z : a < nt ∧ ch a = 32
    · rw [if_pos z]
      have := sk_in (ch := ch) (nt := nt) n (a + 1) (by omega)
      omega
    · rw [if_neg z]
      omega
theorem C_hereB {σ : cr_S} {nt a : Nat} {ch : Nat → Nat} (ht : tpC σ nt ch) (h6 : σ.1 55 6 = nI a) (ha : a ≤ nt) : f_X7_letterHere_55_B38 σ = some (σ, nI (hrN ch nt a)) := by
  have h1 := ht.1
  unfold f_X7_letterHere_55_B38 hrN
  rw [show rF σ 55 3 = _ from ht.2.1, show rF σ 55 6 = _ from h6]
  by_cases z : a < nt
  · obtain ⟨w1, w2, w3⟩ := ht.2.2 a z
    rw [if_neg (by rw [le_n (by omega) (by omega)]; omega), chk_i (by omega) (by omega), rA_n (by omega), w3, chk_t (isC_c _ (by omega)), if_pos z]
  · rw [if_pos (by rw [le_n (by omega) (by omega)]; omega), chk_t (by decide), if_neg z]
    rfl
theorem C_hereL {nt : Nat} {ch : Nat → Nat} : ∀ (n f a : Nat) (σ : cr_S), a + n = nt → n < f → tpC σ nt ch → σ.1 55 6 = nI a → ∃ σ', f_X7_letterHere_55_L0 f σ = some (σ', nI (hrN ch nt (skN ch nt n a))) ∧ atC σ σ' (skN ch nt n a)
  | 0, f + 1, a, σ, hn, hf, ht, h6 => by
    have h1 := ht.1
    refine ⟨σ, ?_, rfl, fun _ _ => rfl, fun _ _ => rfl, h6⟩
    rw [f_X7_letterHere_55_L0, show rF σ 55 3 = _ from ht.2.1, show rF σ 55 6 = _ from h6, if_pos (by rw [le_n (by omega) (by omega)]; omega)]
    exact C_hereB (a := a) ht h6 (by omega)
  | n + 1, f + 1, a, σ, hn, hf, ht, h6 => by
    have h1 := ht.1
    obtain ⟨w1, w2, w3⟩ := ht.2.2 a (by omega)
    rw [f_X7_letterHere_55_L0, show rF σ 55 3 = _ from ht.2.1, show rF σ 55 6 = _ from h6, if_neg (by rw [le_n (by omega) (by omega)]; omega), chk_i (by omega) (by omega), rA_n (by omega), w3, skN]
    by_cases z : ch a = 32
    · obtain ⟨σ2, u1, u2, u3, u4, u5⟩ := C_hereL n f (a + 1) (sF σ 55 6 (nI (a + 1))) (by omega) (by omega) ⟨h1, by rw [sF_k (by omega)]; exact ht.2.1, ht.2.2⟩ sF_s
      rw [if_pos (by rw [z]; rfl), if_pos ⟨by omega, z⟩]
      refine ⟨σ2, ?_, u2, fun o ho => by rw [u3 o ho, sF_o ho], fun j hj => by rw [u4 j hj, sF_k hj], u5⟩
      simp only [cr_let]
      rw [nI_1]
      exact u1
    · rw [if_neg (show ¬ nI (ch a) = 32 by rw [show (32 : Int32) = nI 32 from rfl, eq_n (by omega) (by omega)]; exact z), if_neg (by omega)]
      exact ⟨σ, C_hereB ht h6 (by omega), rfl, fun _ _ => rfl, fun _ _ => rfl, h6⟩
theorem C_here {σ : cr_S} {nt a : Nat} {ch : Nat → Nat} (ht : tpC σ nt ch) (h6 : σ.1 55 6 = nI a) (ha : a ≤ nt) : ∃ σ', f_X7_letterHere_55 σ = some (σ', nI (hrN ch nt (skN ch nt (nt - a) a))) ∧ atC σ σ' (skN ch nt (nt - a) a) := by
  have h1 := ht.1
  exact C_hereL (nt - a) cr_fuel a σ (by omega) (by rw [cr_fuel_v]; omega) ht h6
theorem M_hereB {τ : cr_S} {nt a : Nat} {ch : Nat → Nat} (ht : tpM τ nt ch) (h6 : τ.1 0 13 = nI a) (ha : a ≤ nt) : f_X11_here_B38 τ = some (τ, nI (hrN ch nt a)) := by
  have h1 := ht.1
  unfold f_X11_here_B38 hrN
  rw [show rF τ 0 12 = _ from ht.2.1, show rF τ 0 13 = _ from h6]
  by_cases z : a < nt
  · obtain ⟨w1, w2, w3⟩ := ht.2.2 a z
    rw [if_neg (by rw [le_n (by omega) (by omega)]; omega), chk_i (by omega) (by omega), rA_n (by omega), w3, if_pos z]
  · rw [if_pos (by rw [le_n (by omega) (by omega)]; omega), if_neg z]
    rfl
theorem M_hereL {nt : Nat} {ch : Nat → Nat} : ∀ (n f a : Nat) (τ : cr_S), a + n = nt → n < f → tpM τ nt ch → τ.1 0 13 = nI a → ∃ τ', f_X11_here_L0 f τ = some (τ', nI (hrN ch nt (skN ch nt n a))) ∧ atM τ τ' (skN ch nt n a)
  | 0, f + 1, a, τ, hn, hf, ht, h6 => by
    have h1 := ht.1
    refine ⟨τ, ?_, rfl, fun _ _ => rfl, h6⟩
    rw [f_X11_here_L0, show rF τ 0 12 = _ from ht.2.1, show rF τ 0 13 = _ from h6, if_pos (by rw [le_n (by omega) (by omega)]; omega)]
    exact M_hereB (a := a) ht h6 (by omega)
  | n + 1, f + 1, a, τ, hn, hf, ht, h6 => by
    have h1 := ht.1
    obtain ⟨w1, w2, w3⟩ := ht.2.2 a (by omega)
    rw [f_X11_here_L0, show rF τ 0 12 = _ from ht.2.1, show rF τ 0 13 = _ from h6, if_neg (by rw [le_n (by omega) (by omega)]; omega), chk_i (by omega) (by omega), rA_n (by omega), w3, skN]
    by_cases z : ch a = 32
    · obtain ⟨τ2, u1, u2, u3, u4⟩ := M_hereL n f (a + 1) (sF τ 0 13 (nI (a + 1))) (by omega) (by omega) ⟨h1, by rw [sF_k (by omega)]; exact ht.2.1, ht.2.2⟩ sF_s
      rw [if_pos (by rw [z]; rfl), if_pos ⟨by omega, z⟩]
      refine ⟨τ2, ?_, u2, fun j hj => by rw [u3 j hj, sF_k hj], u4⟩
      simp only [cr_let]
      rw [nI_1]
      exact u1
    · rw [if_neg (show ¬ nI (ch a) = 32 by rw [show (32 : Int32) = nI 32 from rfl, eq_n (by omega) (by omega)]; exact z), if_neg (by omega)]
      exact ⟨τ, M_hereB ht h6 (by omega), rfl, fun _ _ => rfl, h6⟩
theorem M_here {τ : cr_S} {nt a : Nat} {ch : Nat → Nat} (ht : tpM τ nt ch) (h6 : τ.1 0 13 = nI a) (ha : a ≤ nt) : ∃ τ', f_X11_here τ = some (τ', nI (hrN ch nt (skN ch nt (nt - a) a))) ∧ atM τ τ' (skN ch nt (nt - a) a) := by
  have h1 := ht.1
  exact M_hereL (nt - a) cr_fuel a τ (by omega) (by rw [cr_fuel_v]; omega) ht h6
theorem hr_in {ch : Nat → Nat} {nt a : Nat} (h : ∀ k, k < nt → 32 ≤ ch k ∧ ch k ≤ 126) : hrN ch nt a ≤ 126 := by
  unfold hrN
  by_cases z : a < nt
  · rw [if_pos z]; exact (h a z).2
  · rw [if_neg z]; omega
/-- a letter that is taken, or not: where one stands then -/
theorem C_taken {σ : cr_S} {nt a c : Nat} {ch : Nat → Nat} (ht : tpC σ nt ch) (h6 : σ.1 55 6 = nI a) (ha : a ≤ nt) (hc : c < 1000) : ∃ σ', f_X7_isTaken_55 σ (nI c) = some (σ', bI (decide (hrN ch nt (skN ch nt (nt - a) a) = c))) ∧ atC σ σ' (skN ch nt (nt - a) a + b2n (decide (hrN ch nt (skN ch nt (nt - a) a) = c))) := by
  have hh := hr_in (a := skN ch nt (nt - a) a) (fun k hk => ⟨(ht.2.2 k hk).1, (ht.2.2 k hk).2.1⟩)
  obtain ⟨σ1, u1, u2, u3, u4, u5⟩ := C_here ht h6 ha
  unfold f_X7_isTaken_55
  rw [u1]
  simp only [Option.bind_some]
  by_cases z : hrN ch nt (skN ch nt (nt - a) a) = c
  · rw [if_pos (by rw [z]), decide_eq_true z]
    refine ⟨sF σ1 55 6 (nI (skN ch nt (nt - a) a + 1)), ?_, u2, fun o ho => by rw [sF_o ho, u3 o ho], fun j hj => by rw [sF_k hj, u4 j hj], sF_s⟩
    simp only [cr_let]
    rw [show rF σ1 55 6 = _ from u5, nI_1]
    rfl
  · rw [if_neg (by rw [eq_n (by omega) (by omega)]; exact z), decide_eq_false z]
    exact ⟨σ1, rfl, u2, u3, u4, u5⟩
theorem M_has {τ : cr_S} {nt a c : Nat} {ch : Nat → Nat} (ht : tpM τ nt ch) (h6 : τ.1 0 13 = nI a) (hw : τ.1 0 14 = 0) (ha : a ≤ nt) (hc : c < 1000) : ∃ τ', f_X11_has τ (nI c) = some (τ', bI (decide (hrN ch nt (skN ch nt (nt - a) a) = c))) ∧ atM τ τ' (skN ch nt (nt - a) a + b2n (decide (hrN ch nt (skN ch nt (nt - a) a) = c))) := by
  have hh := hr_in (a := skN ch nt (nt - a) a) (fun k hk => ⟨(ht.2.2 k hk).1, (ht.2.2 k hk).2.1⟩)
  obtain ⟨τ1, u1, u2, u3, u4⟩ := M_here ht h6 ha
  unfold f_X11_has
  rw [if_pos (show rF τ 0 14 = 0 from hw), u1]
  simp only [Option.bind_some]
  by_cases z : hrN ch nt (skN ch nt (nt - a) a) = c
  · rw [if_pos (by rw [z]), decide_eq_true z]
    refine ⟨sF τ1 0 13 (nI (skN ch nt (nt - a) a + 1)), ?_, u2, fun j hj => by rw [sF_k hj, u3 j hj], sF_s⟩
    unfold f_X11_has_B20 f_X11_has_B35
    simp only [cr_let]
    rw [if_neg (by decide), show rF τ1 0 13 = _ from u4, nI_1, chk_t (by decide)]
    rfl
  · rw [if_neg (by rw [eq_n (by omega) (by omega)]; exact z), decide_eq_false z]
    refine ⟨sF τ1 0 13 (nI (skN ch nt (nt - a) a + 0)), ?_, u2, fun j hj => by rw [sF_k hj, u3 j hj], sF_s⟩
    unfold f_X11_has_B19 f_X11_has_B20 f_X11_has_B35
    simp only [cr_let]
    rw [if_pos trivial, show rF τ1 0 13 = _ from u4, n_0, nI_add, chk_t (by decide)]
    rfl

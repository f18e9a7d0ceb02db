/-! the readers of a strait: a number -/
def dgN (ch : Nat → Nat) (nt a : Nat) : Bool := decide (a < nt ∧ 48 ≤ ch a ∧ ch a ≤ 57)
def enN (ch : Nat → Nat) (nt : Nat) : Nat → Nat → Nat
  | 0, a => a
  | n + 1, a => if dgN ch nt a then enN ch nt n (a + 1) else a
def vC (ch : Nat → Nat) (nt : Nat) : Nat → Nat → Nat → Nat
  | 0, _, v => v
  | n + 1, a, v => if dgN ch nt a then vC ch nt n (a + 1) (if 9999 < v * 10 + ch a - 48 then 9999 else v * 10 + ch a - 48) else v
def vM (ch : Nat → Nat) (nt : Nat) : Nat → Nat → Nat → Nat
  | 0, _, v => v
  | n + 1, a, v => if dgN ch nt a then vM ch nt n (a + 1) (if v ≤ 9999 then 10 * v + ch a - 48 else v) else v
def vRel (c r : Nat) : Prop := (r ≤ 9999 ∧ c = r) ∨ (9999 < r ∧ r < 200000 ∧ c = 9999)
theorem v_rel {ch : Nat → Nat} {nt : Nat} : ∀ n a c r, vRel c r → vRel (vC ch nt n a c) (vM ch nt n a r)
  | 0, a, c, r, h => h
  | n + 1, a, c, r, h => by
    rw [vC, vM]
    by_cases z : dgN ch nt a = true
    · have d := of_decide_eq_true z
      rw [if_pos z, if_pos z]
      refine v_rel n (a + 1) _ _ ?_
      unfold vRel at h ⊢
      rcases h with ⟨h1, h2⟩ | ⟨h1, h2, h3⟩
      · subst h2
        rw [if_pos h1]
        by_cases y : 9999 < c * 10 + ch a - 48
        · rw [if_pos y]; omega
        · rw [if_neg y]; omega
      · rw [if_neg (show ¬ r ≤ 9999 by omega), if_pos (by omega)]
        omega
    · rw [if_neg z, if_neg z]
      exact h
theorem en_in {ch : Nat → Nat} {nt : Nat} : ∀ n a, a + n = nt → a ≤ enN ch nt n a ∧ enN ch nt n a ≤ nt
  | 0, a, h => ⟨Nat.le_refl _, by show a ≤ nt; omega⟩
  | n + 1, a, h => by
    rw [enN]
    by_cases z : dgN ch nt a = true
    · rw [if_pos z]
      have := en_in (ch := ch) (nt := nt) n (a + 1) (by omega)
      omega
    · rw [if_neg z]; omega
theorem in_dg {c : Nat} (hc : c < 1000) : inR (nI c) 48 57 = decide (48 ≤ c ∧ c ≤ 57) := by
  unfold inR
  rw [n_48, n_57]
  congr 1
  rw [le_n (by omega) (by omega), le_n (by omega) (by omega)]
theorem C_numL {nt st lo : Nat} {x2 : Int32} {ch : Nat → Nat} : ∀ (n f a v : Nat) (σ : cr_S), a + n = nt → n < f → v ≤ 9999 → tpC σ nt ch → σ.1 55 6 = nI a → ∃ σ', f_X7_numberRead_55_L13 f σ (nI lo) x2 (nI st) (nI v) = f_X7_numberRead_55_B82 σ' (nI lo) x2 (nI st) (nI (vC ch nt n a v)) ∧ atC σ σ' (enN ch nt n a)
  | 0, f + 1, a, v, σ, hn, hf, hv, ht, h6 => by
    have h1 := ht.1
    refine ⟨σ, ?_, rfl, fun _ _ => rfl, fun _ _ => rfl, h6⟩
    rw [f_X7_numberRead_55_L13, show rF σ 55 3 = _ from ht.2.1, show rF σ 55 6 = _ from h6, if_pos (by rw [le_n (by omega) (by omega)]; omega)]
    rfl
  | n + 1, f + 1, a, v, σ, hn, hf, hv, ht, h6 => by
    have h1 := ht.1
    obtain ⟨w1, w2, w3⟩ := ht.2.2 a (by omega)
    rw [f_X7_numberRead_55_L13, show rF σ 55 3 = _ from ht.2.1, show rF σ 55 6 = _ from h6, if_neg (by rw [le_n (by omega) (by omega)]; omega), chk_i (by omega) (by omega), rA_n (by omega), w3, C_within, in_dg (by omega)]
    simp only [Option.bind_some]
    rw [enN, vC]
    by_cases z : 48 ≤ ch a ∧ ch a ≤ 57
    · have zd : dgN ch nt a = true := decide_eq_true ⟨by omega, z⟩
      have hv' : (if 9999 < v * 10 + ch a - 48 then 9999 else v * 10 + ch a - 48) ≤ 9999 := by split <;> omega
      obtain ⟨σ2, u1, u2, u3, u4, u5⟩ := C_numL (st := st) (lo := lo) (x2 := x2) n f (a + 1) _ (sF σ 55 6 (nI (a + 1))) (by omega) (by omega) hv' ⟨h1, by rw [sF_k (by omega)]; exact ht.2.1, ht.2.2⟩ sF_s
      rw [decide_eq_true z, if_neg (by decide), if_pos zd, if_pos zd]
      refine ⟨σ2, ?_, u2, fun o ho => by rw [u3 o ho, sF_o ho], fun j hj => by rw [u4 j hj, sF_k hj], u5⟩
      rw [show rF σ 55 6 = _ from h6, chk_i (by omega) (by omega), rA_n (by omega), w3]
      simp only [cr_let]
      rw [show (10 : Int32) = nI 10 from rfl, pk_mul, nI_add, n_48, sub_n (by omega), n_9999, nI_1]
      by_cases y : 9999 < v * 10 + ch a - 48
      · rw [if_pos y] at u1 ⊢
        rw [if_pos (by rw [lt_n (by omega) (by omega)]; exact y)]
        exact u1
      · rw [if_neg y] at u1 ⊢
        rw [if_neg (by rw [lt_n (by omega) (by omega)]; exact y)]
        exact u1
    · have zd : ¬ dgN ch nt a = true := fun q => z (of_decide_eq_true q).2
      rw [decide_eq_false z, if_pos (by decide), if_neg zd, if_neg zd]
      exact ⟨σ, rfl, rfl, fun _ _ => rfl, fun _ _ => rfl, h6⟩
theorem M_numL {nt : Nat} {x1 x2 x3 : Int32} {ch : Nat → Nat} : ∀ (n f a v : Nat) (τ : cr_S), a + n = nt → n < f → v < 200000 → tpM τ nt ch → τ.1 0 13 = nI a → ∃ τ', f_X11_number_L39 f τ x1 x2 x3 (nI v) = f_X11_number_B118 τ' x1 x2 x3 (nI (vM ch nt n a v)) ∧ atM τ τ' (enN ch nt n a)
  | 0, f + 1, a, v, τ, hn, hf, hv, ht, h6 => by
    have h1 := ht.1
    refine ⟨τ, ?_, rfl, fun _ _ => rfl, h6⟩
    rw [f_X11_number_L39, show rF τ 0 12 = _ from ht.2.1, show rF τ 0 13 = _ from h6, if_pos (by rw [le_n (by omega) (by omega)]; omega)]
    rfl
  | n + 1, f + 1, a, v, τ, hn, hf, hv, ht, h6 => by
    have h1 := ht.1
    obtain ⟨w1, w2, w3⟩ := ht.2.2 a (by omega)
    rw [f_X11_number_L39, show rF τ 0 12 = _ from ht.2.1, show rF τ 0 13 = _ from h6, if_neg (by rw [le_n (by omega) (by omega)]; omega), chk_i (by omega) (by omega), rA_n (by omega), w3, L_48, L_57, M_in, in_dg (by omega)]
    simp only [Option.bind_some]
    rw [enN, vM]
    by_cases z : 48 ≤ ch a ∧ ch a ≤ 57
    · have zd : dgN ch nt a = true := decide_eq_true ⟨by omega, z⟩
      have hv' : (if v ≤ 9999 then 10 * v + ch a - 48 else v) < 200000 := by split <;> omega
      obtain ⟨τ2, u1, u2, u3, u4⟩ := M_numL (x1 := x1) (x2 := x2) (x3 := x3) n f (a + 1) _ (sF τ 0 13 (nI (a + 1))) (by omega) (by omega) hv' ⟨h1, by rw [sF_k (by omega)]; exact ht.2.1, ht.2.2⟩ sF_s
      rw [decide_eq_true z, if_neg (by decide), if_pos zd, if_pos zd]
      refine ⟨τ2, ?_, u2, fun j hj => by rw [u3 j hj, sF_k hj], u4⟩
      unfold f_X11_number_B103
      simp only [cr_let]
      rw [show rF τ 0 13 = _ from h6, chk_i (by omega) (by omega), rA_n (by omega), w3, show (10 : Int32) = nI 10 from rfl, pk_mul, nI_add, n_48, sub_n (by omega), n_9999, nI_1]
      by_cases y : v ≤ 9999
      · rw [if_pos y] at u1 ⊢
        rw [if_pos (by rw [le_n (by omega) (by omega)]; exact y)]
        exact u1
      · rw [if_neg y] at u1 ⊢
        rw [if_neg (by rw [le_n (by omega) (by omega)]; exact y)]
        exact u1
    · have zd : ¬ dgN ch nt a = true := fun q => z (of_decide_eq_true q).2
      rw [decide_eq_false z, if_pos (by decide), if_neg zd, if_neg zd]
      exact ⟨τ, rfl, rfl, fun _ _ => rfl, h6⟩

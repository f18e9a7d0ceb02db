/-! the readers of a strait: the reference's letter; a digit -/
/-- where one stands, and whether it is wrong -/
def awM (τ τ' : cr_S) (a : Nat) (w : Bool) : Prop := τ'.2 = τ.2 ∧ (∀ j, j ≠ 13 → j ≠ 14 → τ'.1 0 j = τ.1 0 j) ∧ τ'.1 0 13 = nI a ∧ τ'.1 0 14 = bI w
theorem M_lB {τ τ1 : cr_S} {a : Nat} {k : Option Nat} (hk : ∀ j, k = some j → j < 4) (h : atM τ τ1 a) (hw : τ.1 0 14 = 0) : ∃ τ', f_X11_letter_B60 τ1 (kiM k) = some (τ', kiM k) ∧ awM τ τ' (a + (if k.isSome then 1 else 0)) (!k.isSome) := by
  have w1 : rF τ1 0 14 = 0 := (h.2.1 14 (by omega)).trans hw
  unfold f_X11_letter_B60 f_X11_letter_B80 f_X11_letter_B100
  rw [if_pos w1]
  simp only [cr_let]
  cases k with
  | none =>
    refine ⟨sF (sF τ1 0 14 1) 0 13 (nI (a + 0)), ?_, h.1, fun j q1 q2 => by rw [sF_k q1, sF_k q2, h.2.1 j q1], sF_s, by rw [sF_k (by omega), sF_s]; rfl⟩
    rw [if_neg (show ¬ 0 ≤ kiM none by decide), chk_t (by decide), show rF (sF τ1 0 14 1) 0 14 = 1 from sF_s, show rF (sF τ1 0 14 1) 0 13 = nI a from (sF_k (by omega)).trans h.2.2, if_neg (by decide), n_0, nI_add]
  | some j =>
    have hj := hk j rfl
    refine ⟨sF (sF τ1 0 14 0) 0 13 (nI (a + 1)), ?_, h.1, fun j q1 q2 => by rw [sF_k q1, sF_k q2, h.2.1 j q1], sF_s, by rw [sF_k (by omega), sF_s]; rfl⟩
    rw [if_pos (show 0 ≤ kiM (some j) from ge_0 (by omega)), chk_t (by decide), show rF (sF τ1 0 14 0) 0 14 = 0 from sF_s, show rF (sF τ1 0 14 0) 0 13 = nI a from (sF_k (by omega)).trans h.2.2, if_pos rfl, nI_1]
theorem M_letter {τ : cr_S} {nt a l0 l1 l2 l3 : Nat} {ch : Nat → Nat} (ht : tpM τ nt ch) (h6 : τ.1 0 13 = nI a) (hw : τ.1 0 14 = 0) (ha : a ≤ nt) (q0 : l0 < 127) (q1 : l1 < 127) (q2 : l2 < 127) (q3 : l3 < 127) : ∃ τ', f_X11_letter τ (nI l0) (nI l1) (nI l2) (nI l3) = some (τ', kiM (kiN l0 l1 l2 l3 (hrN ch nt (skN ch nt (nt - a) a)))) ∧ awM τ τ' (skN ch nt (nt - a) a + (if (kiN l0 l1 l2 l3 (hrN ch nt (skN ch nt (nt - a) a))).isSome then 1 else 0)) (!(kiN l0 l1 l2 l3 (hrN ch nt (skN ch nt (nt - a) a))).isSome) := by
  have hh := hr_in (a := skN ch nt (nt - a) a) (fun k hk => ⟨(ht.2.2 k hk).1, (ht.2.2 k hk).2.1⟩)
  obtain ⟨τ1, u1, u2⟩ := M_here ht h6 ha
  obtain ⟨τ2, v1, v2⟩ := M_lB (k := kiN l0 l1 l2 l3 (hrN ch nt (skN ch nt (nt - a) a))) (fun j hj => ki_in hj) u2 hw
  refine ⟨τ2, ?_, v2⟩
  unfold f_X11_letter
  rw [if_pos (show rF τ 0 14 = 0 from hw), u1]
  simp only [Option.bind_some]
  rw [← v1]
  unfold f_X11_letter_B15 kiN
  generalize hrN ch nt (skN ch nt (nt - a) a) = c at hh
  by_cases z0 : c = l0
  · rw [if_pos (by rw [z0]), if_pos z0]; rfl
  · rw [if_neg (by rw [eq_n (by omega) (by omega)]; exact z0), if_neg z0]
    by_cases z1 : c = l1
    · rw [if_pos (by rw [z1]), if_pos z1]; rfl
    · rw [if_neg (by rw [eq_n (by omega) (by omega)]; exact z1), if_neg z1]
      by_cases z2 : c = l2
      · rw [if_pos (by rw [z2]), if_pos z2]; rfl
      · rw [if_neg (by rw [eq_n (by omega) (by omega)]; exact z2), if_neg z2]
        by_cases z3 : c = l3
        · rw [if_pos (by rw [z3]), if_pos z3]; rfl
        · rw [if_neg (by rw [eq_n (by omega) (by omega)]; exact z3), if_neg z3]; rfl
def dgB (c m : Nat) : Bool := inR (nI c - 48) 1 (nI m)
theorem C_digit {σ : cr_S} {nt a m : Nat} {ch : Nat → Nat} (ht : tpC σ nt ch) (h6 : σ.1 55 6 = nI a) (ha : a ≤ nt) : ∃ σ', f_X7_digitRead_55 σ (nI m) = some (σ', if dgB (hrN ch nt (skN ch nt (nt - a) a)) m then nI (hrN ch nt (skN ch nt (nt - a) a)) - 48 else -1) ∧ atC σ σ' (skN ch nt (nt - a) a + b2n (dgB (hrN ch nt (skN ch nt (nt - a) a)) m)) := by
  obtain ⟨σ1, u1, u2, u3, u4, u5⟩ := C_here ht h6 ha
  unfold f_X7_digitRead_55
  rw [u1]
  simp only [Option.bind_some, cr_let]
  rw [C_within]
  simp only [Option.bind_some]
  unfold dgB
  cases y : inR (nI (hrN ch nt (skN ch nt (nt - a) a)) - 48) 1 (nI m)
  · rw [if_pos (by decide)]
    exact ⟨σ1, rfl, u2, u3, u4, u5⟩
  · rw [if_neg (by decide)]
    refine ⟨sF σ1 55 6 (nI (skN ch nt (nt - a) a + 1)), ?_, u2, fun o ho => by rw [sF_o ho, u3 o ho], fun j hj => by rw [sF_k hj, u4 j hj], sF_s⟩
    rw [show rF σ1 55 6 = _ from u5, nI_1]
    rfl
theorem M_digit {τ : cr_S} {nt a m : Nat} {ch : Nat → Nat} (ht : tpM τ nt ch) (h6 : τ.1 0 13 = nI a) (hw : τ.1 0 14 = 0) (ha : a ≤ nt) : ∃ τ', f_X11_digit τ (nI m) = some (τ', nI (hrN ch nt (skN ch nt (nt - a) a)) - 48) ∧ awM τ τ' (skN ch nt (nt - a) a + b2n (dgB (hrN ch nt (skN ch nt (nt - a) a)) m)) (!dgB (hrN ch nt (skN ch nt (nt - a) a)) m) := by
  obtain ⟨τ1, u1, u2⟩ := M_here ht h6 ha
  have w1 : rF τ1 0 14 = 0 := (u2.2.1 14 (by omega)).trans hw
  unfold f_X11_digit
  rw [if_pos (show rF τ 0 14 = 0 from hw), u1]
  simp only [Option.bind_some]
  unfold f_X11_digit_B18
  rw [if_pos w1, L_1, M_in]
  simp only [Option.bind_some]
  unfold f_X11_digit_B43 f_X11_digit_B63
  simp only [cr_let]
  unfold dgB
  cases y : inR (nI (hrN ch nt (skN ch nt (nt - a) a)) - 48) 1 (nI m)
  · refine ⟨sF (sF τ1 0 14 1) 0 13 (nI (skN ch nt (nt - a) a + 0)), ?_, u2.1, fun j q1 q2 => by rw [sF_k q1, sF_k q2, u2.2.1 j q1], sF_s, by rw [sF_k (by omega), sF_s]; rfl⟩
    rw [if_pos (by decide), chk_t (by decide), show rF (sF τ1 0 14 1) 0 14 = 1 from sF_s, show rF (sF τ1 0 14 1) 0 13 = nI _ from (sF_k (by omega)).trans u2.2.2, if_neg (by decide), n_0, nI_add]
  · refine ⟨sF (sF τ1 0 14 0) 0 13 (nI (skN ch nt (nt - a) a + 1)), ?_, u2.1, fun j q1 q2 => by rw [sF_k q1, sF_k q2, u2.2.1 j q1], sF_s, by rw [sF_k (by omega), sF_s]; rfl⟩
    rw [if_neg (show ¬ bI true = 0 by decide), chk_t (by decide), show rF (sF τ1 0 14 0) 0 14 = 0 from sF_s, show rF (sF τ1 0 14 0) 0 13 = nI _ from (sF_k (by omega)).trans u2.2.2, if_pos rfl, nI_1]

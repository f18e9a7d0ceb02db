/-! the soonest: the class's table -/
theorem kC_e : ∀ k, k < 7 → kC (76 + k) = 1346 := by decide
def mnN (g : Nat → Nat) : Nat → Nat → Nat → Nat
  | 0, _, a => a
  | n + 1, pc, a => mnN g n (pc + 1) (if g pc < a then g pc else a)
def gN (P S : Nat → Nat) (t0 t : Nat) (V : Nat → Nat) (pc : Nat) : Nat := if tpN P S (t0 + t) pc then V (t + duN P S pc) else 1000000
def dN (Ps : Nat → Nat → Nat) (S : Nat → Nat) (t0 np : Nat) : Nat → Nat → Nat
  | 0, t => t
  | n + 1, t => mnN (gN (Ps (np - (n + 1))) S t0 t (dN Ps S t0 np n)) (hiN S + 1 - loN S) (loN S) 1000000
theorem mn_in {g : Nat → Nat} : ∀ n pc a, mnN g n pc a ≤ a
  | 0, pc, a => Nat.le_refl _
  | n + 1, pc, a => by
    rw [mnN]
    have := mn_in (g := g) n (pc + 1) (if g pc < a then g pc else a)
    by_cases z : g pc < a
    · rw [if_pos z] at this ⊢; omega
    · rw [if_neg z] at this ⊢; omega
theorem d_in {Ps : Nat → Nat → Nat} {S : Nat → Nat} {t0 np : Nat} : ∀ n t, t ≤ 1000000 → dN Ps S t0 np n t ≤ 1000000
  | 0, t, h => h
  | n + 1, t, h => mn_in _ _ _
theorem C_sendL {σ : cr_S} {k q t0 L t : Nat} {P S V : Nat → Nat} (hk : k < 6) (hP : cP σ (9 + k) P) (hS : cS σ q S) (hL : L ≤ 346) (ht : t + 41 ≤ L) (ht2 : t + 41 < 346) (hM : ∀ x, x ≤ L → σ.2.1 83 x = nI (msN P t0 L x)) (hV : ∀ x, x ≤ t + 41 → σ.2.1 (76 + (k + 1)) x = nI (V x) ∧ V x ≤ 1000000) : ∀ (n f pc a : Nat), pc + n = hiN S + 1 → 1 ≤ pc → n < f → a ≤ 1000000 → f_X5_soonestEnd_74_L10 f σ (9 + k) q (nI k) (nI t) (nI a) (nI pc) = some (σ, nI (mnN (gN P S t0 t V) n pc a))
  | 0, f + 1, pc, a, hn, h1, hf, ha => by
    have hh := hi_in hS.2.2
    rw [f_X5_soonestEnd_74_L10, C_high hS]
    simp only [Option.bind_some]
    rw [chk_t hS.1, if_pos (by rw [lt_n (by omega) (by omega)]; omega)]
    rfl
  | n + 1, f + 1, pc, a, hn, h1, hf, ha => by
    have hh := hi_in hS.2.2
    have d := du_in (pc := pc) hP.2.2 hS.2.2 h1
    rw [f_X5_soonestEnd_74_L10, C_high hS]
    simp only [Option.bind_some]
    rw [chk_t hS.1, if_neg (by rw [lt_n (by omega) (by omega)]; omega), C_behind (pc := pc) hP hS h1 (by omega) hL ht ht2 hM]
    simp only [Option.bind_some, cr_let]
    unfold f_X5_soonestEnd_74_B56
    simp only [cr_let]
    rw [nI_1, nI_1, n_M, mnN]
    by_cases z : tpN P S (t0 + t) pc = true
    · have e : gN P S t0 t V pc = V (t + duN P S pc) := if_pos z
      obtain ⟨w1, w2⟩ := hV (t + duN P S pc) (by omega)
      rw [if_pos z, if_neg (by rw [eq_n (by omega) (by omega)]; omega), chk_i (by omega) (by omega), nI_clamp (by omega), chk_t (kC_e (k + 1) (by omega)), chk_i (by omega) (by omega), rA_n (by omega), w1, e]
      have ih := C_sendL hk hP hS hL ht ht2 hM hV n f (pc + 1) (if V (t + duN P S pc) < a then V (t + duN P S pc) else a) (by omega) (by omega) (by omega) (by split <;> omega)
      by_cases y : V (t + duN P S pc) < a
      · rw [if_pos y] at ih ⊢
        rw [if_pos (by rw [lt_n (by omega) (by omega)]; exact y)]
        exact ih
      · rw [if_neg y] at ih ⊢
        rw [if_neg (by rw [lt_n (by omega) (by omega)]; exact y)]
        exact ih
    · have e : gN P S t0 t V pc = 1000000 := if_neg z
      rw [if_neg z, if_pos rfl, e, if_neg (by omega)]
      exact C_sendL hk hP hS hL ht ht2 hM hV n f (pc + 1) a (by omega) (by omega) (by omega) ha
theorem C_send {σ : cr_S} {k q t0 L t : Nat} {P S V : Nat → Nat} (hk : k < 6) (hP : cP σ (9 + k) P) (hS : cS σ q S) (hL : L ≤ 346) (ht : t + 41 ≤ L) (ht2 : t + 41 < 346) (hM : ∀ x, x ≤ L → σ.2.1 83 x = nI (msN P t0 L x)) (hV : ∀ x, x ≤ t + 41 → σ.2.1 (76 + (k + 1)) x = nI (V x) ∧ V x ≤ 1000000) : f_X5_soonestEnd_74 σ (9 + k) q (nI k) (nI t) = some (σ, nI (mnN (gN P S t0 t V) (hiN S + 1 - loN S) (loN S) 1000000)) := by
  have lo := lo_in hS.2.2
  have hh := hi_in hS.2.2
  unfold f_X5_soonestEnd_74
  rw [C_low hS]
  simp only [Option.bind_some]
  rw [chk_t hS.1, n_M]
  simp only [cr_let]
  exact C_sendL hk hP hS hL ht ht2 hM hV (hiN S + 1 - loN S) cr_fuel (loN S) 1000000 (by omega) (by omega) (by rw [cr_fuel_v]; omega) (by omega)
theorem C_rowL {r41 : cr_S → Nat → Int32 → Int32 → Option cr_S} {q t0 k : Nat} {P S V : Nat → Nat} {x3 : Int32} (hk : k < 6) (hq : q ≠ 74) : ∀ (n f t : Nat) (σ : cr_S), t + n = 100 + 41 * k → n < f → cP σ (9 + k) P → cS σ q S → (∀ x, x ≤ 100 + 41 * k + 41 → σ.2.1 83 x = nI (msN P t0 (100 + 41 * k + 41) x)) → (∀ x, x < 100 + 41 * (k + 1) → σ.2.1 (76 + (k + 1)) x = nI (V x) ∧ V x ≤ 1000000) → ∃ σ', f_X5_findSoonest_74_1_L76 r41 f σ q x3 (nI k) (nI (100 + 41 * k)) (nI t) = f_X5_findSoonest_74_1_B115 r41 σ' q x3 (nI k) ∧ σ'.1 = σ.1 ∧ σ'.2.2 = σ.2.2 ∧ (∀ o, o ≠ 76 + k → σ'.2.1 o = σ.2.1 o) ∧ (∀ x, x < t → σ'.2.1 (76 + k) x = σ.2.1 (76 + k) x) ∧ ∀ x, t ≤ x → x < 100 + 41 * k → σ'.2.1 (76 + k) x = nI (mnN (gN P S t0 x V) (hiN S + 1 - loN S) (loN S) 1000000)
  | 0, f + 1, t, σ, hn, hf, hP, hS, hM, hV => by
    refine ⟨σ, ?_, rfl, rfl, fun _ _ => rfl, fun _ _ => rfl, fun x q1 q2 => absurd q1 (by omega)⟩
    rw [f_X5_findSoonest_74_1_L76, if_pos (by rw [le_n (by omega) (by omega)]; omega)]
  | n + 1, f + 1, t, σ, hn, hf, hP, hS, hM, hV => by
    have se := C_send (t := t) hk hP hS (by omega) (by omega) (by omega) hM (fun x hx => hV x (by omega))
    obtain ⟨σ2, u1, u2, u3, u4, u5, u6⟩ := C_rowL (r41 := r41) (t0 := t0) (P := P) (S := S) (V := V) (x3 := x3) hk hq n f (t + 1) (sA σ (76 + k) (nI t) (nI (mnN (gN P S t0 t V) (hiN S + 1 - loN S) (loN S) 1000000))) (by omega) (by omega) (cP_of hP (fun _ _ => rfl)) (cS_of hS (fun _ _ => rfl)) (fun x hx => by rw [sA_o (by omega)]; exact hM x hx) (fun x hx => by rw [sA_o (by omega)]; exact hV x hx)
    refine ⟨σ2, ?_, u2, u3, fun o ho => (u4 o ho).trans (sA_o ho), fun x hx => by rw [u5 x (by omega), sA_k (by omega) (by omega)], fun x q1 q2 => ?_⟩
    · rw [f_X5_findSoonest_74_1_L76, if_neg (by rw [le_n (by omega) (by omega)]; omega), chk_i (by omega) (by omega), chk_i (by omega) (by omega), nI_clamp (by omega), se]
      simp only [Option.bind_some]
      rw [chk_t (kC_e k (by omega)), chk_i (by omega) (by omega), nI_1]
      exact u1
    · by_cases e : x = t
      · subst e
        rw [u5 x (by omega), sA_s (by omega)]
      · exact u6 x (by omega) q2
def tbl (σ : cr_S) (Ps : Nat → Nat → Nat) (S : Nat → Nat) (t0 np n : Nat) : Prop := ∀ k, n ≤ k → k ≤ np → ∀ t, t < 100 + 41 * k → σ.2.1 (76 + k) t = nI (dN Ps S t0 np (np - k) t)
theorem n_41 : (41 : Int32) = nI 41 := id rfl
theorem C_tabL {q t0 np : Nat} {Ps : Nat → Nat → Nat} {S : Nat → Nat} (ht : t0 ≤ 9999) (hq : q ≠ 74) : ∀ (n f : Nat) (σ : cr_S), n ≤ np → n < f → cStr σ np Ps → cS σ q S → tbl σ Ps S t0 np n → ∃ σ', f_X5_findSoonest_74_1_L41 f σ q (nI t0) (nI n - 1) = f_X5_findSoonest_74_1_B121 σ' q (nI t0) ∧ σ'.1 = σ.1 ∧ s74 σ σ' ∧ tbl σ' Ps S t0 np 0
  | 0, f + 1, σ, hn, hf, hC, hS, hT => by
    refine ⟨σ, ?_, rfl, s74_r, hT⟩
    rw [f_X5_findSoonest_74_1_L41, if_pos (by decide)]
  | n + 1, f + 1, σ, hn, hf, hC, hS, hT => by
    have hnp := hC.2.1
    have hP := hC.2.2 n (by omega)
    have e0 : nI (n + 1) - 1 = nI n := by rw [← nI_1, Int32.add_sub_cancel]
    obtain ⟨σ1, a1, a2, a3, a4, a5⟩ := C_meas (L := 100 + 41 * n + 41) ht (by omega) hP
    obtain ⟨σ2, b1, b2, b3, b4, -, b6⟩ := C_rowL (r41 := f_X5_findSoonest_74_1_L41 f) (q := q) (t0 := t0) (S := S) (V := dN Ps S t0 np (np - (n + 1))) (x3 := nI t0) (show n < 6 by omega) hq (100 + 41 * n) cr_fuel 0 σ1 (by omega) (by rw [cr_fuel_v]; omega) (cP_of hP (fun _ _ => by rw [a2])) (cS_of hS (fun _ _ => by rw [a2])) a5 (fun x hx => ⟨by rw [a4 _ (by omega)]; exact hT (n + 1) (by omega) hn x hx, d_in _ _ (by omega)⟩)
    have G : s74 σ σ2 := ⟨b3.trans a3, fun o _ => by rw [b2, a2], fun o ho => by rw [b4 o (by omega), a4 o (by omega)]⟩
    have T2 : tbl σ2 Ps S t0 np n := fun k k1 k2 t ht2 => by
      by_cases e : k = n
      · subst e
        rw [b6 t (by omega) ht2, show np - k = (np - (k + 1)) + 1 by omega, dN, show np - (np - (k + 1) + 1) = k by omega]
      · rw [b4 _ (by omega), a4 _ (by omega)]
        exact hT k (by omega) k2 t ht2
    obtain ⟨σ3, c1, c2, c3, c4⟩ := C_tabL ht hq n f σ2 (by omega) (by omega) (s74_C G hC) (s74_S G hq hS) T2
    refine ⟨σ3, ?_, by rw [c2, b2, a2], s74_t G c3, c4⟩
    rw [f_X5_findSoonest_74_1_L41, e0, if_neg (nl_0 (by omega)), n_100, n_41, pk_mul, nI_add, Nat.mul_comm n 41]
    simp only [cr_let]
    rw [nI_add, chk_i (by omega) (by omega), nI_clamp (by omega), a1]
    simp only [Option.bind_some]
    rw [n_0, b1]
    unfold f_X5_findSoonest_74_1_B115
    simp only [cr_let]
    rw [← Int32.sub_eq_add_neg]
    exact c1
theorem C_lastL {q np : Nat} {x3 : Int32} (hnp : np ≤ 6) : ∀ (n f t : Nat) (σ : cr_S), t + n = 346 → n < f → ∃ σ', f_X5_findSoonest_74_1_L9 f σ q x3 (nI np) (nI t) = f_X5_findSoonest_74_1_B35 σ' q x3 (nI np) ∧ σ'.1 = σ.1 ∧ σ'.2.2 = σ.2.2 ∧ (∀ o, o ≠ 76 + np → σ'.2.1 o = σ.2.1 o) ∧ (∀ x, x < t → σ'.2.1 (76 + np) x = σ.2.1 (76 + np) x) ∧ ∀ x, t ≤ x → x < 346 → σ'.2.1 (76 + np) x = nI x
  | 0, f + 1, t, σ, hn, hf => by
    refine ⟨σ, ?_, rfl, rfl, fun _ _ => rfl, fun _ _ => rfl, fun x q1 q2 => absurd q1 (by omega)⟩
    rw [f_X5_findSoonest_74_1_L9, n_346, if_pos (by rw [le_n (by omega) (by omega)]; omega)]
  | n + 1, f + 1, t, σ, hn, hf => by
    obtain ⟨σ2, u1, u2, u3, u4, u5, u6⟩ := C_lastL (q := q) (x3 := x3) hnp n f (t + 1) (sA σ (76 + np) (nI t) (nI t)) (by omega) (by omega)
    refine ⟨σ2, ?_, u2, u3, fun o ho => (u4 o ho).trans (sA_o ho), fun x hx => by rw [u5 x (by omega), sA_k (by omega) (by omega)], fun x q1 q2 => ?_⟩
    · rw [f_X5_findSoonest_74_1_L9, n_346, if_neg (by rw [le_n (by omega) (by omega)]; omega), chk_i (by omega) (by omega), nI_clamp (by omega), chk_t (kC_e np (by omega)), chk_i (by omega) (by omega), nI_1]
      exact u1
    · by_cases e : x = t
      · subst e
        rw [u5 x (by omega), sA_s (by omega)]
      · exact u6 x (by omega) q2
theorem C_table {σ : cr_S} {q t0 np : Nat} {Ps : Nat → Nat → Nat} {S : Nat → Nat} (ht : t0 ≤ 9999) (hq : q ≠ 74) (hC : cStr σ np Ps) (hS : cS σ q S) : ∃ σ', f_X5_findSoonest_74_1 σ q (nI t0) = f_X5_findSoonest_74_1_B121 σ' q (nI t0) ∧ s74 σ σ' ∧ tbl σ' Ps S t0 np 0 := by
  have hnp := hC.2.1
  obtain ⟨σ1, a1, a2, a3, a4, -, a6⟩ := C_lastL (q := q) (x3 := nI t0) hnp 346 cr_fuel 0 σ (by omega) (by rw [cr_fuel_v]; omega)
  have G : s74 σ σ1 := ⟨a3, fun o _ => by rw [a2], fun o ho => a4 o (by omega)⟩
  have T1 : tbl σ1 Ps S t0 np np := fun k k1 k2 t ht2 => by
    have e : k = np := by omega
    subst e
    rw [a6 t (by omega) (by omega), Nat.sub_self]
    rfl
  obtain ⟨σ3, c1, c2, c3, c4⟩ := C_tabL ht hq np cr_fuel σ1 (by omega) (by rw [cr_fuel_v]; omega) (s74_C G hC) (s74_S G hq hS) T1
  refine ⟨σ3, ?_, s74_t G c3, c4⟩
  unfold f_X5_findSoonest_74_1
  simp only [cr_let]
  rw [show rF σ 1 5 = nI np from hC.1, n_0, a1]
  unfold f_X5_findSoonest_74_1_B35
  simp only [cr_let]
  exact c1

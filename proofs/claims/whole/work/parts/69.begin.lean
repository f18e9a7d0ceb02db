/-! the soonest: when the class begins, by which paces -/
def isBg (d : Nat → Nat) (N b : Nat) : Prop := b < N ∧ (∀ t, t < N → d b ≤ d t) ∧ ∀ t, b < t → t < N → d b < d t
def bgC (d : Nat → Nat) (t : Nat) (σ : cr_S) : Prop := (σ.1 74 4 = nI 1000000 ∧ ∀ x, x < t → d x = 1000000) ∨ ∃ b, isBg d t b ∧ d b < 1000000 ∧ σ.1 74 4 = nI (d b) ∧ σ.1 74 3 = nI b
theorem C_begL {q : Nat} {x3 : Int32} {d : Nat → Nat} (hd : ∀ x, x < 100 → d x ≤ 1000000) : ∀ (n f t : Nat) (σ : cr_S), t + n = 100 → n < f → (∀ x, x < 100 → σ.2.1 76 x = nI (d x)) → bgC d t σ → ∃ σ', f_X5_findSoonest_74_1_L130 f σ q x3 (nI t) = f_X5_findSoonest_74_1_B192 σ' q x3 ∧ s74 σ σ' ∧ σ'.2 = σ.2 ∧ bgC d 100 σ'
  | 0, f + 1, t, σ, hn, hf, hr, hB => by
    have e : t = 100 := by omega
    subst e
    refine ⟨σ, ?_, s74_r, rfl, hB⟩
    rw [f_X5_findSoonest_74_1_L130, n_100, if_pos (by rw [le_n (by omega) (by omega)]; omega)]
  | n + 1, f + 1, t, σ, hn, hf, hr, hB => by
    have dt := hd t (by omega)
    have rt : rA σ 76 (nI t) = nI (d t) := by rw [rA_n (by omega)]; exact hr t (by omega)
    have keep : bgC d (t + 1) σ → ∃ σ', f_X5_findSoonest_74_1_B186 (f_X5_findSoonest_74_1_L130 f) σ q x3 (nI t) = f_X5_findSoonest_74_1_B192 σ' q x3 ∧ s74 σ σ' ∧ σ'.2 = σ.2 ∧ bgC d 100 σ' := fun hB' => by
      obtain ⟨σ2, u1, u2, u3, u4⟩ := C_begL hd n f (t + 1) σ (by omega) (by omega) hr hB'
      refine ⟨σ2, ?_, u2, u3, u4⟩
      unfold f_X5_findSoonest_74_1_B186
      simp only [cr_let]
      rw [nI_1]
      exact u1
    have G : s74 σ (sF (sF σ 74 4 (nI (d t))) 74 3 (nI t)) := ⟨rfl, fun o ho => by rw [sF_o ho, sF_o ho], fun _ _ => rfl⟩
    have put : isBg d (t + 1) t → d t < 1000000 → ∃ σ', f_X5_findSoonest_74_1_B186 (f_X5_findSoonest_74_1_L130 f) (sF (sF σ 74 4 (nI (d t))) 74 3 (nI t)) q x3 (nI t) = f_X5_findSoonest_74_1_B192 σ' q x3 ∧ s74 σ σ' ∧ σ'.2 = σ.2 ∧ bgC d 100 σ' := fun hI hlt => by
      obtain ⟨σ2, u1, u2, u3, u4⟩ := C_begL (q := q) (x3 := x3) hd n f (t + 1) (sF (sF σ 74 4 (nI (d t))) 74 3 (nI t)) (by omega) (by omega) hr (Or.inr ⟨t, hI, hlt, by rw [sF_k (by omega), sF_s], sF_s⟩)
      refine ⟨σ2, ?_, s74_t G u2, u3, u4⟩
      unfold f_X5_findSoonest_74_1_B186
      simp only [cr_let]
      rw [nI_1]
      exact u1
    rw [f_X5_findSoonest_74_1_L130, n_100, if_neg (by rw [le_n (by omega) (by omega)]; omega), chk_i (by omega) (by omega), rt, n_M, chk_i (by omega) (by omega), chk_i (by omega) (by omega)]
    simp only [cr_let]
    rcases hB with ⟨w1, w2⟩ | ⟨b, w1, w2, w3, w4⟩
    · rw [show rF σ 74 4 = _ from w1, if_neg (by rw [lt_n (by omega) (by omega)]; omega)]
      by_cases z : d t = 1000000
      · rw [if_pos (by rw [z])]
        exact keep (Or.inl ⟨w1, fun x hx => by
          by_cases e : x = t
          · rw [e]; exact z
          · exact w2 x (by omega)⟩)
      · rw [if_neg (by rw [eq_n (by omega) (by omega)]; exact z)]
        exact put ⟨by omega, fun x hx => by
          by_cases e : x = t
          · rw [e]; exact Nat.le_refl _
          · rw [w2 x (by omega)]; exact dt, fun x h1 h2 => absurd h1 (by omega)⟩ (by omega)
    · rw [show rF σ 74 4 = _ from w3]
      by_cases z : d b < d t
      · rw [if_pos (by rw [lt_n (by omega) (by omega)]; exact z)]
        exact keep (Or.inr ⟨b, ⟨by have := w1.1; omega, fun x hx => by
          by_cases e : x = t
          · rw [e]; omega
          · exact w1.2.1 x (by omega), fun x h1 h2 => by
          by_cases e : x = t
          · rw [e]; exact z
          · exact w1.2.2 x h1 (by omega)⟩, w2, w3, w4⟩)
      · rw [if_neg (by rw [lt_n (by omega) (by omega)]; exact z), if_neg (by rw [eq_n (by omega) (by omega)]; omega)]
        exact put ⟨by omega, fun x hx => by
          by_cases e : x = t
          · rw [e]; exact Nat.le_refl _
          · have := w1.2.1 x (by omega); omega, fun x h1 h2 => absurd h1 (by omega)⟩ (by omega)
def fpN (g : Nat → Nat) (e : Nat) : Nat → Nat → Nat
  | 0, pc => pc
  | n + 1, pc => if g pc = e then pc else fpN g e n (pc + 1)
theorem fp_in {g : Nat → Nat} {e : Nat} : ∀ n pc, pc ≤ fpN g e n pc ∧ fpN g e n pc ≤ pc + n
  | 0, pc => ⟨Nat.le_refl _, Nat.le_refl _⟩
  | n + 1, pc => by
    have := fp_in (g := g) (e := e) n (pc + 1)
    rw [fpN]
    split <;> omega
theorem fp_sp {g : Nat → Nat} {e : Nat} : ∀ n pc p, pc ≤ p → p ≤ pc + n → g p = e → g (fpN g e n pc) = e ∧ ∀ r, pc ≤ r → r < fpN g e n pc → ¬ g r = e
  | 0, pc, p, h1, h2, h => by
    have : p = pc := by omega
    subst this
    exact ⟨h, fun r q1 q2 => absurd q2 (by show ¬ r < p; omega)⟩
  | n + 1, pc, p, h1, h2, h => by
    rw [fpN]
    by_cases z : g pc = e
    · rw [if_pos z]
      exact ⟨z, fun r q1 q2 => absurd q2 (by omega)⟩
    · rw [if_neg z]
      have np : ¬ p = pc := fun q => z (by rw [← q]; exact h)
      have ih := fp_sp n (pc + 1) p (by omega) (by omega) h
      exact ⟨ih.1, fun r q1 q2 => by
        by_cases y : r = pc
        · rw [y]; exact z
        · exact ih.2 r (by omega) q2⟩
theorem mn_at {g : Nat → Nat} : ∀ n pc a, mnN g n pc a < a → ∃ p, pc ≤ p ∧ p < pc + n ∧ g p = mnN g n pc a
  | 0, pc, a, h => absurd h (Nat.lt_irrefl _)
  | n + 1, pc, a, h => by
    rw [mnN] at h ⊢
    by_cases z : g pc < a
    · rw [if_pos z] at h ⊢
      by_cases y : mnN g n (pc + 1) (g pc) < g pc
      · obtain ⟨p, p1, p2, p3⟩ := mn_at n (pc + 1) (g pc) y
        exact ⟨p, by omega, by omega, p3⟩
      · have := mn_in (g := g) n (pc + 1) (g pc)
        exact ⟨pc, by omega, by omega, by omega⟩
    · rw [if_neg z] at h ⊢
      obtain ⟨p, p1, p2, p3⟩ := mn_at n (pc + 1) a h
      exact ⟨p, by omega, by omega, p3⟩
theorem C_fpL {σ : cr_S} {k q t0 L t e : Nat} {P S V : Nat → Nat} (hk : k < 6) (hP : cP σ (9 + k) P) (hS : cS σ q S) (hL : L ≤ 346) (ht : t + 41 ≤ L) (ht2 : t + 41 < 346) (hM : ∀ x, x ≤ L → σ.2.1 83 x = nI (msN P t0 L x)) (hV : ∀ x, x ≤ t + 41 → σ.2.1 (76 + (k + 1)) x = nI (V x) ∧ V x ≤ 1000000) (he : e < 1000000) (h4 : σ.1 74 4 = nI e) : ∀ (n f pc : Nat), pc + n = hiN S → 1 ≤ pc → n < f → f_X5_firstPace_74_L6 f σ (9 + k) q (nI k) (nI t) (nI pc) = some (σ, nI (fpN (gN P S t0 t V) e n pc))
  | 0, f + 1, pc, hn, h1, hf => by
    have hh := hi_in hS.2.2
    rw [f_X5_firstPace_74_L6, C_high hS]
    simp only [Option.bind_some]
    rw [chk_t hS.1, if_pos (by rw [le_n (by omega) (by omega)]; omega)]
    unfold f_X5_firstPace_74_B61
    rw [C_high hS]
    simp only [Option.bind_some]
    rw [chk_t hS.1, show hiN S = pc by omega]
    rfl
  | n + 1, f + 1, pc, hn, h1, hf => by
    have hh := hi_in hS.2.2
    have d := du_in (pc := pc) hP.2.2 hS.2.2 h1
    have ih := C_fpL hk hP hS hL ht ht2 hM hV he h4 n f (pc + 1) (by omega) (by omega) (by omega)
    rw [f_X5_firstPace_74_L6, C_high hS]
    simp only [Option.bind_some]
    rw [chk_t hS.1, if_neg (by rw [le_n (by omega) (by omega)]; omega), C_behind (pc := pc) hP hS h1 (by omega) hL ht ht2 hM]
    simp only [Option.bind_some, cr_let]
    unfold f_X5_firstPace_74_B55
    simp only [cr_let]
    rw [nI_1, nI_1, n_M, fpN, ih]
    by_cases z : tpN P S (t0 + t) pc = true
    · have eg : gN P S t0 t V pc = V (t + duN P S pc) := if_pos z
      obtain ⟨w1, w2⟩ := hV (t + duN P S pc) (by omega)
      rw [if_pos z, if_neg (by rw [eq_n (by omega) (by omega)]; omega), chk_i (by omega) (by omega), nI_clamp (by omega), chk_t (kC_e (k + 1) (by omega)), chk_i (by omega) (by omega), rA_n (by omega), w1, eg, show rF σ 74 4 = _ from h4]
      by_cases y : V (t + duN P S pc) = e
      · rw [if_pos (by rw [y]), if_pos y]
      · rw [if_neg (by rw [eq_n (by omega) (by omega)]; exact y), if_neg y]
    · have eg : gN P S t0 t V pc = 1000000 := if_neg z
      rw [if_neg z, if_pos rfl, eg, if_neg (by omega)]
/-- where the soonest stands ahead of a pair, and by which pace it passes -/
def ptN (Ps : Nat → Nat → Nat) (S : Nat → Nat) (t0 np b e : Nat) : Nat → Nat
  | 0 => b
  | k + 1 => ptN Ps S t0 np b e k + duN (Ps k) S (fpN (gN (Ps k) S t0 (ptN Ps S t0 np b e k) (dN Ps S t0 np (np - (k + 1)))) e (hiN S - loN S) (loN S))
def pcN (Ps : Nat → Nat → Nat) (S : Nat → Nat) (t0 np b e k : Nat) : Nat := fpN (gN (Ps k) S t0 (ptN Ps S t0 np b e k) (dN Ps S t0 np (np - (k + 1)))) e (hiN S - loN S) (loN S)
theorem pc_in {Ps : Nat → Nat → Nat} {S : Nat → Nat} {t0 np b e k : Nat} (hS : okS S) : loN S ≤ pcN Ps S t0 np b e k ∧ pcN Ps S t0 np b e k ≤ hiN S := by
  have lo := lo_in hS
  have := fp_in (g := gN (Ps k) S t0 (ptN Ps S t0 np b e k) (dN Ps S t0 np (np - (k + 1)))) (e := e) (hiN S - loN S) (loN S)
  unfold pcN
  omega
theorem pt_in {Ps : Nat → Nat → Nat} {S : Nat → Nat} {t0 np b e : Nat} (hP : ∀ k, k < np → okP (Ps k)) (hS : okS S) (hb : b < 100) : ∀ k, k ≤ np → ptN Ps S t0 np b e k < 100 + 41 * k
  | 0, _ => by simpa [ptN] using hb
  | k + 1, h => by
    have ih := pt_in (t0 := t0) (e := e) hP hS hb k (by omega)
    have lo := lo_in hS
    have p := pc_in (Ps := Ps) (t0 := t0) (np := np) (b := b) (e := e) (k := k) hS
    have d := du_in (pc := pcN Ps S t0 np b e k) (hP k (by omega)) hS (by omega)
    show ptN Ps S t0 np b e k + duN (Ps k) S (pcN Ps S t0 np b e k) < _
    omega
theorem C_tellL {q t0 np b e : Nat} {Ps : Nat → Nat → Nat} {S : Nat → Nat} (ht : t0 ≤ 9999) (hq : q ≠ 74) (hb : b < 100) (he : e < 1000000) : ∀ (n f k : Nat) (σ : cr_S), k + n = np → n < f → cStr σ np Ps → cS σ q S → tbl σ Ps S t0 np 0 → σ.1 74 4 = nI e → ∃ σ', f_X5_tellPaces_74_1_L9 f σ q (nI t0) (nI (ptN Ps S t0 np b e k)) (nI k) = some σ' ∧ s74 σ σ' ∧ σ'.1 = σ.1 ∧ (∀ j, j < k → σ'.2.1 84 j = σ.2.1 84 j) ∧ ∀ j, k ≤ j → j < np → σ'.2.1 84 j = nI (pcN Ps S t0 np b e j)
  | 0, f + 1, k, σ, hn, hf, hC, hS, hT, h4 => by
    have hnp := hC.2.1
    refine ⟨σ, ?_, s74_r, rfl, fun _ _ => rfl, fun j q1 q2 => absurd q1 (by omega)⟩
    rw [f_X5_tellPaces_74_1_L9, show rF σ 1 5 = _ from hC.1, if_pos (by rw [le_n (by omega) (by omega)]; omega)]
  | n + 1, f + 1, k, σ, hn, hf, hC, hS, hT, h4 => by
    have hnp := hC.2.1
    have hP := hC.2.2 k (by omega)
    have lo := lo_in hS.2.2
    have hh := hi_in hS.2.2
    have sp := sp_in hS.2.2
    have p30 := hP.2.2.2.2.1
    have pin := pc_in (Ps := Ps) (t0 := t0) (np := np) (b := b) (e := e) (k := k) hS.2.2
    have ptk := pt_in (t0 := t0) (e := e) (fun j hj => (hC.2.2 j hj).2.2) hS.2.2 hb k (by omega)
    obtain ⟨σ1, a1, a2, a3, a4, a5⟩ := C_meas (L := 100 + (k + 1) * 41) ht (by omega) hP
    have fp := C_fpL (σ := σ1) (q := q) (t := ptN Ps S t0 np b e k) (t0 := t0) (V := dN Ps S t0 np (np - (k + 1))) (show k < 6 by omega) (cP_of hP (fun _ _ => by rw [a2])) (cS_of hS (fun _ _ => by rw [a2])) (show 100 + (k + 1) * 41 ≤ 346 by omega) (by omega) (by omega) a5 (fun x hx => ⟨by rw [a4 _ (by omega)]; exact hT (k + 1) (by omega) (by omega) x (by omega), d_in _ _ (by omega)⟩) he (by rw [a2]; exact h4) (hiN S - loN S) cr_fuel (loN S) (by omega) (by omega) (by rw [cr_fuel_v]; omega)
    have G : s74 σ (sA σ1 84 (nI k) (nI (pcN Ps S t0 np b e k))) := ⟨a3, fun o _ => by rw [sA_1, a2], fun o ho => by rw [sA_o (by omega), a4 o (by omega)]⟩
    have hS' := s74_S G hq hS
    have hP' := s74_P G (show 9 + k ≠ 74 by omega) hP
    have T' : tbl (sA σ1 84 (nI k) (nI (pcN Ps S t0 np b e k))) Ps S t0 np 0 := fun j j1 j2 t ht2 => by
      rw [sA_o (by omega), a4 _ (by omega)]
      exact hT j j1 j2 t ht2
    obtain ⟨σ2, u1, u2, u3, u4, u5⟩ := C_tellL ht hq hb he n f (k + 1) (sA σ1 84 (nI k) (nI (pcN Ps S t0 np b e k))) (by omega) (by omega) (s74_C G hC) hS' T' (by rw [sA_1, a2]; exact h4)
    refine ⟨σ2, ?_, s74_t G u2, by rw [u3, sA_1, a2], fun j hj => by rw [u4 j (by omega), sA_k (by omega) (by omega), a4 84 (by omega)], fun j q1 q2 => ?_⟩
    · have r84 : rA (sA σ1 84 (nI k) (nI (pcN Ps S t0 np b e k))) 84 (nI k) = nI (pcN Ps S t0 np b e k) := by rw [rA_n (by omega), sA_s (by omega)]
      rw [f_X5_tellPaces_74_1_L9, show rF σ 1 5 = _ from hC.1, if_neg (by rw [le_n (by omega) (by omega)]; omega), chk_i (by omega) (by omega), nI_clamp (by omega), nI_1, n_41, n_100, pk_mul, nI_add, a1]
      simp only [Option.bind_some]
      rw [chk_i (by omega) (by omega)]
      unfold f_X5_firstPace_74
      rw [C_low (cS_of hS (fun _ _ => by rw [a2]))]
      simp only [Option.bind_some]
      rw [chk_t hS.1]
      simp only [cr_let]
      rw [fp]
      simp only [Option.bind_some]
      rw [chk_i (by omega) (by omega), chk_i (by omega) (by omega), chk_t hP.1, chk_i (by omega) (by omega)]
      change Option.bind (f_X10_secondsFor (sA σ1 84 (nI k) (nI (pcN Ps S t0 np b e k))) (rF (sA σ1 84 (nI k) (nI (pcN Ps S t0 np b e k))) (9 + k) 1) (rA (sA σ1 84 (nI k) (nI (pcN Ps S t0 np b e k))) 84 (nI k))) _ = _
      rw [r84, show rF (sA σ1 84 (nI k) (nI (pcN Ps S t0 np b e k))) (9 + k) 1 = nI (Ps k 1) from hP'.2.1 1 (by omega), C_secondsFor (by omega) (by omega) (by omega)]
      simp only [Option.bind_some]
      rw [C_span hS']
      simp only [Option.bind_some]
      rw [chk_t hS.1, chk_i (by omega) (by omega)]
      change Option.bind (f_X10_secondsFor (sA σ1 84 (nI k) (nI (pcN Ps S t0 np b e k))) (nI (spN S)) (rA (sA σ1 84 (nI k) (nI (pcN Ps S t0 np b e k))) 84 (nI k))) _ = _
      rw [r84, C_secondsFor (by omega) (by omega) (by omega)]
      simp only [Option.bind_some]
      rw [nI_add, nI_add]
      exact u1
    · by_cases ej : j = k
      · subst ej
        rw [u4 j (by omega), sA_s (by omega)]
      · exact u5 j (by omega) q2

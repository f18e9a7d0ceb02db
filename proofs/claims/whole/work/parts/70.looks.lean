/-! the soonest: the reference's table -/
def b129 (τ τ' : cr_S) : Prop := (∀ j, j ≠ 6 → j ≠ 7 → τ'.1 0 j = τ.1 0 j) ∧ (∀ o, o ≠ 9 → τ'.2.1 o = τ.2.1 o) ∧ τ'.2.2 = τ.2.2
theorem b129_r {τ : cr_S} : b129 τ τ := ⟨fun _ _ _ => rfl, fun _ _ => rfl, rfl⟩
theorem b129_t {a b c : cr_S} (h : b129 a b) (g : b129 b c) : b129 a c := ⟨fun j q1 q2 => (g.1 j q1 q2).trans (h.1 j q1 q2), fun o q => (g.2.1 o q).trans (h.2.1 o q), g.2.2.trans h.2.2⟩
theorem b129_12 {a b : cr_S} (h : b12 a b) : b129 a b := ⟨h.2, fun o _ => by rw [h.1], by rw [h.1]⟩
theorem b129_m {τ τ' : cr_S} (b : b129 τ τ') : mSame τ τ' := ⟨fun j hj => b.1 j (by unfold mKeep at hj; omega) (by unfold mKeep at hj; omega), fun o _ _ _ q => b.2.1 o q, by rw [b.2.2]⟩
theorem b129_M {τ τ' : cr_S} {np : Nat} {Ps : Nat → Nat → Nat} (b : b129 τ τ') (h : mStr τ np Ps) : mStr τ' np Ps := ⟨by rw [b.1 0 (by omega) (by omega)]; exact h.1, h.2.1, fun j hj => mP_of (h.2.2 j hj) (b.2.1 1 (by omega))⟩
theorem b129_S {τ τ' : cr_S} {s : Nat} {S : Nat → Nat} (b : b129 τ τ') (h : mS τ s S) : mS τ' s S := mS_of h (b.2.1 2 (by omega))
theorem M_by {τ : cr_S} {s k np t0 t pc : Nat} {Ps : Nat → Nat → Nat} {S : Nat → Nat} (hM : mStr τ np Ps) (hS : mS τ s S) (hk : k < np) (h0 : t0 ≤ 9999) (ht : t + 41 < 400) (h1 : 1 ≤ pc) (h2 : pc ≤ 5) : ∃ τ', f_X11_by τ (nI s) (nI k) (nI t0) (nI t) (nI pc) = some (τ', if tpN (Ps k) S (t0 + t) pc then τ.2.1 9 (400 * (k + 1) + (t + duN (Ps k) S pc)) else 999999) ∧ b12 τ τ' ∧ (tpN (Ps k) S (t0 + t) pc = true → τ'.1 0 7 = nI (t0 + (t + duN (Ps k) S pc))) := by
  have hnp := hM.2.1
  have hP := hM.2.2 k hk
  have v4 := hP.2.1 4 (by omega)
  have a1 := hP.2.2.2.2.2.2.2.2.2
  have a2 := hP.2.2.2.2.2.2.1
  have d := du_in (pc := pc) hP.2.2 hS.2.2 h1
  obtain ⟨τ', q1, q2, q3, q4, q5⟩ := M_passes (t := t0 + t) (pace := pc) (ph := Ps k 4) hP hS (by omega) (by omega) h1 h2
  have hw : (τ'.1 0 6 = 0) ↔ tpN (Ps k) S (t0 + t) pc = true := by
    rw [q4, how_0]
    unfold tpN
    rw [decide_eq_true_eq]
  have e7 : tpN (Ps k) S (t0 + t) pc = true → τ'.1 0 7 = nI (t0 + (t + duN (Ps k) S pc)) := fun z => by
    have z' := of_decide_eq_true z
    rw [q5]
    unfold secN duN
    rw [z', if_neg (by omega)]
    congr 1
    omega
  refine ⟨τ', ?_, ⟨q2, q3⟩, e7⟩
  unfold f_X11_by
  rw [n_5, n_4, pk_mul, nI_add, chk_i (by omega) (by omega), rA_n (by omega), v4, nI_add, q1]
  simp only [Option.bind_some]
  by_cases z : tpN (Ps k) S (t0 + t) pc = true
  · rw [if_pos (show rF τ' 0 6 = 0 from hw.mpr z), if_pos z]
    unfold f_X11_endOf
    rw [show rF τ' 0 7 = _ from e7 z, sub_n (by omega), nI_1, n_400, pk_mul, nI_add, chk_i (by omega) (by omega), rA_n (by omega)]
    simp only [Option.bind_some]
    rw [q2, show t0 + (t + duN (Ps k) S pc) - t0 = t + duN (Ps k) S pc by omega]
  · rw [if_neg (show ¬ rF τ' 0 6 = 0 from fun w => z (hw.mp w)), if_neg z]
def mnI (g : Nat → Int32) : Nat → Nat → Int32 → Int32
  | 0, _, a => a
  | n + 1, pc, a => mnI g n (pc + 1) (if a ≤ g pc then a else g pc)
def gI (P S : Nat → Nat) (t0 t : Nat) (R : Nat → Int32) (pc : Nat) : Int32 := if tpN P S (t0 + t) pc then R (t + duN P S pc) else 999999
theorem M_mnL {r40 : cr_S → Int32 → Int32 → Int32 → Option cr_S} {r47 : cr_S → Int32 → Int32 → Int32 → Int32 → Option cr_S} {s k np t0 t : Nat} {Ps : Nat → Nat → Nat} {S : Nat → Nat} {R : Nat → Int32} (hk : k < np) (h0 : t0 ≤ 9999) (ht : t < 400 - 45 * (np - k)) : ∀ (n f pc : Nat) (a : Int32) (τ : cr_S), pc + n = hiN S + 1 → 1 ≤ pc → n < f → mStr τ np Ps → mS τ s S → (∀ x, x < 400 → τ.2.1 9 (400 * (k + 1) + x) = R x) → ∃ τ', f_X11_looksOn_L66 r40 r47 f τ (nI s) (nI t0) (nI k) (nI t) a (nI pc) = f_X11_looksOn_B129 r40 r47 τ' (nI s) (nI t0) (nI k) (nI t) (mnI (gI (Ps k) S t0 t R) n pc a) ∧ b12 τ τ'
  | 0, f + 1, pc, a, τ, hn, h1, hf, hM, hS, hR => by
    have hh := hi_in hS.2.2
    refine ⟨τ, ?_, b12_r⟩
    rw [f_X11_looksOn_L66, M_high hS]
    simp only [Option.bind_some]
    rw [if_pos (by rw [lt_n (by omega) (by omega)]; omega)]
    rfl
  | n + 1, f + 1, pc, a, τ, hn, h1, hf, hM, hS, hR => by
    have hnp := hM.2.1
    have hh := hi_in hS.2.2
    have d := du_in (pc := pc) (hM.2.2 k hk).2.2 hS.2.2 h1
    obtain ⟨τ1, b1, b2, -⟩ := M_by (t := t) (pc := pc) hM hS hk h0 (by omega) h1 (by omega)
    have eg : (if tpN (Ps k) S (t0 + t) pc then τ.2.1 9 (400 * (k + 1) + (t + duN (Ps k) S pc)) else 999999) = gI (Ps k) S t0 t R pc := by
      unfold gI
      rw [hR _ (by omega)]
    rw [eg] at b1
    obtain ⟨τ2, u1, u2⟩ := M_mnL (r40 := r40) (r47 := r47) (R := R) hk h0 ht n f (pc + 1) (if a ≤ gI (Ps k) S t0 t R pc then a else gI (Ps k) S t0 t R pc) τ1 (by omega) (by omega) (by omega) (b12_M b2 hM) (b12_S b2 hS) (fun x hx => by rw [b2.1]; exact hR x hx)
    refine ⟨τ2, ?_, b12_t b2 u2⟩
    have e45 : (45 : Int32) = nI 45 := rfl
    rw [f_X11_looksOn_L66, M_high hS]
    simp only [Option.bind_some]
    rw [if_neg (by rw [lt_n (by omega) (by omega)]; omega), show rF τ 0 0 = _ from hM.1, n_400, e45, sub_n (by omega), pk_mul, sub_n (by omega), if_neg (by rw [le_n (by omega) (by omega)]; omega), b1]
    simp only [Option.bind_some, cr_let]
    unfold f_X11_looksOn_B121
    simp only [cr_let]
    rw [nI_1]
    exact u1
theorem M_rowL {r40 : cr_S → Int32 → Int32 → Int32 → Option cr_S} {s k np t0 : Nat} {Ps : Nat → Nat → Nat} {S : Nat → Nat} {R : Nat → Int32} (hk : k < np) (h0 : t0 ≤ 9999) : ∀ (n f t : Nat) (τ : cr_S), t + n = 400 → n < f → mStr τ np Ps → mS τ s S → (∀ x, x < 400 → τ.2.1 9 (400 * (k + 1) + x) = R x) → ∃ τ', f_X11_looksOn_L47 r40 f τ (nI s) (nI t0) (nI k) (nI t) = f_X11_looksOn_B150 r40 τ' (nI s) (nI t0) (nI k) ∧ b129 τ τ' ∧ (∀ x, (x < 400 * k + t ∨ 400 * k + 400 ≤ x) → τ'.2.1 9 x = τ.2.1 9 x) ∧ ∀ x, t ≤ x → x < 400 - 45 * (np - k) → τ'.2.1 9 (400 * k + x) = mnI (gI (Ps k) S t0 x R) (hiN S + 1 - loN S) (loN S) 999999
  | 0, f + 1, t, τ, hn, hf, hM, hS, hR => by
    refine ⟨τ, ?_, b129_r, fun _ _ => rfl, fun x q1 q2 => absurd q1 (by omega)⟩
    rw [f_X11_looksOn_L47, n_400, if_pos (by rw [le_n (by omega) (by omega)]; omega)]
  | n + 1, f + 1, t, τ, hn, hf, hM, hS, hR => by
    have hnp := hM.2.1
    have lo := lo_in hS.2.2
    have hh := hi_in hS.2.2
    have one : ∃ τ1 v, f_X11_looksOn_L66 r40 (f_X11_looksOn_L47 r40 f) cr_fuel τ (nI s) (nI t0) (nI k) (nI t) 999999 (nI (loN S)) = f_X11_looksOn_B129 r40 (f_X11_looksOn_L47 r40 f) τ1 (nI s) (nI t0) (nI k) (nI t) v ∧ b12 τ τ1 ∧ (t < 400 - 45 * (np - k) → v = mnI (gI (Ps k) S t0 t R) (hiN S + 1 - loN S) (loN S) 999999) := by
      by_cases z : t < 400 - 45 * (np - k)
      · obtain ⟨τ1, u1, u2⟩ := M_mnL (r40 := r40) (r47 := f_X11_looksOn_L47 r40 f) hk h0 z (hiN S + 1 - loN S) cr_fuel (loN S) 999999 τ (by omega) (by omega) (by rw [cr_fuel_v]; omega) hM hS hR
        exact ⟨τ1, _, u1, u2, fun _ => rfl⟩
      · obtain ⟨F, hF⟩ : ∃ F, cr_fuel = F + 1 := ⟨4999, by rw [cr_fuel_v]⟩
        refine ⟨τ, 999999, ?_, b12_r, fun q => absurd q z⟩
        have e45 : (45 : Int32) = nI 45 := rfl
        rw [hF, f_X11_looksOn_L66, M_high hS]
        simp only [Option.bind_some]
        rw [if_neg (by rw [lt_n (by omega) (by omega)]; omega), show rF τ 0 0 = _ from hM.1, n_400, e45, sub_n (by omega), pk_mul, sub_n (by omega), if_pos (by rw [le_n (by omega) (by omega)]; omega)]
    obtain ⟨τ1, v, u1, u2, u3⟩ := one
    have G : b129 τ (sA τ1 9 (nI (400 * k + t)) v) := b129_t (b129_12 u2) ⟨fun _ _ _ => rfl, fun o ho => sA_o ho, rfl⟩
    have r9 : τ1.2.1 9 = τ.2.1 9 := by rw [u2.1]
    obtain ⟨τ2, v1, v2, v3, v4⟩ := M_rowL (r40 := r40) (R := R) hk h0 n f (t + 1) (sA τ1 9 (nI (400 * k + t)) v) (by omega) (by omega) (b129_M G hM) (b129_S G hS) (fun x hx => by rw [sA_k (by omega) (by omega), r9]; exact hR x hx)
    refine ⟨τ2, ?_, b129_t G v2, fun x hx => by rw [v3 x (by omega), sA_k (by omega) (by omega), r9], fun x q1 q2 => ?_⟩
    · rw [f_X11_looksOn_L47, n_400, if_neg (by rw [le_n (by omega) (by omega)]; omega), M_low hS]
      simp only [Option.bind_some, cr_let]
      rw [u1]
      unfold f_X11_looksOn_B129
      rw [n_400, pk_mul, nI_add, chk_i (by omega) (by omega), nI_1]
      exact v1
    · by_cases e : x = t
      · subst e
        rw [v3 _ (by omega), sA_s (by omega), u3 q2]
      · exact v4 x (by omega) q2
def vR (t0 d : Nat) : Nat := if d = 1000000 then 999999 else t0 + d
def val (d : Nat) : Prop := d = 1000000 ∨ d < 1000
theorem vR_le {t0 a b : Nat} (h0 : t0 ≤ 9999) (ha : val a) (hb : val b) : (nI (vR t0 a) ≤ nI (vR t0 b)) ↔ a ≤ b := by
  unfold vR val at *
  by_cases z : a = 1000000
  · rw [if_pos z]
    by_cases y : b = 1000000
    · rw [if_pos y, le_n (by omega) (by omega)]; omega
    · rw [if_neg y, le_n (by omega) (by omega)]; omega
  · rw [if_neg z]
    by_cases y : b = 1000000
    · rw [if_pos y, le_n (by omega) (by omega)]; omega
    · rw [if_neg y, le_n (by omega) (by omega)]; omega
theorem mn_val {g : Nat → Nat} : ∀ n pc a, (∀ p, pc ≤ p → p < pc + n → val (g p)) → val a → val (mnN g n pc a)
  | 0, pc, a, _, ha => ha
  | n + 1, pc, a, hg, ha => by
    rw [mnN]
    refine mn_val n (pc + 1) _ (fun p q1 q2 => hg p (by omega) (by omega)) ?_
    split
    · exact hg pc (by omega) (by omega)
    · exact ha
theorem mn_eq {g : Nat → Nat} {g' : Nat → Int32} {t0 : Nat} (h0 : t0 ≤ 9999) : ∀ n pc a, (∀ p, pc ≤ p → p < pc + n → val (g p) ∧ g' p = nI (vR t0 (g p))) → val a → mnI g' n pc (nI (vR t0 a)) = nI (vR t0 (mnN g n pc a))
  | 0, pc, a, _, _ => rfl
  | n + 1, pc, a, hg, ha => by
    obtain ⟨w1, w2⟩ := hg pc (by omega) (by omega)
    rw [mnI, mnN, w2]
    by_cases z : g pc < a
    · rw [if_pos z, if_neg (fun q => absurd ((vR_le h0 ha w1).mp q) (by omega))]
      exact mn_eq h0 n (pc + 1) (g pc) (fun p q1 q2 => hg p (by omega) (by omega)) w1
    · rw [if_neg z, if_pos ((vR_le h0 ha w1).mpr (by omega))]
      exact mn_eq h0 n (pc + 1) a (fun p q1 q2 => hg p (by omega) (by omega)) ha
theorem d_val {Ps : Nat → Nat → Nat} {S : Nat → Nat} {t0 np : Nat} (hP : ∀ k, k < np → okP (Ps k)) (hS : okS S) : ∀ n t, n ≤ np → t + 41 * n < 1000 → val (dN Ps S t0 np n t)
  | 0, t, _, h => Or.inr (by show t < 1000; omega)
  | n + 1, t, hn, h => by
    rw [dN]
    have lo := lo_in hS
    refine mn_val _ _ _ (fun p q1 q2 => ?_) (Or.inl rfl)
    have d := du_in (pc := p) (hP (np - (n + 1)) (by omega)) hS (by omega)
    unfold gN
    split
    · exact d_val hP hS n _ (by omega) (by omega)
    · exact Or.inl rfl
def tblM (τ : cr_S) (Ps : Nat → Nat → Nat) (S : Nat → Nat) (t0 np n : Nat) : Prop := ∀ k, n ≤ k → k ≤ np → ∀ t, t < 100 + 41 * k → τ.2.1 9 (400 * k + t) = nI (vR t0 (dN Ps S t0 np (np - k) t))
theorem M_tabL {s t0 np : Nat} {Ps : Nat → Nat → Nat} {S : Nat → Nat} (h0 : t0 ≤ 9999) : ∀ (n f : Nat) (τ : cr_S), n ≤ np → n < f → mStr τ np Ps → mS τ s S → tblM τ Ps S t0 np n → ∃ τ', f_X11_looksOn_L40 f τ (nI s) (nI t0) (nI n - 1) = some τ' ∧ b129 τ τ' ∧ tblM τ' Ps S t0 np 0
  | 0, f + 1, τ, hn, hf, hM, hS, hT => by
    refine ⟨τ, ?_, b129_r, hT⟩
    rw [f_X11_looksOn_L40, if_pos (by decide)]
  | n + 1, f + 1, τ, hn, hf, hM, hS, hT => by
    have hnp := hM.2.1
    have lo := lo_in hS.2.2
    have okPs : ∀ k, k < np → okP (Ps k) := fun k hk => (hM.2.2 k hk).2.2
    have e0 : nI (n + 1) - 1 = nI n := by rw [← nI_1, Int32.add_sub_cancel]
    obtain ⟨τ1, u1, u2, u3, u4⟩ := M_rowL (r40 := f_X11_looksOn_L40 f) (R := fun x => τ.2.1 9 (400 * (n + 1) + x)) (show n < np by omega) h0 400 cr_fuel 0 τ (by omega) (by rw [cr_fuel_v]; omega) hM hS (fun _ _ => rfl)
    have T1 : tblM τ1 Ps S t0 np n := fun k k1 k2 t ht => by
      by_cases e : k = n
      · subst e
        rw [u4 t (by omega) (by omega), show np - k = (np - (k + 1)) + 1 by omega, dN, show np - (np - (k + 1) + 1) = k by omega]
        refine mn_eq (t0 := t0) h0 _ _ 1000000 (fun p q1 q2 => ?_) (Or.inl rfl)
        have d := du_in (pc := p) (okPs k (by omega)) hS.2.2 (by omega)
        unfold gN gI
        by_cases z : tpN (Ps k) S (t0 + t) p = true
        · rw [if_pos z, if_pos z]
          exact ⟨d_val okPs hS.2.2 _ _ (by omega) (by omega), hT (k + 1) (by omega) (by omega) _ (by omega)⟩
        · rw [if_neg z, if_neg z]
          exact ⟨Or.inl rfl, rfl⟩
      · rw [u3 _ (by omega)]
        exact hT k (by omega) k2 t ht
    obtain ⟨τ2, v1, v2, v3⟩ := M_tabL h0 n f τ1 (by omega) (by omega) (b129_M u2 hM) (b129_S u2 hS) T1
    refine ⟨τ2, ?_, b129_t u2 v2, v3⟩
    rw [f_X11_looksOn_L40, e0, if_neg (nl_0 (by omega)), n_0, u1]
    unfold f_X11_looksOn_B150
    simp only [cr_let]
    rw [← Int32.sub_eq_add_neg]
    exact v1
theorem M_lastL {x1 : Int32} {t0 np : Nat} (hnp : np ≤ 6) (h0 : t0 ≤ 9999) : ∀ (n f t : Nat) (τ : cr_S), t + n = 400 → n < f → τ.1 0 0 = nI np → ∃ τ', f_X11_looksOn_L2 f τ x1 (nI t0) (nI t) = f_X11_looksOn_B33 τ' x1 (nI t0) ∧ τ'.1 = τ.1 ∧ τ'.2.2 = τ.2.2 ∧ (∀ o, o ≠ 9 → τ'.2.1 o = τ.2.1 o) ∧ (∀ x, x < 400 * np + t → τ'.2.1 9 x = τ.2.1 9 x) ∧ ∀ x, t ≤ x → x < 400 → τ'.2.1 9 (400 * np + x) = nI (t0 + x)
  | 0, f + 1, t, τ, hn, hf, hp => by
    refine ⟨τ, ?_, rfl, rfl, fun _ _ => rfl, fun _ _ => rfl, fun x q1 q2 => absurd q1 (by omega)⟩
    rw [f_X11_looksOn_L2, n_400, if_pos (by rw [le_n (by omega) (by omega)]; omega)]
  | n + 1, f + 1, t, τ, hn, hf, hp => by
    obtain ⟨τ2, u1, u2, u3, u4, u5, u6⟩ := M_lastL (x1 := x1) hnp h0 n f (t + 1) (sA τ 9 (nI (400 * np + t)) (nI (t0 + t))) (by omega) (by omega) hp
    refine ⟨τ2, ?_, u2, u3, fun o ho => (u4 o ho).trans (sA_o ho), fun x hx => by rw [u5 x (by omega), sA_k (by omega) (by omega)], fun x q1 q2 => ?_⟩
    · rw [f_X11_looksOn_L2, n_400, if_neg (by rw [le_n (by omega) (by omega)]; omega), show rF τ 0 0 = _ from hp, pk_mul, nI_add, chk_i (by omega) (by omega), nI_add, nI_1]
      exact u1
    · by_cases e : x = t
      · subst e
        rw [u5 _ (by omega), sA_s (by omega)]
      · exact u6 x (by omega) q2
theorem M_table {τ : cr_S} {s t0 np : Nat} {Ps : Nat → Nat → Nat} {S : Nat → Nat} (h0 : t0 ≤ 9999) (hM : mStr τ np Ps) (hS : mS τ s S) : ∃ τ', f_X11_looksOn τ (nI s) (nI t0) = some τ' ∧ b129 τ τ' ∧ tblM τ' Ps S t0 np 0 := by
  have hnp := hM.2.1
  obtain ⟨τ1, a1, a2, a3, a4, -, a6⟩ := M_lastL (x1 := nI s) hnp h0 400 cr_fuel 0 τ (by omega) (by rw [cr_fuel_v]; omega) hM.1
  have G : b129 τ τ1 := ⟨fun j _ _ => by rw [a2], a4, a3⟩
  have T1 : tblM τ1 Ps S t0 np np := fun k k1 k2 t ht => by
    have e : k = np := by omega
    subst e
    rw [a6 t (by omega) (by omega), Nat.sub_self]
    show nI (t0 + t) = nI (vR t0 t)
    unfold vR
    rw [if_neg (by omega)]
  obtain ⟨τ2, v1, v2, v3⟩ := M_tabL h0 np cr_fuel τ1 (by omega) (by rw [cr_fuel_v]; omega) (b129_M G hM) (b129_S G hS) T1
  refine ⟨τ2, ?_, b129_t G v2, v3⟩
  unfold f_X11_looksOn
  rw [n_0, a1]
  unfold f_X11_looksOn_B33
  simp only [cr_let]
  rw [show rF τ1 0 0 = nI np by show τ1.1 0 0 = _; rw [a2]; exact hM.1]
  exact v1

/-! a pair is read -/
theorem kC_p3 : ∀ k, k < 6 → kC (59 + k) = 3 := by decide
theorem kC_s3 : ∀ k, k < 5 → kC (65 + k) = 6 := by decide
/-- both have read a pair: well, or not -/
def PJ (σ τ : cr_S) (k nt : Nat) (x : Option (cr_S × Int32)) (y : Option cr_S) : Prop :=
  ∃ σ' τ' a', a' ≤ nt ∧ y = some τ' ∧ τ'.1 0 13 = nI a' ∧ τ'.1 0 17 = nI (k + 1) ∧ (∀ j, j ≠ 13 → j ≠ 14 → j ≠ 17 → τ'.1 0 j = τ.1 0 j) ∧ (∀ o, o ≠ 6 → τ'.2.1 o = τ.2.1 o) ∧ τ'.2.2 = τ.2.2 ∧ σ'.2 = σ.2 ∧ (∀ o, o ≠ 55 → o ≠ 59 + k → σ'.1 o = σ.1 o) ∧ (∀ j, j ≠ 6 → σ'.1 55 j = σ.1 55 j) ∧ σ'.1 55 6 = nI a' ∧
  ((x = some (σ', 0) ∧ τ'.1 0 14 = 1) ∨ (∃ P, okP P ∧ x = some (σ', 1) ∧ τ'.1 0 14 = 0 ∧ (∀ j, j < 5 → σ'.1 (59 + k) j = nI (P j) ∧ τ'.2.1 6 (5 * k + j) = nI (P j)) ∧ (∀ i, i < 5 * k → τ'.2.1 6 i = τ.2.1 6 i)))
theorem PJ_at {σ σ1 τ τ1 : cr_S} {k nt a : Nat} {x : Option (cr_S × Int32)} {y : Option cr_S} (h : PJ σ1 τ1 k nt x y) (c : atC σ σ1 a) (m1 : ∀ j, j ≠ 13 → j ≠ 14 → j ≠ 17 → τ1.1 0 j = τ.1 0 j) (m2 : ∀ o, o ≠ 6 → τ1.2.1 o = τ.2.1 o) (m3 : τ1.2.2 = τ.2.2) (m4 : ∀ i, i < 5 * k → τ1.2.1 6 i = τ.2.1 6 i) : PJ σ τ k nt x y := by
  obtain ⟨σ', τ', a', h1, h2, h3, h4, h5, h6, h7, h8, h9, h10, h11, h12⟩ := h
  refine ⟨σ', τ', a', h1, h2, h3, h4, fun j q1 q2 q3 => (h5 j q1 q2 q3).trans (m1 j q1 q2 q3), fun o q => (h6 o q).trans (m2 o q), h7.trans m3, h8.trans c.1, fun o q1 q2 => (h9 o q1 q2).trans (c.2.1 o q1), fun j q => (h10 j q).trans (c.2.2.1 j q), h11, ?_⟩
  rcases h12 with h | ⟨P, p1, p2, p3, p4, p5⟩
  · exact Or.inl h
  · exact Or.inr ⟨P, p1, p2, p3, p4, fun i hi => (p5 i hi).trans (m4 i hi)⟩
/-- the rest of the reference's reading, cut at its writes -/
noncomputable def prd5 (v1 : Int32) (s26 : cr_S) : Option cr_S := Option.bind (f_X11_has s26 43) (fun q28 => (if q28.2 = 0 then f_X11_readPair_B123 q28.1 0 (v1 + 4) else chk (inb (v1 + 2) 30) (Option.bind (f_X11_number q28.1 0 ((rA q28.1 6 (v1 + 2)) - 1)) (fun q36 => f_X11_readPair_B123 q36.1 q36.2 (v1 + 4)))))
noncomputable def prd4 (v1 : Int32) (q20 : cr_S) : Option cr_S := chk (inb (v1 + 2) 30) (Option.bind (f_X11_number q20 1 (rA q20 6 (v1 + 2))) (fun q23 => chk (inb (v1 + 3) 30) (cr_let (sA q23.1 6 (v1 + 3) q23.2) (fun s26 => prd5 v1 s26))))
noncomputable def prd3 (v1 : Int32) (q13 : cr_S) : Option cr_S := Option.bind (f_X11_number q13 2 24) (fun q15 => chk (inb (v1 + 2) 30) (cr_let (sA q15.1 6 (v1 + 2) q15.2) (fun s18 => Option.bind (f_X11_must s18 47) (fun q20 => prd4 v1 q20))))
noncomputable def prd2 (v1 : Int32) (s6 : cr_S) : Option cr_S := Option.bind (f_X11_number s6 1 30) (fun q8 => chk (inb (v1 + 1) 30) (cr_let (sA q8.1 6 (v1 + 1) q8.2) (fun s11 => Option.bind (f_X11_must s11 47) (fun q13 => prd3 v1 q13))))
theorem prd1 (σ : cr_S) : f_X11_readPair σ = cr_let (5 * (rF σ 0 17)) (fun v1 => Option.bind (f_X11_letter σ 112 115 116 102) (fun q3 => chk (inb v1 30) (cr_let (sA q3.1 6 v1 q3.2) (fun s6 => prd2 v1 s6)))) := rfl
/-- what the rest leaves, once it is wrong -/
def rw6 (τ τ' : cr_S) : Prop := (∀ j, j ≠ 17 → τ'.1 0 j = τ.1 0 j) ∧ τ'.1 0 17 = τ.1 0 17 + 1 ∧ (∀ o, o ≠ 6 → τ'.2.1 o = τ.2.1 o) ∧ τ'.2.2 = τ.2.2
theorem rw6_sA {τ τ' : cr_S} {i v : Int32} (h : rw6 (sA τ 6 i v) τ') : rw6 τ τ' := ⟨h.1, h.2.1, fun o q => (h.2.2.1 o q).trans (sA_o q), h.2.2.2⟩
theorem n5k {k : Nat} {j : Int32} {i : Nat} (e : j = nI i) : nI (5 * k) + j = nI (5 * k + i) := by rw [e, nI_add]
theorem rp_B {τ : cr_S} {k : Nat} {t0 : Int32} (hk : k < 6) : f_X11_readPair_B123 τ t0 (nI (5 * k) + 4) = some (sF (sA τ 6 (nI (5 * k + 4)) t0) 0 17 (τ.1 0 17 + 1)) := by
  unfold f_X11_readPair_B123
  rw [n5k n_4, chk_i (by omega) (by omega)]
  rfl
theorem rp_B6 {τ : cr_S} {k : Nat} {t0 : Int32} : rw6 τ (sF (sA τ 6 (nI (5 * k + 4)) t0) 0 17 (τ.1 0 17 + 1)) := ⟨fun j q => by rw [sF_k q]; rfl, sF_s, fun o q => by rw [sF_2, sA_o q], rfl⟩
theorem w5 {τ : cr_S} {k : Nat} (hk : k < 6) (h : τ.1 0 14 = 1) : ∃ τ', prd5 (nI (5 * k)) τ = some τ' ∧ rw6 τ τ' := by
  unfold prd5
  rw [wHas h]
  simp only [Option.bind_some]
  rw [if_pos trivial, rp_B hk]
  exact ⟨_, rfl, rp_B6⟩
theorem w4 {τ : cr_S} {k : Nat} (hk : k < 6) (h : τ.1 0 14 = 1) : ∃ τ', prd4 (nI (5 * k)) τ = some τ' ∧ rw6 τ τ' := by
  unfold prd4
  rw [n5k n_2, chk_i (by omega) (by omega), wNum h]
  simp only [Option.bind_some, cr_let]
  rw [n5k n_3, chk_i (by omega) (by omega)]
  obtain ⟨τ', u1, u2⟩ := w5 (τ := sA τ 6 (nI (5 * k + 3)) 0) hk h
  exact ⟨τ', u1, rw6_sA u2⟩
theorem w3 {τ : cr_S} {k : Nat} (hk : k < 6) (h : τ.1 0 14 = 1) : ∃ τ', prd3 (nI (5 * k)) τ = some τ' ∧ rw6 τ τ' := by
  unfold prd3
  rw [wNum h]
  simp only [Option.bind_some, cr_let]
  rw [n5k n_2, chk_i (by omega) (by omega), wMust (show (sA τ 6 (nI (5 * k + 2)) 0).1 0 14 = 1 from h)]
  obtain ⟨τ', u1, u2⟩ := w4 (τ := sA τ 6 (nI (5 * k + 2)) 0) hk h
  exact ⟨τ', u1, rw6_sA u2⟩
theorem w2 {τ : cr_S} {k : Nat} (hk : k < 6) (h : τ.1 0 14 = 1) : ∃ τ', prd2 (nI (5 * k)) τ = some τ' ∧ rw6 τ τ' := by
  unfold prd2
  rw [wNum h]
  simp only [Option.bind_some, cr_let]
  rw [n5k n_1, chk_i (by omega) (by omega), wMust (show (sA τ 6 (nI (5 * k + 1)) 0).1 0 14 = 1 from h)]
  obtain ⟨τ', u1, u2⟩ := w3 (τ := sA τ 6 (nI (5 * k + 1)) 0) hk h
  exact ⟨τ', u1, rw6_sA u2⟩
/-- a fault: the class stops, the reference goes on -/
theorem PJ_no {σ σ1 τ τ1 τ2 : cr_S} {k nt a : Nat} {x : Option (cr_S × Int32)} {y : Option cr_S} (ha : a ≤ nt) (h17 : τ.1 0 17 = nI k) (c : atC σ σ1 a) (m : awM τ τ1 a true) (hx : x = some (σ1, 0)) (hy : y = some τ2) (g : rw6 τ1 τ2) : PJ σ τ k nt x y := by
  refine ⟨σ1, τ2, a, ha, hy, by rw [g.1 13 (by omega)]; exact m.2.2.1, ?_, fun j q1 q2 q3 => by rw [g.1 j q3, m.2.1 j q1 q2], fun o q => by rw [g.2.2.1 o q, m.1], by rw [g.2.2.2, m.1], c.1, fun o q _ => c.2.1 o q, c.2.2.1, c.2.2.2, Or.inl ⟨hx, ?_⟩⟩
  · rw [g.2.1, m.2.1 17 (by omega) (by omega), h17, nI_1]
  · rw [g.1 14 (by omega)]
    exact m.2.2.2
theorem C_pB {σ : cr_S} {k p0 p1 p2 p3 p4 : Nat} (hk : k < 6) (h2 : 2 ≤ p2) (h2' : p2 ≤ 24) (h4 : p4 < 1000) : ∃ σ', f_X7_isPairRead_55_B101 σ (59 + k) (nI p0) (nI p1) (nI p2) (nI p3) (nI p4) = some (σ', 1) ∧ σ'.2 = σ.2 ∧ (∀ o, o ≠ 59 + k → σ'.1 o = σ.1 o) ∧ σ'.1 (59 + k) 0 = nI p0 ∧ σ'.1 (59 + k) 1 = nI p1 ∧ σ'.1 (59 + k) 2 = nI p2 ∧ σ'.1 (59 + k) 3 = nI p3 ∧ σ'.1 (59 + k) 4 = nI p4 := by
  have kc := kC_p3 k hk
  have q : (2 : Int32) ≤ nI p2 := by rw [n_2, le_n (by omega) (by omega)]; exact h2
  have q4 : (0 : Int32) ≤ nI p4 := ge_0 (by omega)
  generalize 59 + k = o at kc
  refine ⟨sF (sF (sF (sF (sF (sF σ o 0 (nI p0)) o 1 (nI p1)) o 2 (nI p2)) o 3 (nI p3)) o 4 0) o 4 (nI p4), ?_, rfl, fun o ho => by simp (disch := omega) only [sF_o], ?_, ?_, ?_, ?_, ?_⟩
  · unfold f_X7_isPairRead_55_B101 f_X3_become f_X3_become_B21
    rw [if_pos q4, if_pos q]
    simp only [chk_t kc, cr_let, Option.bind_some]
  all_goals simp (disch := omega) only [sF_k, sF_s]
theorem awM_tr {a b c : cr_S} {x y : Nat} {u w : Bool} (h : awM a b x u) (g : awM b c y w) : awM a c y w :=
  ⟨g.1.trans h.1, fun j q1 q2 => (g.2.1 j q1 q2).trans (h.2.1 j q1 q2), g.2.2.1, g.2.2.2⟩
def P5 (a b c d e : Nat) : Nat → Nat
  | 0 => a
  | 1 => b
  | 2 => c
  | 3 => d
  | _ => e
noncomputable def cp5 (σ : cr_S) (o : Nat) (x2 t0 v11 v17 : Int32) : Option (cr_S × Int32) := Option.bind (f_X7_isTaken_55 σ 43) (fun q19 => (if q19.2 = 0 then f_X7_isPairRead_55_B101 q19.1 o x2 t0 v11 v17 0 else Option.bind (f_X7_numberRead_55 q19.1 0 (v11 - 1)) (fun q27 => f_X7_isPairRead_55_B101 q27.1 o x2 t0 v11 v17 q27.2)))
noncomputable def cp4 (σ : cr_S) (o : Nat) (x2 t0 v11 : Int32) : Option (cr_S × Int32) := Option.bind (f_X7_numberRead_55 σ 1 v11) (fun q15 => cr_let q15.2 (fun v17 => (if 0 ≤ v17 then cp5 q15.1 o x2 t0 v11 v17 else some (q15.1, 0))))
noncomputable def cp3 (σ : cr_S) (o : Nat) (x2 t0 : Int32) : Option (cr_S × Int32) := Option.bind (f_X7_numberRead_55 σ 2 24) (fun q9 => cr_let q9.2 (fun v11 => (if v11 < 0 then some (q9.1, 0) else Option.bind (f_X7_isTaken_55 q9.1 47) (fun q13 => (if q13.2 = 0 then some (q13.1, 0) else cp4 q13.1 o x2 t0 v11)))))
theorem cp2 (σ : cr_S) (o : Nat) (x2 t0 : Int32) : f_X7_isPairRead_55_B22 σ o x2 t0 = (if t0 < 0 then some (σ, 0) else Option.bind (f_X7_isTaken_55 σ 47) (fun q7 => (if q7.2 = 0 then some (q7.1, 0) else cp3 q7.1 o x2 t0))) := rfl
theorem J5 {σ s : cr_S} {nt a k p0 p1 p2 p3 : Nat} {ch : Nat → Nat} (hk : k < 6) (tc : tpC σ nt ch) (h6 : σ.1 55 6 = nI a) (tm : tpM s nt ch) (h3 : s.1 0 13 = nI a) (hw : s.1 0 14 = 0) (h17 : s.1 0 17 = nI k) (ha : a ≤ nt) (i0 : p0 ≤ 3) (i1 : 1 ≤ p1 ∧ p1 ≤ 30) (i2 : 2 ≤ p2 ∧ p2 ≤ 24) (i3 : 1 ≤ p3 ∧ p3 ≤ p2) (r0 : s.2.1 6 (5 * k + 0) = nI p0) (r1 : s.2.1 6 (5 * k + 1) = nI p1) (r2 : s.2.1 6 (5 * k + 2) = nI p2) (r3 : s.2.1 6 (5 * k + 3) = nI p3) : PJ σ s k nt (cp5 σ (59 + k) (nI p0) (nI p1) (nI p2) (nI p3)) (prd5 (nI (5 * k)) s) := by
  have fin : ∀ σ2 τ2 a2 p4, a2 ≤ nt → atC σ σ2 a2 → awM s τ2 a2 false → p4 < p2 → PJ σ s k nt (f_X7_isPairRead_55_B101 σ2 (59 + k) (nI p0) (nI p1) (nI p2) (nI p3) (nI p4)) (f_X11_readPair_B123 τ2 (nI p4) (nI (5 * k) + 4)) := by
    intro σ2 τ2 a2 p4 g1 g2 g3 g4
    obtain ⟨σ', u1, u2, u3, c0, c1, c2, c3, c4⟩ := C_pB (σ := σ2) (p0 := p0) (p1 := p1) (p3 := p3) (p4 := p4) hk i2.1 i2.2 (by omega)
    rw [u1, rp_B hk]
    refine ⟨σ', _, a2, g1, rfl, by rw [sF_k (by omega)]; exact g3.2.2.1, by rw [sF_s, g3.2.1 17 (by omega) (by omega), h17, nI_1], fun j q1 q2 q3 => by rw [sF_k q3]; exact g3.2.1 j q1 q2, fun o q => by rw [sF_2, sA_o q, g3.1], by show τ2.2.2 = s.2.2; rw [g3.1], u2.trans g2.1, fun o q1 q2 => (u3 o q2).trans (g2.2.1 o q1), fun j q => by rw [u3 55 (by omega)]; exact g2.2.2.1 j q, by rw [u3 55 (by omega)]; exact g2.2.2.2, Or.inr ⟨P5 p0 p1 p2 p3 p4, ⟨i0, i1.1, i1.2, i2.1, i2.2, i3.1, i3.2, g4⟩, rfl, by rw [sF_k (by omega)]; exact g3.2.2.2, fun j hj => ?_, fun i hi => by rw [sF_2, sA_k (by omega) (by omega), g3.1]⟩⟩
    rcases (show j = 0 ∨ j = 1 ∨ j = 2 ∨ j = 3 ∨ j = 4 by omega) with rfl | rfl | rfl | rfl | rfl
    · exact ⟨c0, by rw [sF_2, sA_k (by omega) (by omega), g3.1]; exact r0⟩
    · exact ⟨c1, by rw [sF_2, sA_k (by omega) (by omega), g3.1]; exact r1⟩
    · exact ⟨c2, by rw [sF_2, sA_k (by omega) (by omega), g3.1]; exact r2⟩
    · exact ⟨c3, by rw [sF_2, sA_k (by omega) (by omega), g3.1]; exact r3⟩
    · exact ⟨c4, by rw [sF_2, sA_s (by omega)]; rfl⟩
  obtain ⟨σ1, τ1, a1, d, k1, k2, k3, k4, k5⟩ := has2 (c := 43) (x := 43) rfl (by omega) (by omega) tc h6 tm h3 hw ha
  unfold cp5 prd5
  rw [k3, k4]
  simp only [Option.bind_some]
  cases d
  · rw [if_pos (show bI false = 0 from rfl), if_pos (show bI false = 0 from rfl)]
    exact fin σ1 τ1 a1 0 k1 k2 k5 (by omega)
  · rw [if_neg (show ¬ bI true = 0 by decide), if_neg (show ¬ bI true = 0 by decide), n5k n_2, chk_i (by omega) (by omega), rA_n (by omega), k5.1, r2]
    obtain ⟨σ2, τ2, a2, m1, m2, m3⟩ := num2 (lo := 0) (hi := p2 - 1) (x1 := 0) (x2 := nI p2 - 1) rfl (by rw [n_1, sub_n (by omega)]) (by omega) (by omega) (tpC_at k2 tc) k2.2.2.2 (tpM_aw k5 tm) k5.2.2.1 k5.2.2.2 k1
    rcases m3 with ⟨v, x1, x2, x3, x4, x5⟩ | ⟨r, x3, x4, x5⟩
    · rw [x3, x4]
      exact fin σ2 τ2 a2 v m1 (atC_tr k2 m2) (awM_tr k5 x5) (by omega)
    · rw [x3, x4]
      refine PJ_no m1 h17 (atC_tr k2 m2) (awM_tr k5 x5) ?_ (rp_B hk) rp_B6
      simp only [Option.bind_some]
      unfold f_X7_isPairRead_55_B101
      rw [if_neg (by decide)]
theorem J4 {σ s : cr_S} {nt a k p0 p1 p2 : Nat} {ch : Nat → Nat} (hk : k < 6) (tc : tpC σ nt ch) (h6 : σ.1 55 6 = nI a) (tm : tpM s nt ch) (h3 : s.1 0 13 = nI a) (hw : s.1 0 14 = 0) (h17 : s.1 0 17 = nI k) (ha : a ≤ nt) (i0 : p0 ≤ 3) (i1 : 1 ≤ p1 ∧ p1 ≤ 30) (i2 : 2 ≤ p2 ∧ p2 ≤ 24) (r0 : s.2.1 6 (5 * k + 0) = nI p0) (r1 : s.2.1 6 (5 * k + 1) = nI p1) (r2 : s.2.1 6 (5 * k + 2) = nI p2) : PJ σ s k nt (cp4 σ (59 + k) (nI p0) (nI p1) (nI p2)) (prd4 (nI (5 * k)) s) := by
  obtain ⟨σ2, τ2, a2, m1, m2, m3⟩ := num2 (lo := 1) (hi := p2) (x1 := 1) (x2 := nI p2) rfl rfl (by omega) (by omega) tc h6 tm h3 hw ha
  unfold cp4 prd4
  rw [n5k n_2, chk_i (by omega) (by omega), rA_n (by omega), r2]
  rcases m3 with ⟨v, x1, x2, x3, x4, x5⟩ | ⟨r, x3, x4, x5⟩
  · rw [x3, x4]
    simp only [Option.bind_some, cr_let]
    rw [if_pos (ge_0 (by omega)), n5k n_3, chk_i (by omega) (by omega)]
    refine PJ_at (J5 (σ := σ2) (s := sA τ2 6 (nI (5 * k + 3)) (nI v)) (a := a2) (ch := ch) hk (tpC_at m2 tc) m2.2.2.2 (tpM_sA (by omega) (tpM_aw x5 tm)) x5.2.2.1 x5.2.2.2 ((x5.2.1 17 (by omega) (by omega)).trans h17) m1 i0 i1 i2 ⟨x1, x2⟩ ?_ ?_ ?_ (sA_s (by omega))) m2 (fun j q1 q2 q3 => x5.2.1 j q1 q2) (fun o q => by rw [sA_o q, x5.1]) (by show τ2.2.2 = s.2.2; rw [x5.1]) (fun i hi => by rw [sA_k (by omega) (by omega), x5.1])
    · rw [sA_k (by omega) (by omega), x5.1]; exact r0
    · rw [sA_k (by omega) (by omega), x5.1]; exact r1
    · rw [sA_k (by omega) (by omega), x5.1]; exact r2
  · rw [x3, x4]
    simp only [Option.bind_some, cr_let]
    rw [if_neg (show ¬ (0 : Int32) ≤ -1 by decide), n5k n_3, chk_i (by omega) (by omega)]
    obtain ⟨τ', u1, u2⟩ := w5 (τ := sA τ2 6 (nI (5 * k + 3)) r) hk x5.2.2.2
    exact PJ_no m1 h17 m2 x5 rfl u1 (rw6_sA u2)
theorem J3 {σ s : cr_S} {nt a k p0 p1 : Nat} {ch : Nat → Nat} (hk : k < 6) (tc : tpC σ nt ch) (h6 : σ.1 55 6 = nI a) (tm : tpM s nt ch) (h3 : s.1 0 13 = nI a) (hw : s.1 0 14 = 0) (h17 : s.1 0 17 = nI k) (ha : a ≤ nt) (i0 : p0 ≤ 3) (i1 : 1 ≤ p1 ∧ p1 ≤ 30) (r0 : s.2.1 6 (5 * k + 0) = nI p0) (r1 : s.2.1 6 (5 * k + 1) = nI p1) : PJ σ s k nt (cp3 σ (59 + k) (nI p0) (nI p1)) (prd3 (nI (5 * k)) s) := by
  obtain ⟨σ2, τ2, a2, m1, m2, m3⟩ := num2 (lo := 2) (hi := 24) (x1 := 2) (x2 := 24) rfl rfl (by omega) (by omega) tc h6 tm h3 hw ha
  unfold cp3 prd3
  rcases m3 with ⟨v, x1, x2, x3, x4, x5⟩ | ⟨r, x3, x4, x5⟩
  · rw [x3, x4]
    simp only [Option.bind_some, cr_let]
    rw [if_neg (nl_0 (by omega)), n5k n_2, chk_i (by omega) (by omega)]
    have tm2 : tpM (sA τ2 6 (nI (5 * k + 2)) (nI v)) nt ch := tpM_sA (by omega) (tpM_aw x5 tm)
    obtain ⟨σ3, τ3, a3, g1, g2, g3⟩ := must2 (c := 47) (x := 47) rfl (by omega) (by omega) (tpC_at m2 tc) m2.2.2.2 tm2 x5.2.2.1 x5.2.2.2 m1
    have A : ∀ j, j ≠ 13 → j ≠ 14 → j ≠ 17 → (sA τ2 6 (nI (5 * k + 2)) (nI v)).1 0 j = s.1 0 j := fun j q1 q2 q3 => x5.2.1 j q1 q2
    have B : ∀ o, o ≠ 6 → (sA τ2 6 (nI (5 * k + 2)) (nI v)).2.1 o = s.2.1 o := fun o q => by rw [sA_o q, x5.1]
    have D : (sA τ2 6 (nI (5 * k + 2)) (nI v)).2.2 = s.2.2 := by show τ2.2.2 = s.2.2; rw [x5.1]
    have E : ∀ i, i < 5 * k → (sA τ2 6 (nI (5 * k + 2)) (nI v)).2.1 6 i = s.2.1 6 i := fun i hi => by rw [sA_k (by omega) (by omega), x5.1]
    have h17' : (sA τ2 6 (nI (5 * k + 2)) (nI v)).1 0 17 = nI k := (x5.2.1 17 (by omega) (by omega)).trans h17
    rcases g3 with ⟨y1, y2, y3⟩ | ⟨y1, y2, y3⟩
    · rw [y1, y2]
      simp only [Option.bind_some]
      rw [if_neg (show ¬ (1 : Int32) = 0 by decide)]
      refine PJ_at (J4 (σ := σ3) (s := τ3) (a := a3) (ch := ch) hk (tpC_at g2 (tpC_at m2 tc)) g2.2.2.2 (tpM_aw y3 tm2) y3.2.2.1 y3.2.2.2 ((y3.2.1 17 (by omega) (by omega)).trans h17') g1 i0 i1 ⟨x1, x2⟩ ?_ ?_ ?_) (atC_tr m2 g2) (fun j q1 q2 q3 => (y3.2.1 j q1 q2).trans (A j q1 q2 q3)) (fun o q => by rw [y3.1]; exact B o q) (by rw [y3.1]; exact D) (fun i hi => by rw [y3.1]; exact E i hi)
      · rw [y3.1, sA_k (by omega) (by omega), x5.1]; exact r0
      · rw [y3.1, sA_k (by omega) (by omega), x5.1]; exact r1
      · rw [y3.1, sA_s (by omega)]
    · rw [y1, y2]
      simp only [Option.bind_some]
      rw [if_pos trivial]
      obtain ⟨τ', u1, u2⟩ := w4 (τ := τ3) hk y3.2.2.2
      exact PJ_at (PJ_no g1 h17' g2 y3 rfl u1 u2) m2 A B D E
  · rw [x3, x4]
    simp only [Option.bind_some, cr_let]
    rw [if_pos (show (-1 : Int32) < 0 by decide), n5k n_2, chk_i (by omega) (by omega), wMust (show (sA τ2 6 (nI (5 * k + 2)) r).1 0 14 = 1 from x5.2.2.2)]
    obtain ⟨τ', u1, u2⟩ := w4 (τ := sA τ2 6 (nI (5 * k + 2)) r) hk x5.2.2.2
    exact PJ_no m1 h17 m2 x5 rfl u1 (rw6_sA u2)
theorem J2 {σ s : cr_S} {nt a k p0 : Nat} {ch : Nat → Nat} (hk : k < 6) (tc : tpC σ nt ch) (h6 : σ.1 55 6 = nI a) (tm : tpM s nt ch) (h3 : s.1 0 13 = nI a) (hw : s.1 0 14 = 0) (h17 : s.1 0 17 = nI k) (ha : a ≤ nt) (i0 : p0 ≤ 3) (r0 : s.2.1 6 (5 * k + 0) = nI p0) : PJ σ s k nt (Option.bind (f_X7_numberRead_55 σ 1 30) (fun q5 => f_X7_isPairRead_55_B22 q5.1 (59 + k) (nI p0) q5.2)) (prd2 (nI (5 * k)) s) := by
  obtain ⟨σ2, τ2, a2, m1, m2, m3⟩ := num2 (lo := 1) (hi := 30) (x1 := 1) (x2 := 30) rfl rfl (by omega) (by omega) tc h6 tm h3 hw ha
  unfold prd2
  rcases m3 with ⟨v, x1, x2, x3, x4, x5⟩ | ⟨r, x3, x4, x5⟩
  · rw [x3, x4]
    simp only [Option.bind_some, cr_let]
    rw [cp2, if_neg (nl_0 (by omega)), n5k n_1, chk_i (by omega) (by omega)]
    have tm2 : tpM (sA τ2 6 (nI (5 * k + 1)) (nI v)) nt ch := tpM_sA (by omega) (tpM_aw x5 tm)
    obtain ⟨σ3, τ3, a3, g1, g2, g3⟩ := must2 (c := 47) (x := 47) rfl (by omega) (by omega) (tpC_at m2 tc) m2.2.2.2 tm2 x5.2.2.1 x5.2.2.2 m1
    have A : ∀ j, j ≠ 13 → j ≠ 14 → j ≠ 17 → (sA τ2 6 (nI (5 * k + 1)) (nI v)).1 0 j = s.1 0 j := fun j q1 q2 q3 => x5.2.1 j q1 q2
    have B : ∀ o, o ≠ 6 → (sA τ2 6 (nI (5 * k + 1)) (nI v)).2.1 o = s.2.1 o := fun o q => by rw [sA_o q, x5.1]
    have D : (sA τ2 6 (nI (5 * k + 1)) (nI v)).2.2 = s.2.2 := by show τ2.2.2 = s.2.2; rw [x5.1]
    have E : ∀ i, i < 5 * k → (sA τ2 6 (nI (5 * k + 1)) (nI v)).2.1 6 i = s.2.1 6 i := fun i hi => by rw [sA_k (by omega) (by omega), x5.1]
    have h17' : (sA τ2 6 (nI (5 * k + 1)) (nI v)).1 0 17 = nI k := (x5.2.1 17 (by omega) (by omega)).trans h17
    rcases g3 with ⟨y1, y2, y3⟩ | ⟨y1, y2, y3⟩
    · rw [y1, y2]
      simp only [Option.bind_some]
      rw [if_neg (show ¬ (1 : Int32) = 0 by decide)]
      refine PJ_at (J3 (σ := σ3) (s := τ3) (a := a3) (ch := ch) hk (tpC_at g2 (tpC_at m2 tc)) g2.2.2.2 (tpM_aw y3 tm2) y3.2.2.1 y3.2.2.2 ((y3.2.1 17 (by omega) (by omega)).trans h17') g1 i0 ⟨x1, x2⟩ ?_ ?_) (atC_tr m2 g2) (fun j q1 q2 q3 => (y3.2.1 j q1 q2).trans (A j q1 q2 q3)) (fun o q => by rw [y3.1]; exact B o q) (by rw [y3.1]; exact D) (fun i hi => by rw [y3.1]; exact E i hi)
      · rw [y3.1, sA_k (by omega) (by omega), x5.1]; exact r0
      · rw [y3.1, sA_s (by omega)]
    · rw [y1, y2]
      simp only [Option.bind_some]
      rw [if_pos trivial]
      obtain ⟨τ', u1, u2⟩ := w3 (τ := τ3) hk y3.2.2.2
      exact PJ_at (PJ_no g1 h17' g2 y3 rfl u1 u2) m2 A B D E
  · rw [x3, x4]
    simp only [Option.bind_some, cr_let]
    rw [cp2, if_pos (show (-1 : Int32) < 0 by decide), n5k n_1, chk_i (by omega) (by omega), wMust (show (sA τ2 6 (nI (5 * k + 1)) r).1 0 14 = 1 from x5.2.2.2)]
    obtain ⟨τ', u1, u2⟩ := w3 (τ := sA τ2 6 (nI (5 * k + 1)) r) hk x5.2.2.2
    exact PJ_no m1 h17 m2 x5 rfl u1 (rw6_sA u2)
theorem pair2 {σ τ : cr_S} {nt a k : Nat} {ch : Nat → Nat} (hk : k < 6) (tc : tpC σ nt ch) (h6 : σ.1 55 6 = nI a) (tm : tpM τ nt ch) (h3 : τ.1 0 13 = nI a) (hw : τ.1 0 14 = 0) (h17 : τ.1 0 17 = nI k) (ha : a ≤ nt) : PJ σ τ k nt (f_X7_isPairRead_55 σ (59 + k)) (f_X11_readPair τ) := by
  obtain ⟨σ2, τ2, a2, m1, m2, m3⟩ := kind2p tc h6 tm h3 hw ha
  rw [prd1]
  unfold f_X7_isPairRead_55
  simp only [cr_let]
  rw [show rF τ 0 17 = _ from h17, n_5, pk_mul]
  rcases m3 with ⟨v, x1, x3, x4, x5⟩ | ⟨x3, x4, x5⟩
  · rw [x3, x4]
    simp only [Option.bind_some]
    rw [if_pos (ge_0 (by omega)), chk_i (by omega) (by omega)]
    exact PJ_at (J2 (σ := σ2) (s := sA τ2 6 (nI (5 * k)) (nI v)) (a := a2) (ch := ch) hk (tpC_at m2 tc) m2.2.2.2 (tpM_sA (by omega) (tpM_aw x5 tm)) x5.2.2.1 x5.2.2.2 ((x5.2.1 17 (by omega) (by omega)).trans h17) m1 x1 (sA_s (by omega))) m2 (fun j q1 q2 q3 => x5.2.1 j q1 q2) (fun o q => by rw [sA_o q, x5.1]) (by show τ2.2.2 = τ.2.2; rw [x5.1]) (fun i hi => by rw [sA_k (by omega) (by omega), x5.1])
  · rw [x3, x4]
    simp only [Option.bind_some]
    rw [if_neg (show ¬ (0 : Int32) ≤ -1 by decide), chk_i (by omega) (by omega), cp2, if_pos (show (-1 : Int32) < 0 by decide)]
    obtain ⟨τ', u1, u2⟩ := w2 (τ := sA τ2 6 (nI (5 * k)) (-4)) hk x5.2.2.2
    exact PJ_no m1 h17 m2 x5 rfl u1 (rw6_sA u2)

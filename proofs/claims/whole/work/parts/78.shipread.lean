/-! a ship is read -/
def SJ (σ τ : cr_S) (k nt : Nat) (x : Option (cr_S × Int32)) (y : Option cr_S) : Prop :=
  ∃ σ' τ' a', a' ≤ nt ∧ y = some τ' ∧ τ'.1 0 13 = nI a' ∧ τ'.1 0 18 = nI (k + 1) ∧ (∀ j, j ≠ 13 → j ≠ 14 → j ≠ 18 → τ'.1 0 j = τ.1 0 j) ∧ (∀ o, o ≠ 7 → τ'.2.1 o = τ.2.1 o) ∧ τ'.2.2 = τ.2.2 ∧ σ'.2 = σ.2 ∧ (∀ o, o ≠ 55 → o ≠ 65 + k → σ'.1 o = σ.1 o) ∧ (∀ j, j ≠ 6 → σ'.1 55 j = σ.1 55 j) ∧ σ'.1 55 6 = nI a' ∧
  ((x = some (σ', 0) ∧ τ'.1 0 14 = 1) ∨ (∃ P, okS P ∧ x = some (σ', 1) ∧ τ'.1 0 14 = 0 ∧ (∀ j, j < 3 → σ'.1 (65 + k) j = nI (P j) ∧ τ'.2.1 7 (3 * k + j) = nI (P j)) ∧ (∀ i, i < 3 * k → τ'.2.1 7 i = τ.2.1 7 i)))
theorem SJ_at {σ σ1 τ τ1 : cr_S} {k nt a : Nat} {x : Option (cr_S × Int32)} {y : Option cr_S} (h : SJ σ1 τ1 k nt x y) (c : atC σ σ1 a) (m1 : ∀ j, j ≠ 13 → j ≠ 14 → j ≠ 18 → τ1.1 0 j = τ.1 0 j) (m2 : ∀ o, o ≠ 7 → τ1.2.1 o = τ.2.1 o) (m3 : τ1.2.2 = τ.2.2) (m4 : ∀ i, i < 3 * k → τ1.2.1 7 i = τ.2.1 7 i) : SJ σ τ k nt x y := by
  obtain ⟨σ', τ', a', h1, h2, h3, h4, h5, h6, h7, h8, h9, h10, h11, h12⟩ := h
  refine ⟨σ', τ', a', h1, h2, h3, h4, fun j q1 q2 q3 => (h5 j q1 q2 q3).trans (m1 j q1 q2 q3), fun o q => (h6 o q).trans (m2 o q), h7.trans m3, h8.trans c.1, fun o q1 q2 => (h9 o q1 q2).trans (c.2.1 o q1), fun j q => (h10 j q).trans (c.2.2.1 j q), h11, ?_⟩
  rcases h12 with h | ⟨P, p1, p2, p3, p4, p5⟩
  · exact Or.inl h
  · exact Or.inr ⟨P, p1, p2, p3, p4, fun i hi => (p5 i hi).trans (m4 i hi)⟩
noncomputable def rs3 (v1 : Int32) (s : cr_S) : Option cr_S := Option.bind (f_X11_digit s 5) (fun q13 => chk (inb (v1 + 2) 15) (cr_let (sA q13.1 7 (v1 + 2) q13.2) (fun s16 => cr_let (sF s16 0 18 ((rF s16 0 18) + 1)) (fun s18 => some s18))))
noncomputable def rs2 (v1 : Int32) (s : cr_S) : Option cr_S := Option.bind (f_X11_digit s 9) (fun q8 => chk (inb (v1 + 1) 15) (cr_let (sA q8.1 7 (v1 + 1) q8.2) (fun s11 => rs3 v1 s11)))
theorem rs1 (σ : cr_S) : f_X11_readShip σ = cr_let (3 * (rF σ 0 18)) (fun v1 => Option.bind (f_X11_letter σ 80 84 66 76) (fun q3 => chk (inb v1 15) (cr_let (sA q3.1 7 v1 q3.2) (fun s6 => rs2 v1 s6)))) := rfl
def rw7 (τ τ' : cr_S) : Prop := (∀ j, j ≠ 18 → τ'.1 0 j = τ.1 0 j) ∧ τ'.1 0 18 = τ.1 0 18 + 1 ∧ (∀ o, o ≠ 7 → τ'.2.1 o = τ.2.1 o) ∧ τ'.2.2 = τ.2.2
theorem rw7_sA {τ τ' : cr_S} {i v : Int32} (h : rw7 (sA τ 7 i v) τ') : rw7 τ τ' := ⟨h.1, h.2.1, fun o q => (h.2.2.1 o q).trans (sA_o q), h.2.2.2⟩
theorem n3k {k : Nat} {j : Int32} {i : Nat} (e : j = nI i) : nI (3 * k) + j = nI (3 * k + i) := by rw [e, nI_add]
theorem rs_B6 {τ : cr_S} {k : Nat} {t0 : Int32} : rw7 τ (sF (sA τ 7 (nI (3 * k + 2)) t0) 0 18 (τ.1 0 18 + 1)) := ⟨fun j q => by rw [sF_k q]; rfl, sF_s, fun o q => by rw [sF_2, sA_o q], rfl⟩
theorem ws3 {τ : cr_S} {k : Nat} (hk : k < 5) (h : τ.1 0 14 = 1) : ∃ τ', rs3 (nI (3 * k)) τ = some τ' ∧ rw7 τ τ' := by
  unfold rs3
  rw [wDig h]
  simp only [Option.bind_some, cr_let]
  rw [n3k n_2, chk_i (by omega) (by omega)]
  exact ⟨_, rfl, rs_B6⟩
theorem ws2 {τ : cr_S} {k : Nat} (hk : k < 5) (h : τ.1 0 14 = 1) : ∃ τ', rs2 (nI (3 * k)) τ = some τ' ∧ rw7 τ τ' := by
  unfold rs2
  rw [wDig h]
  simp only [Option.bind_some, cr_let]
  rw [n3k n_1, chk_i (by omega) (by omega)]
  obtain ⟨τ', u1, u2⟩ := ws3 (τ := sA τ 7 (nI (3 * k + 1)) 0) hk h
  exact ⟨τ', u1, rw7_sA u2⟩
theorem SJ_no {σ σ1 τ τ1 τ2 : cr_S} {k nt a : Nat} {x : Option (cr_S × Int32)} {y : Option cr_S} (ha : a ≤ nt) (h18 : τ.1 0 18 = nI k) (c : atC σ σ1 a) (m : awM τ τ1 a true) (hx : x = some (σ1, 0)) (hy : y = some τ2) (g : rw7 τ1 τ2) : SJ σ τ k nt x y := by
  refine ⟨σ1, τ2, a, ha, hy, by rw [g.1 13 (by omega)]; exact m.2.2.1, ?_, fun j q1 q2 q3 => by rw [g.1 j q3, m.2.1 j q1 q2], fun o q => by rw [g.2.2.1 o q, m.1], by rw [g.2.2.2, m.1], c.1, fun o q _ => c.2.1 o q, c.2.2.1, c.2.2.2, Or.inl ⟨hx, ?_⟩⟩
  · rw [g.2.1, m.2.1 18 (by omega) (by omega), h18, nI_1]
  · rw [g.1 14 (by omega)]
    exact m.2.2.2
theorem C_sB {σ : cr_S} {k p0 p1 p2 : Nat} (hk : k < 5) (h2 : p2 < 1000) : ∃ σ', f_X7_isShipRead_55_B35 σ (65 + k) (nI p0) (nI p1) (nI p2) = some (σ', 1) ∧ σ'.2 = σ.2 ∧ (∀ o, o ≠ 65 + k → σ'.1 o = σ.1 o) ∧ σ'.1 (65 + k) 0 = nI p0 ∧ σ'.1 (65 + k) 1 = nI p1 ∧ σ'.1 (65 + k) 2 = nI p2 := by
  have kc := kC_s3 k hk
  have q4 : (0 : Int32) ≤ nI p2 := ge_0 (by omega)
  generalize 65 + k = o at kc
  refine ⟨sF (sF (sF σ o 0 (nI p0)) o 1 (nI p1)) o 2 (nI p2), ?_, rfl, fun o ho => by simp (disch := omega) only [sF_o], ?_, ?_, ?_⟩
  · unfold f_X7_isShipRead_55_B35 f_X6_become
    rw [if_pos q4]
    simp only [chk_t kc, cr_let, Option.bind_some]
  all_goals simp (disch := omega) only [sF_k, sF_s]
def P3 (a b c : Nat) : Nat → Nat
  | 0 => a
  | 1 => b
  | _ => c
theorem K3 {σ s : cr_S} {nt a k p0 p1 : Nat} {ch : Nat → Nat} (hk : k < 5) (tc : tpC σ nt ch) (h6 : σ.1 55 6 = nI a) (tm : tpM s nt ch) (h3 : s.1 0 13 = nI a) (hw : s.1 0 14 = 0) (h18 : s.1 0 18 = nI k) (ha : a ≤ nt) (i0 : p0 ≤ 3) (i1 : 1 ≤ p1 ∧ p1 ≤ 9) (r0 : s.2.1 7 (3 * k + 0) = nI p0) (r1 : s.2.1 7 (3 * k + 1) = nI p1) : SJ σ s k nt (f_X7_isShipRead_55_B21 σ (65 + k) (nI p0) (nI p1)) (rs3 (nI (3 * k)) s) := by
  obtain ⟨σ2, τ2, a2, m1, m2, m3⟩ := dig2 (m := 5) (x := 5) rfl (by omega) tc h6 tm h3 hw ha
  unfold rs3 f_X7_isShipRead_55_B21
  rw [if_pos (ge_0 (by omega))]
  rcases m3 with ⟨v, x1, x2, x3, x4, x5⟩ | ⟨r, x3, x4, x5⟩
  · rw [x3, x4]
    simp only [Option.bind_some, cr_let]
    obtain ⟨σ', u1, u2, u3, c0, c1, c2⟩ := C_sB (σ := σ2) (p0 := p0) (p1 := p1) (p2 := v) hk (by omega)
    rw [u1, n3k n_2, chk_i (by omega) (by omega)]
    refine ⟨σ', _, a2, m1, rfl, by rw [sF_k (by omega)]; exact x5.2.2.1, ?_, fun j q1 q2 q3 => by rw [sF_k q3]; exact x5.2.1 j q1 q2, fun o q => by rw [sF_2, sA_o q, x5.1], by show τ2.2.2 = s.2.2; rw [x5.1], u2.trans m2.1, fun o q1 q2 => (u3 o q2).trans (m2.2.1 o q1), fun j q => by rw [u3 55 (by omega)]; exact m2.2.2.1 j q, by rw [u3 55 (by omega)]; exact m2.2.2.2, Or.inr ⟨P3 p0 p1 v, ⟨i0, i1.1, i1.2, x1, x2⟩, rfl, by rw [sF_k (by omega)]; exact x5.2.2.2, fun j hj => ?_, fun i hi => by rw [sF_2, sA_k (by omega) (by omega), x5.1]⟩⟩
    · rw [sF_s, show rF (sA τ2 7 (nI (3 * k + 2)) (nI v)) 0 18 = nI k from (x5.2.1 18 (by omega) (by omega)).trans h18, nI_1]
    rcases (show j = 0 ∨ j = 1 ∨ j = 2 by omega) with rfl | rfl | rfl
    · exact ⟨c0, by rw [sF_2, sA_k (by omega) (by omega), x5.1]; exact r0⟩
    · exact ⟨c1, by rw [sF_2, sA_k (by omega) (by omega), x5.1]; exact r1⟩
    · exact ⟨c2, by rw [sF_2, sA_s (by omega)]; rfl⟩
  · rw [x3, x4]
    simp only [Option.bind_some, cr_let]
    rw [n3k n_2, chk_i (by omega) (by omega)]
    refine SJ_no m1 h18 m2 x5 ?_ rfl rs_B6
    unfold f_X7_isShipRead_55_B35
    rw [if_neg (by decide)]
theorem C_sN {σ : cr_S} {o : Nat} {x : Int32} : f_X7_isShipRead_55_B21 σ o x (-1) = some (σ, 0) := by
  unfold f_X7_isShipRead_55_B21 f_X7_isShipRead_55_B35
  rw [if_neg (by decide), if_neg (by decide)]
theorem K2 {σ s : cr_S} {nt a k p0 : Nat} {ch : Nat → Nat} (hk : k < 5) (tc : tpC σ nt ch) (h6 : σ.1 55 6 = nI a) (tm : tpM s nt ch) (h3 : s.1 0 13 = nI a) (hw : s.1 0 14 = 0) (h18 : s.1 0 18 = nI k) (ha : a ≤ nt) (i0 : p0 ≤ 3) (r0 : s.2.1 7 (3 * k + 0) = nI p0) : SJ σ s k nt (Option.bind (f_X7_digitRead_55 σ 9) (fun q5 => f_X7_isShipRead_55_B21 q5.1 (65 + k) (nI p0) q5.2)) (rs2 (nI (3 * k)) s) := by
  obtain ⟨σ2, τ2, a2, m1, m2, m3⟩ := dig2 (m := 9) (x := 9) rfl (by omega) tc h6 tm h3 hw ha
  unfold rs2
  rcases m3 with ⟨v, x1, x2, x3, x4, x5⟩ | ⟨r, x3, x4, x5⟩
  · rw [x3, x4]
    simp only [Option.bind_some, cr_let]
    rw [n3k n_1, chk_i (by omega) (by omega)]
    refine SJ_at (K3 (σ := σ2) (s := sA τ2 7 (nI (3 * k + 1)) (nI v)) (a := a2) (ch := ch) hk (tpC_at m2 tc) m2.2.2.2 (tpM_sA (by omega) (tpM_aw x5 tm)) x5.2.2.1 x5.2.2.2 ((x5.2.1 18 (by omega) (by omega)).trans h18) m1 i0 ⟨x1, x2⟩ ?_ (sA_s (by omega))) m2 (fun j q1 q2 q3 => x5.2.1 j q1 q2) (fun o q => by rw [sA_o q, x5.1]) (by show τ2.2.2 = s.2.2; rw [x5.1]) (fun i hi => by rw [sA_k (by omega) (by omega), x5.1])
    rw [sA_k (by omega) (by omega), x5.1]; exact r0
  · rw [x3, x4]
    simp only [Option.bind_some, cr_let]
    rw [n3k n_1, chk_i (by omega) (by omega), C_sN]
    obtain ⟨τ', u1, u2⟩ := ws3 (τ := sA τ2 7 (nI (3 * k + 1)) r) hk x5.2.2.2
    exact SJ_no m1 h18 m2 x5 rfl u1 (rw7_sA u2)
theorem ship2 {σ τ : cr_S} {nt a k : Nat} {ch : Nat → Nat} (hk : k < 5) (tc : tpC σ nt ch) (h6 : σ.1 55 6 = nI a) (tm : tpM τ nt ch) (h3 : τ.1 0 13 = nI a) (hw : τ.1 0 14 = 0) (h18 : τ.1 0 18 = nI k) (ha : a ≤ nt) : SJ σ τ k nt (f_X7_isShipRead_55 σ (65 + k)) (f_X11_readShip τ) := by
  obtain ⟨σ2, τ2, a2, m1, m2, m3⟩ := kind2s tc h6 tm h3 hw ha
  rw [rs1]
  unfold f_X7_isShipRead_55
  simp only [cr_let]
  rw [show rF τ 0 18 = _ from h18, n_3, pk_mul]
  rcases m3 with ⟨v, x1, x3, x4, x5⟩ | ⟨x3, x4, x5⟩
  · rw [x3, x4]
    simp only [Option.bind_some]
    rw [if_pos (ge_0 (by omega)), chk_i (by omega) (by omega)]
    exact SJ_at (K2 (σ := σ2) (s := sA τ2 7 (nI (3 * k)) (nI v)) (a := a2) (ch := ch) hk (tpC_at m2 tc) m2.2.2.2 (tpM_sA (by omega) (tpM_aw x5 tm)) x5.2.2.1 x5.2.2.2 ((x5.2.1 18 (by omega) (by omega)).trans h18) m1 x1 (sA_s (by omega))) m2 (fun j q1 q2 q3 => x5.2.1 j q1 q2) (fun o q => by rw [sA_o q, x5.1]) (by show τ2.2.2 = τ.2.2; rw [x5.1]) (fun i hi => by rw [sA_k (by omega) (by omega), x5.1])
  · rw [x3, x4]
    simp only [Option.bind_some]
    rw [if_neg (show ¬ (0 : Int32) ≤ -1 by decide), chk_i (by omega) (by omega), C_sN]
    obtain ⟨τ', u1, u2⟩ := ws2 (τ := sA τ2 7 (nI (3 * k)) (-4)) hk x5.2.2.2
    exact SJ_no m1 h18 m2 x5 rfl u1 (rw7_sA u2)

/-! a full one; the steps full, rudder, lots -/
theorem C_fill71 {v : Int32} : ∀ (n f i : Nat) (σ : cr_S), i + n = 6 → n < f → ∃ σ', f_J7_fill_53178_71_L5 f σ v (nI i) (nI 6) = some σ' ∧ σ'.1 = σ.1 ∧ σ'.2.2 = σ.2.2 ∧ (∀ o, o ≠ 71 → σ'.2.1 o = σ.2.1 o) ∧ (∀ j, j < i → σ'.2.1 71 j = σ.2.1 71 j) ∧ ∀ j, i ≤ j → j < 6 → σ'.2.1 71 j = v
  | 0, f + 1, i, σ, hi, hf => by
    refine ⟨σ, ?_, rfl, rfl, fun _ _ => rfl, fun _ _ => rfl, fun j q1 q2 => absurd q1 (by omega)⟩
    rw [f_J7_fill_53178_71_L5]
    simp (disch := omega) only [le_n, if_pos]
  | n + 1, f + 1, i, σ, hi, hf => by
    obtain ⟨σ2, u1, u2, u3, u4, u5, u6⟩ := C_fill71 (v := v) n f (i + 1) (sA σ 71 (nI i) v) (by omega) (by omega)
    refine ⟨σ2, ?_, u2, u3, fun o ho => (u4 o ho).trans (sA_o ho), fun j hj => by rw [u5 j (by omega), sA_k (by omega) (by omega)], fun j q1 q2 => ?_⟩
    · rw [f_J7_fill_53178_71_L5]
      simp (disch := omega) only [le_n, if_neg, chk_i, cr_let, n_1, nI_add]
      exact u1
    · by_cases e : j = i
      · subst e
        rw [u5 j (by omega), sA_s (by omega)]
      · exact u6 j (by omega) q2
def fullR (Ps : Nat → Nat → Nat) (S : Nat → Nat) (np t : Nat) : Int32 × Int32 × Nat := goR Ps S (fun _ => hiN S) np t
theorem C_goFull {σ : cr_S} {k np t : Nat} {Ps : Nat → Nat → Nat} {S : Nat → Nat} (hC : cStr σ np Ps) (hS : cS σ (15 + k) S) (hk : k < 5) (ht : t < 80000) :
    ∃ σ', f_X10_goFull σ (nI k) (nI t) = some σ' ∧ cSame σ σ' ∧ σ'.1 70 3 = (fullR Ps S np t).1 ∧ σ'.1 70 4 = (fullR Ps S np t).2.1 ∧ σ'.1 70 5 = nI (fullR Ps S np t).2.2 := by
  have hh := hi_in hS.2.2
  have hnp := hC.2.1
  obtain ⟨σ1, u1, u2, u3, u4, -, u6⟩ := C_fill71 (v := nI (hiN S)) 6 cr_fuel 0 σ (by omega) (by rw [cr_fuel_v]; omega)
  obtain ⟨σ2, p1, p2, p3, p4⟩ := C_go (σ := σ1) (q := 15 + k) (t := t) (Ps := Ps) (S := S) (np := np) (pc := fun _ => hiN S) ⟨by rw [u2]; exact hC.1, hnp, fun j hj => cP_of (hC.2.2 j hj) (fun i _ => by rw [u2])⟩ (cS_of hS (fun i _ => by rw [u2])) (by omega) (fun _ _ => hh) (fun j hj => u6 j (by omega) (by omega)) ht
  refine ⟨σ2, ?_, ⟨fun o j ho => by rw [p3 o j (by omega), u2], fun o j ho => by rw [p2, u4 o (by omega)], by rw [p2, u3]⟩, p4⟩
  simp (disch := omega) only [f_X10_goFull, chk_i, nI_clamp, C_high hS, Option.bind_some, chk_t hS.1, f_J7_fill_53178_71, n_0, n_6, u1, p1]
theorem M_fillL {s np : Nat} {Ps : Nat → Nat → Nat} {S : Nat → Nat} {x2 : Int32} : ∀ (n f i : Nat) (τ : cr_S), i + n = np → n < f → mStr τ np Ps → mS τ s S → ∃ τ', f_X11_goesFull_L2 f τ (nI s) x2 (nI i) = f_X11_goesFull_B27 τ' (nI s) x2 ∧ τ'.1 = τ.1 ∧ τ'.2.2 = τ.2.2 ∧ (∀ o, o ≠ 4 → τ'.2.1 o = τ.2.1 o) ∧ (∀ j, j < i → τ'.2.1 4 j = τ.2.1 4 j) ∧ ∀ j, i ≤ j → j < np → τ'.2.1 4 j = nI (hiN S)
  | 0, f + 1, i, τ, hi, hf, hM, hS => by
    have hnp := hM.2.1
    refine ⟨τ, ?_, rfl, rfl, fun _ _ => rfl, fun _ _ => rfl, fun j q1 q2 => absurd q1 (by omega)⟩
    rw [f_X11_goesFull_L2]
    simp (disch := omega) only [rF, hM.1, le_n, if_pos]
  | n + 1, f + 1, i, τ, hi, hf, hM, hS => by
    have hnp := hM.2.1
    obtain ⟨τ2, u1, u2, u3, u4, u5, u6⟩ := M_fillL (s := s) (np := np) (Ps := Ps) (S := S) (x2 := x2) n f (i + 1) (sA τ 4 (nI i) (nI (hiN S))) (by omega) (by omega) ⟨hM.1, hnp, fun k hk => mP_of (hM.2.2 k hk) (sA_o (by omega))⟩ (mS_of hS (sA_o (by omega)))
    refine ⟨τ2, ?_, u2, u3, fun o ho => (u4 o ho).trans (sA_o ho), fun j hj => by rw [u5 j (by omega), sA_k (by omega) (by omega)], fun j q1 q2 => ?_⟩
    · rw [f_X11_goesFull_L2]
      simp (disch := omega) only [rF, hM.1, le_n, if_neg, M_high hS, Option.bind_some, chk_i, cr_let, n_1, nI_add]
      exact u1
    · by_cases e : j = i
      · subst e
        rw [u5 j (by omega), sA_s (by omega)]
      · exact u6 j (by omega) q2
theorem M_goesFull {τ : cr_S} {s np t : Nat} {Ps : Nat → Nat → Nat} {S : Nat → Nat} (hM : mStr τ np Ps) (hS : mS τ s S) (ht : t < 80000) :
    ∃ τ', f_X11_goesFull τ (nI s) (nI t) = some τ' ∧ mSame τ τ' ∧ τ'.1 0 8 = (fullR Ps S np t).1 ∧ τ'.1 0 9 = (fullR Ps S np t).2.1 ∧ τ'.1 0 7 = nI (fullR Ps S np t).2.2 := by
  have hh := hi_in hS.2.2
  have hnp := hM.2.1
  obtain ⟨τ1, u1, u2, u3, u4, -, u6⟩ := M_fillL (s := s) (np := np) (Ps := Ps) (S := S) (x2 := nI t) np cr_fuel 0 τ (by omega) (by rw [cr_fuel_v]; omega) hM hS
  obtain ⟨τ2, p1, p2, p3, p4⟩ := M_goes (τ := τ1) (s := s) (t := t) (Ps := Ps) (S := S) (np := np) (pc := fun _ => hiN S) ⟨by rw [u2]; exact hM.1, hnp, fun j hj => mP_of (hM.2.2 j hj) (u4 1 (by omega))⟩ (mS_of hS (u4 2 (by omega))) (fun _ _ => hh) (fun j hj => u6 j (by omega) hj) ht
  refine ⟨τ2, ?_, ⟨fun j hj => by unfold mKeep at hj; rw [p3 j (by omega) (by omega) (by omega) (by omega), u2], fun o o4 _ _ _ => by rw [p2, u4 o o4], by rw [p2, u3]⟩, p4⟩
  simp (disch := omega) only [f_X11_goesFull, n_0, u1, f_X11_goesFull_B27, p1, Option.bind_some]
theorem rMain_same {σ σ' τ τ' : cr_S} {np ns nu nl : Nat} {Ps Ss : Nat → Nat → Nat} (h : rMain σ τ np ns nu nl Ps Ss) (c : cSame σ σ') (m : mSame τ τ') : rMain σ' τ' np ns nu nl Ps Ss := by
  refine rMain_now h (fun o _ h2 => funext fun j => c.1 o j (Or.inl h2)) (fun o h2 => funext fun j => c.2.1 o j (Or.inl h2)) m.1 (fun o h3 h4 h9 h6 h7 => m.2.1 o h4 h6 h7 h9) ?_
  rw [show σ'.1 4 = σ.1 4 from funext fun j => c.1 4 j (by omega), m.2.1 3 (by omega) (by omega) (by omega) (by omega)]
  exact h.2.2.2.2.2.2.2.1
theorem S_full {σ τ : cr_S} {a b c : Int32} (h : Inv σ τ) : Step σ τ (f_X10_full σ a b c) (f_X11_full τ a b c) := by
  have h0 := h
  obtain ⟨⟨np, ns, nu, nl, Ps, Ss, hm⟩, -⟩ := h
  have h1 := hm.2.1
  have hns := h1.2.2
  unfold f_X10_full f_X11_full
  simp only [C_isBegin, h1.1, M_isShip, h1.2.1, Option.bind_some, M_isSecond, C_within, L_0, L_2, M_in]
  cases q1 : inR a 0 (nI ns - 1)
  · exact ⟨σ, τ, -1, by simp [bI], by simp [bI], h0⟩
  cases q2 : inR b 0 9999
  · exact ⟨σ, τ, -1, by simp [bI], by simp [bI], h0⟩
  cases q3 : inR c 0 2
  · exact ⟨σ, τ, -1, by simp [bI], by simp [bI], h0⟩
  obtain ⟨k, hk, rfl⟩ := inR_n (by omega) q1
  obtain ⟨t, ht, rfl⟩ := inR_m (n := 9999) (by omega) q2
  obtain ⟨σ1, p1, p2, p3, p4, p5⟩ := C_goFull (t := t) (rM_c hm) (rM_cS hm hk) (by omega) (by omega)
  obtain ⟨τ1, r1, r2, r3, r4, r5⟩ := M_goesFull (t := t) (rM_m hm) (rM_mS hm hk) (by omega)
  have hI := Inv_same h0 p2 r2
  simp only [p1, r1, Option.bind_some, f_X0_judgement_70, rF, p3, p4, p5, r3, r4, r5]
  by_cases c0 : c = 0
  · exact ⟨σ1, τ1, (fullR Ps (Ss k) np t).1, by simp [bI, c0], by simp [bI, c0], hI⟩
  by_cases c1 : c = 1
  · exact ⟨σ1, τ1, (fullR Ps (Ss k) np t).2.1, by simp [bI, c1], by simp [bI, c1], hI⟩
  exact ⟨σ1, τ1, nI (fullR Ps (Ss k) np t).2.2, by simp [bI, c0, c1], by simp [bI, c0, c1], hI⟩
theorem S_rudL {k np ns nu nl t0 m : Nat} {Ps Ss : Nat → Nat → Nat} (hk : k < ns) (ht0 : t0 + m < 12000) : ∀ (n f t : Nat) (x : Int32) (σ τ : cr_S), t + n = t0 + m + 1 → n < f → Inv σ τ → rMain σ τ np ns nu nl Ps Ss → Step σ τ (f_X10_rudder_L28 f σ (nI k) (nI t0) (nI m) x (nI t)) (f_X11_rudder_L35 f τ (nI k) (nI t0) (nI m) x (nI t))
  | 0, f + 1, t, x, σ, τ, ht, hf, h0, hm => by
    rw [f_X10_rudder_L28, f_X11_rudder_L35]
    simp (disch := omega) only [nI_add, lt_n, if_pos]
    exact ⟨σ, τ, x, rfl, rfl, h0⟩
  | n + 1, f + 1, t, x, σ, τ, ht, hf, h0, hm => by
    have hns := hm.2.1.2.2
    obtain ⟨σ1, p1, p2, p3, p4, p5⟩ := C_goFull (t := t) (rM_c hm) (rM_cS hm hk) (by omega) (by omega)
    obtain ⟨τ1, r1, r2, r3, r4, r5⟩ := M_goesFull (t := t) (rM_m hm) (rM_mS hm hk) (by omega)
    have ih := S_rudL hk ht0 n f (t + 1) (x ||| (if (fullR Ps (Ss k) np t).1 = -4 then (fullR Ps (Ss k) np t).2.1 else 0)) σ1 τ1 (by omega) (by omega) (Inv_same h0 p2 r2) (rMain_same hm p2 r2)
    rw [f_X10_rudder_L28, f_X11_rudder_L35]
    simp (disch := omega) only [nI_add, lt_n, if_neg, p1, r1, Option.bind_some, f_X10_rudder_B68, f_X11_rudder_B69, cr_let, rF, p3, p4, r3, r4, n_1]
    obtain ⟨σ', τ', r, i1, i2, i3⟩ := ih
    exact ⟨σ', τ', r, i1, i2, i3⟩
theorem S_rudder {σ τ : cr_S} {a b c : Int32} (h : Inv σ τ) : Step σ τ (f_X10_rudder σ a b c) (f_X11_rudder τ a b c) := by
  have h0 := h
  obtain ⟨⟨np, ns, nu, nl, Ps, Ss, hm⟩, -⟩ := h
  have h1 := hm.2.1
  have hns := h1.2.2
  unfold f_X10_rudder f_X11_rudder
  simp only [C_isBegin, h1.1, M_isShip, h1.2.1, Option.bind_some, M_isSecond, C_within, L_0, L_999, M_in]
  cases q1 : inR a 0 (nI ns - 1)
  · exact ⟨σ, τ, -1, by simp [bI], by simp [bI], h0⟩
  cases q2 : inR b 0 9999
  · exact ⟨σ, τ, -1, by simp [bI], by simp [bI], h0⟩
  cases q3 : inR c 0 999
  · exact ⟨σ, τ, -1, by simp [bI], by simp [bI], h0⟩
  obtain ⟨k, hk, rfl⟩ := inR_n (by omega) q1
  obtain ⟨t, ht, rfl⟩ := inR_m (n := 9999) (by omega) q2
  obtain ⟨m, hmm, rfl⟩ := inR_m (n := 999) (by omega) q3
  obtain ⟨σ', τ', r, i1, i2, i3⟩ := S_rudL (t0 := t) (m := m) hk (by omega) (m + 1) cr_fuel t 0 σ τ (by omega) (by rw [cr_fuel_v]; omega) h0 hm
  exact ⟨σ', τ', r, by simpa [bI] using i1, by simpa [bI] using i2, i3⟩
theorem rMain_draw {σ τ : cr_S} {np ns nu nl : Nat} {Ps Ss : Nat → Nat → Nat} {v : Int32} (hm : rMain σ τ np ns nu nl Ps Ss) : rMain (sF σ 1 8 v) (sF τ 0 5 v) np ns nu nl Ps Ss := by
  obtain ⟨⟨a1, a2, a3⟩, ⟨b1, b2, b3⟩, c1, ⟨d1, d2, d3⟩, ⟨f1, f2, f3⟩, g, i, v, u, kk⟩ := hm
  refine ⟨⟨?_, ?_, a3⟩, ⟨?_, ?_, b3⟩, ?_, ⟨?_, ?_, d3⟩, ⟨?_, ?_, f3⟩, fun k hk => ?_, fun k hk => ?_, ?_, fun k hk => ?_, fun k hk => ?_⟩ <;> simp (disch := omega) only [sF_o, sF_k, sF_s, sF_2] <;> first | assumption | exact g k hk | exact i k hk | exact u k hk | exact kk k hk
theorem Inv_draw {σ τ : cr_S} {v : Int32} (h : Inv σ τ) : Inv (sF σ 1 8 v) (sF τ 0 5 v) := by
  have h0 := h
  obtain ⟨⟨np, ns, nu, nl, Ps, Ss, hm⟩, -⟩ := h
  exact Inv_main h0 (rMain_draw hm) (fun o h1 h2 => sF_o (by omega)) (fun o _ _ => rfl) rfl (sF_k (by omega)) (sF_k (by omega)) rfl rfl rfl rfl rfl
theorem drawn_n (d : Int32) : ∃ m : Nat, m < 60 ∧ ((((d * 1103515245) + 12345) &&& 2147483647) / 65536) - ((((d * 1103515245) + 12345) &&& 2147483647) / 65536) / 60 * 60 = nI m := by
  rw [pk_and (d * 1103515245 + 12345) (m := 2147483647) 31 (by decide)]
  have h : (d * 1103515245 + 12345).toBitVec.toNat % 2 ^ 31 < 2147483648 := Nat.mod_lt _ (by omega)
  generalize (d * 1103515245 + 12345).toBitVec.toNat % 2 ^ 31 = q at h
  refine ⟨q / 65536 % 60, Nat.mod_lt _ (by omega), ?_⟩
  rw [show (65536 : Int32) = nI 65536 from rfl, div_n h (by omega) (by omega), n_60, rem_n (by omega) (by omega) (by omega)]
theorem S_lotsL {k np ns nu nl m : Nat} {Ps Ss : Nat → Nat → Nat} (hk : k < ns) (hmm : m < 1000) : ∀ (n f i : Nat) (x y z : Int32) (σ τ : cr_S), i + n = m → n < f → z = x + 100 * y → Inv σ τ → rMain σ τ np ns nu nl Ps Ss → Step σ τ (f_X10_lots_L28 f σ (nI k) (nI m) x y (nI i)) (f_X11_lots_L27 f τ (nI k) (nI m) z (nI i))
  | 0, f + 1, i, x, y, z, σ, τ, hi, hf, hz, h0, hm => by
    rw [f_X10_lots_L28, f_X11_lots_L27]
    simp (disch := omega) only [le_n, if_pos]
    exact ⟨σ, τ, z, by rw [hz], rfl, h0⟩
  | n + 1, f + 1, i, x, y, z, σ, τ, hi, hf, hz, h0, hm => by
    have hns := hm.2.1.2.2
    have c1 : σ.1 1 8 = τ.1 0 5 := hm.2.2.1
    obtain ⟨t, ht, e⟩ := drawn_n (τ.1 0 5)
    have hm1 := rMain_draw (v := ((τ.1 0 5 * 1103515245) + 12345) &&& 2147483647) hm
    have hI1 := Inv_draw (v := ((τ.1 0 5 * 1103515245) + 12345) &&& 2147483647) h0
    obtain ⟨σ1, p1, p2, p3, p4, p5⟩ := C_goFull (t := t) (rM_c hm1) (rM_cS hm1 hk) (by omega) (by omega)
    obtain ⟨τ1, r1, r2, r3, r4, r5⟩ := M_goesFull (t := t) (rM_m hm1) (rM_mS hm1 hk) (by omega)
    rw [f_X10_lots_L28, f_X11_lots_L27]
    simp (disch := omega) only [le_n, if_neg, f_X9_drawn_1, cr_let, rF, c1, sF_s, Option.bind_some, e, p1, r1, f_X0_isClean_70, p3, p4, r3, r4, n_1, nI_add, f_X10_lots_B65, f_X10_lots_B86, f_X11_lots_B93]
    rw [← n_1]
    have go : ∀ x' y' z' : Int32, z' = x' + 100 * y' → Step σ τ (f_X10_lots_L28 f σ1 (nI k) (nI m) x' y' (nI (i + 1))) (f_X11_lots_L27 f τ1 (nI k) (nI m) z' (nI (i + 1))) := fun x' y' z' e' => by
      obtain ⟨σ', τ', r, i1, i2, i3⟩ := S_lotsL hk hmm n f (i + 1) x' y' z' σ1 τ1 (by omega) (by omega) e' (Inv_same hI1 p2 r2) (rMain_same hm1 p2 r2)
      exact ⟨σ', τ', r, i1, i2, i3⟩
    by_cases z1 : (fullR Ps (Ss k) np t).1 = -4
    · by_cases z2 : (fullR Ps (Ss k) np t).2.1 = 0
      · simp only [z1, z2, if_true, Option.bind_some, p3, p4]
        simpa [z1, z2, p3] using go (x + 1) (y + 0) (z + 1) (by rw [hz, Int32.add_zero, Int32.add_assoc, Int32.add_comm (100 * y) 1, ← Int32.add_assoc])
      · simp only [z1, z2, if_true, Option.bind_some, p3, p4]
        simpa [z1, z2, p3] using go (x + 0) (y + 0) (z + 0) (by rw [hz]; simp)
    · simp only [z1, Option.bind_some, p3, p4]
      simpa [z1, p3] using go (x + 0) (y + 1) (z + 100) (by rw [hz]; simp [Int32.mul_add, Int32.add_assoc])
theorem S_lots {σ τ : cr_S} {a b : Int32} (h : Inv σ τ) : Step σ τ (f_X10_lots σ a b) (f_X11_lots τ a b) := by
  have h0 := h
  obtain ⟨⟨np, ns, nu, nl, Ps, Ss, hm⟩, -⟩ := h
  have h1 := hm.2.1
  have hns := h1.2.2
  unfold f_X10_lots f_X11_lots
  simp only [C_isShip, h1.1, M_isShip, h1.2.1, Option.bind_some, C_within, L_1, L_99, M_in]
  cases q1 : inR a 0 (nI ns - 1)
  · exact ⟨σ, τ, -1, by simp [bI], by simp [bI], h0⟩
  cases q2 : inR b 1 99
  · exact ⟨σ, τ, -1, by simp [bI], by simp [bI], h0⟩
  obtain ⟨k, hk, rfl⟩ := inR_n (by omega) q1
  obtain ⟨m, m1, m2, rfl⟩ := inR_l (l := 1) (n := 99) (by omega) (by omega) q2
  obtain ⟨σ', τ', r, i1, i2, i3⟩ := S_lotsL (m := m) hk (by omega) m cr_fuel 0 0 0 0 σ τ (by omega) (by rw [cr_fuel_v]; omega) (by decide) h0 hm
  rw [← n_0] at i1 i2
  exact ⟨σ', τ', r, by simpa [bI] using i1, by simpa [bI] using i2, i3⟩

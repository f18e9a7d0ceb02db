/-! the steps judged, copy -/
theorem rSh_it {σ τ : cr_S} {k ln : Nat} (hs : rSh σ τ) (hk : k < 4) (hl : τ.2.1 13 k = nI ln) (h3 : ln ≤ 3) : ∀ i, i < 16 → σ.2.2 (90 + 2 * k) i = τ.2.2 15 (16 * k + i) := by
  rcases hs k hk with ⟨w1, w2⟩ | ⟨a1, a2, w1, w2, w3, w4, w5, w6, w7, w8⟩
  · rw [w2] at hl
    exact absurd hl.symm (m1_ne ln (by omega))
  · exact w8
def vIn (v : Int64) (lo hi : Nat) : Bool := decide (¬ v < (nI lo).toInt64 ∧ ¬ (nI hi).toInt64 < v)
theorem vIn_n {v : Int64} {lo hi : Nat} (h : vIn v lo hi = true) (h1 : 1 ≤ lo) (h2 : hi ≤ 5) (h3 : lo ≤ hi) : ∃ pc, 1 ≤ pc ∧ pc ≤ 5 ∧ Int64.toInt32 v = nI pc := by
  have h' := of_decide_eq_true h
  rw [Int64.lt_iff_toInt_lt, Int64.lt_iff_toInt_lt, Int32.toInt_toInt64, Int32.toInt_toInt64, nI_toInt (by omega), nI_toInt (by omega)] at h'
  refine ⟨v.toInt.toNat, by omega, by omega, Int32.toInt_inj.mp ?_⟩
  rw [Int64.toInt_toInt32, nI_toInt (by omega), Int.bmod_eq_of_le (by omega) (by omega)]
  omega
theorem C_jud1 {f np k i j s : Nat} {x2 x6 : Int32} {σ : cr_S} {Ps : Nat → Nat → Nat} {S : Nat → Nat} (hk : k < 4) (hi : i + np ≤ 16) (hC : cStr σ np Ps) (hS : cS σ (15 + s) S) (hj : j < np) : f_X10_judged_L79 (f + 1) σ x2 (nI i) x6 (89 + 2 * k) (15 + s) (nI j) = if vIn (σ.2.2 (90 + 2 * k) (i + j)) (loN S) (hiN S) then f_X10_judged_L79 f (sA σ 71 (nI j) (Int64.toInt32 (σ.2.2 (90 + 2 * k) (i + j)))) x2 (nI i) x6 (89 + 2 * k) (15 + s) (nI (j + 1)) else some (σ, -2) := by
  have hnp := hC.2.1
  have q : ¬ nI np ≤ nI j := by rw [le_n (by omega) (by omega)]; omega
  have e90 : 89 + 2 * k + 1 = 90 + 2 * k := by omega
  rw [f_X10_judged_L79]
  simp only [rF, hC.1]
  rw [if_neg q, chk_t (kC_r k hk), chk_t (kC_i k hk), nI_add, chk_i (by omega) (by omega), rL_n (by omega), e90]
  simp only [cr_let]
  rw [C_low hS]
  simp only [Option.bind_some]
  rw [chk_t hS.1]
  unfold vIn
  by_cases a : σ.2.2 (90 + 2 * k) (i + j) < (nI (loN S)).toInt64
  · rw [if_pos ((cmp_lt _ _).mpr a), if_neg (by simp [a])]
  · rw [if_neg (fun w => a ((cmp_lt _ _).mp w)), C_high hS]
    simp only [Option.bind_some]
    rw [chk_t hS.1]
    by_cases b : (nI (hiN S)).toInt64 < σ.2.2 (90 + 2 * k) (i + j)
    · rw [if_neg (fun w => absurd ((cmp_gt _ _).mpr b) (Int32.not_lt.mpr w)), if_neg (by simp [b])]
    · rw [if_pos (Int32.not_lt.mp (fun w => b ((cmp_gt _ _).mp w))), if_pos (by simp [a, b]), chk_i (by omega) (by omega), nI_1]
theorem M_jud1 {f np k i j s : Nat} {x2 x6 : Int32} {τ : cr_S} {Ps : Nat → Nat → Nat} {S : Nat → Nat} (hk : k < 4) (hi : i + np ≤ 16) (hM : mStr τ np Ps) (hS : mS τ s S) (hj : j < np) : f_X11_judged_L71 (f + 1) τ (nI s) x2 (nI k) (nI i) x6 (nI j) = if vIn (τ.2.2 15 (16 * k + (i + j))) (loN S) (hiN S) then f_X11_judged_L71 f (sA τ 4 (nI j) (Int64.toInt32 (τ.2.2 15 (16 * k + (i + j))))) (nI s) x2 (nI k) (nI i) x6 (nI (j + 1)) else some (τ, -2) := by
  have hnp := hM.2.1
  have q : ¬ nI np ≤ nI j := by rw [le_n (by omega) (by omega)]; omega
  rw [f_X11_judged_L71]
  simp only [rF, hM.1]
  rw [if_neg q, n_16, pk_mul, nI_add, nI_add, Nat.add_assoc, chk_i (by omega) (by omega), rL_n (by omega)]
  simp only [cr_let]
  rw [M_low hS]
  simp only [Option.bind_some]
  rw [M_high hS]
  simp only [Option.bind_some, f_X11_in, cmp_lt, cmp_gt]
  unfold vIn
  by_cases a : τ.2.2 15 (16 * k + (i + j)) < (nI (loN S)).toInt64
  · simp [a]
  · by_cases b : (nI (hiN S)).toInt64 < τ.2.2 15 (16 * k + (i + j))
    · simp [a, b]
    · simp only [a, b, if_false, Option.bind_some]
      rw [chk_i (by omega) (by omega), nI_1]
      simp
theorem S_judL {k i s np ns nu nl t : Nat} {Ps Ss : Nat → Nat → Nat} {x6 : Int32} (hk : k < 4) (hi : i + np ≤ 16) (hs : s < ns) (ht : t ≤ 9999) : ∀ (n f j : Nat) (σ τ : cr_S) (pcs : Nat → Nat), j + n = np → n < f → Inv σ τ → rMain σ τ np ns nu nl Ps Ss → (∀ q, q < 16 → σ.2.2 (90 + 2 * k) q = τ.2.2 15 (16 * k + q)) → (∀ q, q < j → σ.2.1 71 q = nI (pcs q) ∧ τ.2.1 4 q = nI (pcs q) ∧ 1 ≤ pcs q ∧ pcs q ≤ 5) → Step σ τ (f_X10_judged_L79 f σ (nI t) (nI i) x6 (89 + 2 * k) (15 + s) (nI j)) (f_X11_judged_L71 f τ (nI s) (nI t) (nI k) (nI i) x6 (nI j))
  | 0, f + 1, j, σ, τ, pcs, hj, hf, h, hm, he, hp => by
    have hnp := hm.1.2.2
    have hns := hm.2.1.2.2
    have e : j = np := by omega
    subst e
    obtain ⟨σ1, p1, p2, p3, p4, p5, p6⟩ := C_go (q := 15 + s) (t := t) (pc := pcs) (rM_c hm) (rM_cS hm hs) (by omega) (fun q hq => (hp q hq).2.2) (fun q hq => (hp q hq).1) (by omega)
    obtain ⟨τ1, r1, r2, r3, r4, r5, r6⟩ := M_goes (t := t) (pc := pcs) (rM_m hm) (rM_mS hm hs) (fun q hq => (hp q hq).2.2) (fun q hq => (hp q hq).2.1) (by omega)
    have hI : Inv σ1 τ1 := Inv_same h ⟨fun o q ho => p3 o q (by omega), fun o q _ => by rw [p2], by rw [p2]⟩ ⟨fun q hq => r3 q (by unfold mKeep at hq; omega) (by unfold mKeep at hq; omega) (by unfold mKeep at hq; omega) (by unfold mKeep at hq; omega), fun o _ _ _ _ => by rw [r2], by rw [r2]⟩
    rw [f_X10_judged_L79, f_X11_judged_L71]
    simp (disch := omega) only [rF, hm.1.1, hm.1.2.1, le_n, if_pos, f_X10_judged_B150, f_X11_judged_B136, p1, r1, Option.bind_some, f_X0_judgement_70, p4, p5, p6, r4, r5, r6]
    by_cases c0 : x6 = 0
    · exact ⟨σ1, τ1, (goR Ps (Ss s) pcs j t).1, by simp [c0], by simp [c0], hI⟩
    by_cases c1 : x6 = 1
    · exact ⟨σ1, τ1, (goR Ps (Ss s) pcs j t).2.1, by simp [c1], by simp [c1], hI⟩
    exact ⟨σ1, τ1, nI (goR Ps (Ss s) pcs j t).2.2, by simp [c0, c1], by simp [c0, c1], hI⟩
  | n + 1, f + 1, j, σ, τ, pcs, hj, hf, h, hm, he, hp => by
    have hnp := hm.1.2.2
    have hns := hm.2.1.2.2
    have hS := rM_cS hm hs
    have lo := lo_in hS.2.2
    have hii := hi_in hS.2.2
    have q1 : j < np := by omega
    have q2 : j + 1 + n = np := by omega
    have q3 : n < f := by omega
    rw [C_jud1 hk hi (rM_c hm) hS q1, M_jud1 hk hi (rM_m hm) (rM_mS hm hs) q1, he (i + j) (by omega)]
    cases y : vIn (τ.2.2 15 (16 * k + (i + j))) (loN (Ss s)) (hiN (Ss s))
    · exact ⟨σ, τ, -2, by simp, by simp, h⟩
    · obtain ⟨pc, c1, c2, c3⟩ := vIn_n y lo.1 hii.2 lo.2
      rw [c3]
      have cs : cSame σ (sA σ 71 (nI j) (nI pc)) := ⟨fun _ _ _ => rfl, fun o q ho => by rw [sA_o (by omega)], rfl⟩
      have ms : mSame τ (sA τ 4 (nI j) (nI pc)) := ⟨fun _ _ => rfl, fun o q4 _ _ _ => by rw [sA_o q4], rfl⟩
      have hp' : ∀ q, q < j + 1 → (sA σ 71 (nI j) (nI pc)).2.1 71 q = nI ((fun q => if q = j then pc else pcs q) q) ∧ (sA τ 4 (nI j) (nI pc)).2.1 4 q = nI ((fun q => if q = j then pc else pcs q) q) ∧ 1 ≤ (fun q => if q = j then pc else pcs q) q ∧ (fun q => if q = j then pc else pcs q) q ≤ 5 := fun q hq => by
        by_cases e : q = j
        · subst e
          simp only [if_true]
          exact ⟨sA_s (by omega), sA_s (by omega), c1, c2⟩
        · simp only [if_neg e]
          rw [sA_k (by omega) e, sA_k (by omega) e]
          exact hp q (by omega)
      obtain ⟨σ', τ', r, i1, i2, i3⟩ := S_judL (x6 := x6) hk hi hs ht n f (j + 1) _ _ _ q2 q3 (Inv_same h cs ms) (rMain_same hm cs ms) he hp'
      exact ⟨σ', τ', r, by simpa using i1, by simpa using i2, i3⟩
theorem S_judged {σ τ : cr_S} {a b c d e g : Int32} (h : Inv σ τ) : Step σ τ (f_X10_judged σ a b c d e g) (f_X11_judged τ a b c d e g) := by
  have h0 := h
  obtain ⟨⟨np, ns, nu, nl, Ps, Ss, hm⟩, -⟩ := h
  have hnp := hm.1.2.2
  have h1 := hm.2.1
  have hns := h1.2.2
  unfold f_X10_judged f_X11_judged
  simp only [C_isBegin, h1.1, M_isShip, h1.2.1, M_isSecond, C_within, L_0, L_2, M_in, C_isRow, M_isSheet, M_isLane, Option.bind_some, rF, hm.1.1, hm.1.2.1]
  cases q1 : inR a 0 (nI ns - 1)
  · exact ⟨σ, τ, -1, by simp [bI], by simp [bI], h0⟩
  cases q2 : inR b 0 9999
  · exact ⟨σ, τ, -1, by simp [bI], by simp [bI], h0⟩
  cases q3 : inR c 0 3
  · exact ⟨σ, τ, -1, by simp [bI], by simp [bI], h0⟩
  cases q4 : inR d 0 3
  · exact ⟨σ, τ, -1, by simp [bI], by simp [bI], h0⟩
  cases q5 : inR g 0 2
  · exact ⟨σ, τ, -1, by simp [bI], by simp [bI], h0⟩
  obtain ⟨s, hs, rfl⟩ := inR_n (by omega) q1
  obtain ⟨t, ht, rfl⟩ := inR_m (n := 9999) (by omega) q2
  obtain ⟨k, hk, rfl⟩ := inR_m (n := 3) (by omega) q3
  have hk : k < 4 := by omega
  rcases S_why (lane := d) (i := e) (n := np) h0.2.2.2 hk (by omega) with ⟨w, w1, w2, w3, w4⟩ | ⟨i, ln, m, w1, w2, rfl, w3, w4, rfl, w5, w6⟩
  · refine ⟨σ, τ, w, ?_, ?_, h0⟩
    · simp (disch := omega) only [bI_t, Bool.and_self, chk_i, nI_clamp, w1, Option.bind_some, chk_t (kC_r k hk), cr_let, if_neg w3]
      simp
    · simp only [bI_t, w2, Option.bind_some, cr_let, if_neg w4]
      simp
  · obtain ⟨σ', τ', r, i1, i2, i3⟩ := S_judL (x6 := g) (t := t) hk (show i + np ≤ 16 by omega) hs ht np cr_fuel 0 σ τ (fun _ => 1) (by omega) (by rw [cr_fuel_v]; omega) h0 hm (rSh_it h0.2.2.2 hk w6 w5) (fun q hq => absurd hq (by omega))
    rw [← n_0] at i1 i2
    refine ⟨σ', τ', r, ?_, ?_, i3⟩
    · simp (disch := omega) only [bI_t, Bool.and_self, chk_i, nI_clamp, w1, Option.bind_some, chk_t (kC_r k hk), cr_let]
      simpa using i1
    · simp (disch := omega) only [bI_t, w2, Option.bind_some, cr_let]
      simpa using i2
theorem M_cp1 {k i k' i' m : Nat} (hk : k < 4) (hi : i + m ≤ 16) : ∀ (n f j : Nat) (τ : cr_S), j + n = m → n < f → ∃ τ', f_X11_copy_L101 f τ (nI k) (nI i) (nI k') (nI i') (nI m) (nI j) = f_X11_copy_B135 τ' (nI k') (nI i') (nI m) ∧ τ'.1 = τ.1 ∧ τ'.2.1 = τ.2.1 ∧ (∀ o, o ≠ 16 → τ'.2.2 o = τ.2.2 o) ∧ (∀ q, q < j → τ'.2.2 16 q = τ.2.2 16 q) ∧ ∀ q, j ≤ q → q < m → τ'.2.2 16 q = τ.2.2 15 (16 * k + (i + q))
  | 0, f + 1, j, τ, hj, hf => by
    refine ⟨τ, ?_, rfl, rfl, fun _ _ => rfl, fun _ _ => rfl, fun q h1 h2 => absurd h1 (by omega)⟩
    rw [f_X11_copy_L101]
    simp (disch := omega) only [le_n, if_pos]
  | n + 1, f + 1, j, τ, hj, hf => by
    obtain ⟨τ1, u1, u2, u3, u4, u5, u6⟩ := M_cp1 (k' := k') (i' := i') hk hi n f (j + 1) (sL τ 16 (nI j) (τ.2.2 15 (16 * k + (i + j)))) (by omega) (by omega)
    have q1 : ¬ nI m ≤ nI j := by rw [le_n (by omega) (by omega)]; omega
    refine ⟨τ1, ?_, u2, u3, fun o ho => by rw [u4 o ho, sL_o ho], fun q hq => by rw [u5 q (by omega), sL_22 (by omega), if_neg (by omega)], fun q h1 h2 => ?_⟩
    · rw [f_X11_copy_L101, if_neg q1, n_16, pk_mul, nI_add, nI_add, Nat.add_assoc, chk_i (by omega) (by omega), chk_i (by omega) (by omega), rL_n (by omega), nI_1]
      exact u1
    · by_cases e : q = j
      · subst e
        rw [u5 q (by omega), sL_22 (by omega), if_pos ⟨rfl, rfl⟩]
      · rw [u6 q (by omega) h2, sL_o (by omega)]
theorem M_cp2 {k' i' m : Nat} (hk : k' < 4) (hi : i' + m ≤ 16) : ∀ (n f j : Nat) (τ : cr_S), j + n = m → n < f → ∃ τ', f_X11_copy_L138 f τ (nI k') (nI i') (nI m) (nI j) = some (τ', nI m) ∧ τ'.1 = τ.1 ∧ τ'.2.1 = τ.2.1 ∧ ∀ q, τ'.2.2 15 q = if 16 * k' + i' + j ≤ q ∧ q < 16 * k' + i' + m then τ.2.2 16 (q - (16 * k' + i')) else τ.2.2 15 q
  | 0, f + 1, j, τ, hj, hf => by
    refine ⟨τ, ?_, rfl, rfl, fun q => by rw [if_neg (by omega)]⟩
    rw [f_X11_copy_L138]
    simp (disch := omega) only [le_n, if_pos]
  | n + 1, f + 1, j, τ, hj, hf => by
    obtain ⟨τ1, u1, u2, u3, u4⟩ := M_cp2 hk hi n f (j + 1) (sL τ 15 (nI (16 * k' + i' + j)) (τ.2.2 16 j)) (by omega) (by omega)
    have q1 : ¬ nI m ≤ nI j := by rw [le_n (by omega) (by omega)]; omega
    refine ⟨τ1, ?_, u2, u3, fun q => ?_⟩
    · rw [f_X11_copy_L138, if_neg q1, n_16, pk_mul, nI_add, nI_add, chk_i (by omega) (by omega), chk_i (by omega) (by omega), rL_n (by omega), nI_1]
      exact u1
    · rw [u4 q, sL_o (by omega), sL_22 (by omega)]
      by_cases e : q = 16 * k' + i' + j
      · rw [if_neg (by omega), if_pos ⟨rfl, e⟩, if_pos (by omega), e, show 16 * k' + i' + j - (16 * k' + i') = j by omega]
      · by_cases y : 16 * k' + i' + (j + 1) ≤ q ∧ q < 16 * k' + i' + m
        · rw [if_pos y, if_pos (by omega)]
        · rw [if_neg y, if_neg (by omega), if_neg (by omega)]
theorem nl_0 {n : Nat} (h : n < 1000000) : ¬ nI n < 0 := Int32.not_lt.mpr (ge_0 h)
theorem S_copy {σ τ : cr_S} {a b c d e : Int32} (h : Inv σ τ) : Step σ τ (f_X10_copy σ a b c d e) (f_X11_copy τ a b c d e) := by
  have h0 := h
  have hs := h.2.2.2
  unfold f_X10_copy f_X11_copy
  simp only [C_within, M_isSheet, Option.bind_some]
  cases q1 : inR a 0 3
  · exact ⟨σ, τ, -1, by simp [bI], by simp [bI], h0⟩
  cases q2 : inR c 0 3
  · exact ⟨σ, τ, -1, by simp [bI], by simp [bI], h0⟩
  obtain ⟨k, hk, rfl⟩ := inR_m (n := 3) (by omega) q1
  obtain ⟨k', hk', rfl⟩ := inR_m (n := 3) (by omega) q2
  have hk : k < 4 := by omega
  have hk' : k' < 4 := by omega
  simp (disch := omega) only [bI_t, chk_i, nI_clamp, chk_t (kC_r k hk), chk_t (kC_r k' hk'), chk_t (kC_i k hk), chk_t (kC_i k' hk'), rF, rA_n]
  have n10 : ¬ (1 : Int32) = 0 := by decide
  rw [if_neg n10, if_neg n10, if_neg n10, if_neg n10]
  rcases hs k hk with ⟨w1, w2⟩ | ⟨ln, m, w1, w2, w3, w4, w5, w6, w7, w8⟩
  · rw [w1, w2]
    exact ⟨σ, τ, -11, by simp, by simp, h0⟩
  rw [w3, w5, if_neg n10, if_neg (nl_0 (by omega))]
  rcases hs k' hk' with ⟨v1, v2⟩ | ⟨ln', m', v1, v2, v3, v4, v5, v6, v7, v8⟩
  · rw [v1, v2]
    exact ⟨σ, τ, -11, by simp, by simp, h0⟩
  rw [v3, v5, if_neg n10, if_pos (ge_0 (by omega)), w4, v4]
  by_cases el : nI ln = nI ln'
  · rw [if_pos el, if_pos el, C_has hk w6 w2]
    simp only [Option.bind_some, bI_0]
    by_cases z : 0 ≤ e
    · have z' : ¬ e < 0 := Int32.not_lt.mpr z
      have gl := ge_0 (n := ln) (by omega)
      have gl' := ge_0 (n := ln') (by omega)
      rw [if_neg z']
      have wy1 : f_X11_why τ (nI k) (nI ln) b e = some (τ, if 0 ≤ b ∧ 0 ≤ e ∧ b.toInt + e.toInt ≤ m then 0 else -13) := by
        unfold f_X11_why
        simp (disch := omega) only [chk_i, rA_n, w5, gl, if_true, w7, has_m w2]
        by_cases y : b < 0
        · have : ¬ 0 ≤ b := Int32.not_le.mpr y
          simp [y, this]
        · have : 0 ≤ b := Int32.not_lt.mp y
          simp [y, this, z]
      have wy2 : f_X11_why τ (nI k') (nI ln') d e = some (τ, if 0 ≤ d ∧ 0 ≤ e ∧ d.toInt + e.toInt ≤ m' then 0 else -13) := by
        unfold f_X11_why
        simp (disch := omega) only [chk_i, rA_n, v5, gl', if_true, v7, has_m v2]
        by_cases y : d < 0
        · have : ¬ 0 ≤ d := Int32.not_le.mpr y
          simp [y, this]
        · have : 0 ≤ d := Int32.not_lt.mp y
          simp [y, this, z]
      rw [wy1]
      simp only [Option.bind_some, v5, wy2]
      by_cases y1 : 0 ≤ b ∧ 0 ≤ e ∧ b.toInt + e.toInt ≤ m
      · by_cases y2 : 0 ≤ d ∧ 0 ≤ e ∧ d.toInt + e.toInt ≤ m'
        · obtain ⟨i, hi, rfl⟩ := nI_of (x := b) (Int32.not_lt.mpr y1.1)
          obtain ⟨i', hi', rfl⟩ := nI_of (x := d) (Int32.not_lt.mpr y2.1)
          obtain ⟨n, hn, rfl⟩ := nI_of (x := e) z'
          have y3 := y1.2.2
          have y4 := y2.2.2
          rw [nI_toInt (by omega), nI_toInt (by omega)] at y3 y4
          obtain ⟨τ1, t1, t2, t3, t4, -, t6⟩ := M_cp1 (k' := k') (i' := i') hk (show i + n ≤ 16 by omega) n cr_fuel 0 τ (by omega) (by rw [cr_fuel_v]; omega)
          obtain ⟨τ2, s1, s2, s3, s4⟩ := M_cp2 hk' (show i' + n ≤ 16 by omega) n cr_fuel 0 τ1 (by omega) (by rw [cr_fuel_v]; omega)
          rw [← n_0] at t1 s1
          have ok : cpOk (nI i) (nI i') (nI n) 16 16 = true := by
            unfold cpOk
            rw [nI_clamp (by omega), nI_clamp (by omega), nI_clamp (by omega)]
            exact decide_eq_true ⟨⟨nl_0 (by omega), nl_0 (by omega), nl_0 (by omega)⟩, by omega, by omega⟩
          refine ⟨sC σ (89 + 2 * k + 1) (89 + 2 * k' + 1) (nI i) (nI i') (nI n), τ2, nI n, ?_, ?_, Inv_sh h0 (fun _ _ _ => rfl) rfl (by rw [s2, t2]) (fun o _ _ => by rw [s3, t3]) ?_⟩
          · rw [decide_eq_true y1, if_neg (by simp), C_has hk' v6 v2]
            simp only [Option.bind_some, bI_0]
            rw [decide_eq_true y2, if_neg (by simp), chk_t ok]
            rfl
          · rw [if_pos y1, if_neg (by decide), if_pos y2, if_pos (by decide), t1]
            unfold f_X11_copy_B135
            exact s1
          · intro r hr
            rw [s3, t3]
            have := hs r hr
            rcases this with x | ⟨ar, mr, x1, x2, x3, x4, x5, x6, x7, x8⟩
            · exact Or.inl x
            · refine Or.inr ⟨ar, mr, x1, x2, x3, x4, x5, x6, x7, fun j hj => ?_⟩
              rw [s4, t4 15 (by omega)]
              unfold sC
              show va_up σ.2.2 (89 + 2 * k' + 1) (va_cpy (σ.2.2 (89 + 2 * k + 1)) (σ.2.2 (89 + 2 * k' + 1)) (nI i).toNatClampNeg (nI i').toNatClampNeg (nI n).toNatClampNeg) (90 + 2 * r) j = _
              rw [nI_clamp (by omega), nI_clamp (by omega), nI_clamp (by omega)]
              have e1 : 89 + 2 * k + 1 = 90 + 2 * k := by omega
              have e2 : 89 + 2 * k' + 1 = 90 + 2 * k' := by omega
              rw [e1, e2]
              by_cases er : r = k'
              · subst er
                rw [va_up_self]
                unfold va_cpy
                by_cases ej : i' ≤ j ∧ j < i' + n
                · rw [if_pos ej, if_pos (by omega), t6 _ (by omega) (by omega), w8 _ (by omega), show 16 * r + j - (16 * r + i') = j - i' by omega]
                · rw [if_neg ej, if_neg (by omega)]
                  exact v8 j hj
              · rw [va_up_ne _ _ (by omega), if_neg (by omega)]
                exact x8 j hj
        · refine ⟨σ, τ, -13, ?_, ?_, h0⟩
          · rw [decide_eq_true y1, if_neg (by simp), C_has hk' v6 v2]
            simp only [Option.bind_some, bI_0]
            rw [decide_eq_false y2, if_pos rfl]
          · rw [if_pos y1, if_neg (by decide), if_neg y2, if_neg (by decide)]
      · refine ⟨σ, τ, -13, ?_, ?_, h0⟩
        · rw [decide_eq_false y1, if_pos rfl]
        · rw [if_neg y1, if_pos (by decide)]
    · have y1 : ¬ (0 ≤ b ∧ 0 ≤ e ∧ b.toInt + e.toInt ≤ m) := fun w => z w.2.1
      refine ⟨σ, τ, -13, ?_, ?_, h0⟩
      · rw [decide_eq_false y1, if_pos rfl]
      · rw [if_pos (Int32.not_le.mp z)]
  · rw [if_neg el, if_neg el]
    exact ⟨σ, τ, -12, rfl, rfl, h0⟩

/-! the step convoy -/
def bcI (a0 : Int32) : Int32 :=
  let v1 := a0 - ((((Int32.toUInt32 a0) >>> ((Int32.toUInt32 1) &&& Int32.toUInt32 31)).toInt32) &&& 1431655765)
  let v3 := (v1 &&& 858993459) + ((((Int32.toUInt32 v1) >>> ((Int32.toUInt32 2) &&& Int32.toUInt32 31)).toInt32) &&& 858993459)
  let v5 := (v3 + (((Int32.toUInt32 v3) >>> ((Int32.toUInt32 4) &&& Int32.toUInt32 31)).toInt32)) &&& 252645135
  let v7 := v5 + (((Int32.toUInt32 v5) >>> ((Int32.toUInt32 8) &&& Int32.toUInt32 31)).toInt32)
  let v9 := v7 + (((Int32.toUInt32 v7) >>> ((Int32.toUInt32 16) &&& Int32.toUInt32 31)).toInt32)
  v9 &&& 63
theorem C_bc {σ : cr_S} {a : Int32} : f_J6_bitCount_0f7a4 σ a = some (σ, bcI a) := by
  unfold f_J6_bitCount_0f7a4 bcI
  simp only [cr_let]
def popN : Nat → Nat → Nat
  | 0, _ => 0
  | n + 1, m => if m = 0 then 0 else 1 + popN n (m &&& (m - 1))
theorem bc_pop : ∀ m, m < 32 → bcI (nI m) = nI (popN 31 m) := by decide +kernel
theorem pop_in : ∀ m, m < 32 → popN 31 m ≤ 5 := by decide +kernel
theorem low_off : ∀ m, m < 32 → ¬ m = 0 → nI m &&& (nI m - 1) = nI (m &&& (m - 1)) := by decide +kernel
theorem M_manyL {τ : cr_S} : ∀ (n f m x : Nat), m ≤ n → n < f → m < 32 → f_X11_many_L4 f τ (nI x) (nI m) = some (τ, nI (x + popN n m))
  | n, 0, m, x, _, h, _ => absurd h (by omega)
  | 0, f + 1, m, x, h, hf, hm => by
    have e : m = 0 := by omega
    subst e
    rw [f_X11_many_L4, ← n_0]
    simp [popN]
  | n + 1, f + 1, m, x, h, hf, hm => by
    rw [f_X11_many_L4]
    by_cases e : m = 0
    · subst e
      rw [← n_0]
      simp [popN]
    · have l : m &&& (m - 1) ≤ m - 1 := Nat.and_le_right
      have ih := M_manyL (τ := τ) n f (m &&& (m - 1)) (x + 1) (by omega) (by omega) (by omega)
      have e2 : popN (n + 1) m = 1 + popN n (m &&& (m - 1)) := by rw [popN, if_neg e]
      rw [if_neg (ne0_n (by omega) (by omega)), low_off m hm e, nI_1]
      simp only [cr_let]
      rw [ih, e2, Nat.add_assoc]
theorem M_many {τ : cr_S} {m : Nat} (h : m < 32) : f_X11_many τ (nI m) = some (τ, nI (popN 31 m)) := by
  unfold f_X11_many
  rw [n_0, M_manyL 31 cr_fuel m 0 (by omega) (by rw [cr_fuel_v]; omega) h, Nat.zero_add]
def cvN (w : Nat → Nat) (b : Nat → Bool) : Nat → Nat → Nat → Nat
  | 0, _, a => a
  | n + 1, k, a => cvN w b n (k + 1) (if b k then a + w k else a)
theorem cv_in {w : Nat → Nat} {b : Nat → Bool} {N : Nat} (hw : ∀ k, k < N → w k ≤ 11) : ∀ n k a, k + n ≤ N → cvN w b n k a ≤ a + 11 * n
  | 0, k, a, _ => by simp [cvN]
  | n + 1, k, a, h => by
    rw [cvN]
    have h1 := cv_in (b := b) hw n (k + 1) (if b k then a + w k else a) (by omega)
    have h2 := hw k (by omega)
    by_cases z : b k = true
    · rw [if_pos z] at h1 ⊢; omega
    · rw [if_neg z] at h1 ⊢; omega
def wtN (Ss : Nat → Nat → Nat) (k : Nat) : Nat := cu (spN (Ss k)) (hiN (Ss k))
def btB (m k : Nat) : Bool := decide (((nI m >>> (nI k &&& 31)) &&& 1) = 1)
theorem C_cvL {σ : cr_S} {ns m : Nat} {Ss : Nat → Nat → Nat} (h5 : σ.1 1 6 = nI ns) (hns : ns ≤ 5) (hS : ∀ k, k < ns → cS σ (15 + k) (Ss k)) : ∀ (n f k a : Nat), k + n = ns → n < f → a ≤ 11 * k → f_X10_convoyTime_L4 f σ (nI m) (nI a) (nI k) = some (σ, nI (cvN (wtN Ss) (btB m) n k a))
  | 0, f + 1, k, a, hk, hf, ha => by
    rw [f_X10_convoyTime_L4]
    simp (disch := omega) only [rF, h5, le_n, if_pos, cvN]
  | n + 1, f + 1, k, a, hk, hf, ha => by
    have s1 := hS k (by omega)
    have hh := hi_in s1.2.2
    have hs := sp_in s1.2.2
    have hc := cu_in (a := spN (Ss k)) (b := hiN (Ss k)) hs.1 hh.1
    rw [f_X10_convoyTime_L4, cvN]
    simp (disch := omega) only [rF, h5, le_n, if_neg]
    by_cases z : ((nI m >>> (nI k &&& 31)) &&& 1) = 1
    · have z' : btB m k = true := decide_eq_true z
      have ih := C_cvL (m := m) h5 hns hS n f (k + 1) (a + wtN Ss k) (by omega) (by omega) (by unfold wtN; omega)
      rw [if_pos z, if_pos z']
      simp (disch := omega) only [chk_i, nI_clamp, C_span s1, C_high s1, Option.bind_some, chk_t s1.1, C_secondsFor, cr_let, nI_add, f_X10_convoyTime_B54, nI_1]
      exact ih
    · have z' : ¬ btB m k = true := fun q => z (of_decide_eq_true q)
      have ih := C_cvL (m := m) h5 hns hS n f (k + 1) a (by omega) (by omega) (by omega)
      rw [if_neg z, if_neg z']
      simp only [f_X10_convoyTime_B54, cr_let, nI_1]
      exact ih
theorem M_cvL {r79 : cr_S → Int32 → Int32 → Int32 → Int32 → Option (cr_S × Int32)} {τ : cr_S} {ns m : Nat} {Ss : Nat → Nat → Nat} {x3 x4 x5 : Int32} (h5 : τ.1 0 1 = nI ns) (hns : ns ≤ 5) (hS : ∀ k, k < ns → mS τ k (Ss k)) : ∀ (n f k a : Nat), k + n = ns → n < f → a ≤ 11 * k → f_X11_convoy_L91 r79 f τ x3 x4 x5 (nI m) (nI a) (nI k) = f_X11_convoy_B141 r79 τ x3 x4 x5 (nI m) (nI (cvN (wtN Ss) (btB m) n k a))
  | 0, f + 1, k, a, hk, hf, ha => by
    rw [f_X11_convoy_L91]
    simp (disch := omega) only [rF, h5, le_n, if_pos, cvN]
  | n + 1, f + 1, k, a, hk, hf, ha => by
    have s1 := hS k (by omega)
    have hh := hi_in s1.2.2
    have hs := sp_in s1.2.2
    have hc := cu_in (a := spN (Ss k)) (b := hiN (Ss k)) hs.1 hh.1
    rw [f_X11_convoy_L91, cvN]
    simp (disch := omega) only [rF, h5, le_n, if_neg]
    by_cases z : ((nI m >>> (nI k &&& 31)) &&& 1) = 1
    · have z' : btB m k = true := decide_eq_true z
      have ih := M_cvL (r79 := r79) (m := m) (x3 := x3) (x4 := x4) (x5 := x5) h5 hns hS n f (k + 1) (a + wtN Ss k) (by omega) (by omega) (by unfold wtN; omega)
      rw [if_pos z, if_pos z']
      simp (disch := omega) only [M_span s1, M_high s1, Option.bind_some, M_upwards, cr_let, nI_add, f_X11_convoy_B132, nI_1]
      exact ih
    · have z' : ¬ btB m k = true := fun q => z (of_decide_eq_true q)
      have ih := M_cvL (r79 := r79) (m := m) (x3 := x3) (x4 := x4) (x5 := x5) h5 hns hS n f (k + 1) a (by omega) (by omega) (by omega)
      rw [if_neg z, if_neg z']
      simp only [f_X11_convoy_B132, cr_let, nI_1, Int32.add_zero]
      exact ih
theorem shut_iff (op : Nat → Bool) : ∀ n t s, s ≤ n → (t + s ≤ shutN op t n ↔ ∀ j, j < s → op (t + j) = true)
  | 0, t, s, h => by
    have e : s = 0 := by omega
    subst e
    simp [shutN]
  | n + 1, t, 0, h => by
    have := shut_in op (n + 1) t
    simp
    omega
  | n + 1, t, s + 1, h => by
    rw [shut_s]
    have ih := shut_iff op n (t + 1) s (by omega)
    by_cases o : op t = true
    · rw [if_pos o, show t + (s + 1) = t + 1 + s by omega, ih]
      constructor
      · intro q j hj
        cases j with
        | zero => exact o
        | succ i => rw [show t + (i + 1) = t + 1 + i by omega]; exact q i (by omega)
      · intro q j hj
        rw [show t + 1 + j = t + (j + 1) by omega]
        exact q (j + 1) (by omega)
    · rw [if_neg o]
      refine ⟨fun q => absurd q (by omega), fun q => absurd (q 0 (by omega)) o⟩
theorem M_wideL {τ : cr_S} {p t : Nat} {P : Nat → Nat} {x3 : Int32} (hP : mP τ p P) (ht : t ≤ 9999) : ∀ (n f i : Nat), i + n = 60 → n < f → f_X11_convoy_L38 f τ (nI p) (nI t) x3 (nI i) = f_X11_convoy_B73 τ x3 (nI (shutN (fun u => openN P u (P 4)) (t + i) n - t))
  | 0, f + 1, i, hi, hf => by
    rw [f_X11_convoy_L38]
    have e : shutN (fun u => openN P u (P 4)) (t + i) 0 - t = i := by simp [shutN]
    simp (disch := omega) only [n_60, le_n, if_pos, e]
  | n + 1, f + 1, i, hi, hf => by
    have hp := hP.1
    have v4 := hP.2.1 4 (by omega)
    have a1 := hP.2.2.2.2.2.2.2.2.2
    have a2 := hP.2.2.2.2.2.2.1
    have ih := M_wideL (x3 := x3) hP ht n f (i + 1) (by omega) (by omega)
    rw [f_X11_convoy_L38]
    simp (disch := omega) only [n_60, le_n, if_neg, n_5, n_4, pk_mul, nI_add, chk_i, rA_n, v4, M_isOpen hP, Option.bind_some, cr_let, nI_1]
    rw [ih, shut_s, ← Nat.add_assoc]
    cases openN P (t + i) (P 4)
    · simp [bI]
    · simp [bI]
theorem CM_cvL {σ τ : cr_S} {ns of w1 w2 : Nat} {Ss : Nat → Nat → Nat} (c5 : σ.1 1 6 = nI ns) (m5 : τ.1 0 1 = nI ns) (hns : ns ≤ 5) (hC : ∀ k, k < ns → cS σ (15 + k) (Ss k)) (hM : ∀ k, k < ns → mS τ k (Ss k)) (hof : of < 32) (h1 : w1 < 1000) (h2 : w2 < 1000) (hw : ∀ s, s ≤ 55 → (s ≤ w1 ↔ s ≤ w2)) : ∀ (n f m b : Nat), m + n = of + 1 → n < f → b < 32 → ∃ r, f_X10_convoy_L76 f σ (nI of) (nI w1) (nI b) (nI m) = some (σ, r) ∧ f_X11_convoy_L79 f τ (nI of) (nI w2) (nI b) (nI m) = some (τ, r)
  | 0, f + 1, m, b, hm, hf, hb => by
    refine ⟨nI b, ?_, ?_⟩
    · rw [f_X10_convoy_L76]
      simp (disch := omega) only [lt_n, if_pos]
    · rw [f_X11_convoy_L79]
      simp (disch := omega) only [lt_n, if_pos]
  | n + 1, f + 1, m, b, hm, hf, hb => by
    have hwt : ∀ k, k < ns → wtN Ss k ≤ 11 := fun k hk => by
      have s1 := hM k hk
      have hh := hi_in s1.2.2
      have hs := sp_in s1.2.2
      have hc := cu_in (a := spN (Ss k)) (b := hiN (Ss k)) hs.1 hh.1
      unfold wtN
      omega
    have hsum := cv_in (b := btB m) hwt ns 0 0 (by omega)
    have ct : f_X10_convoyTime σ (nI m) = some (σ, nI (cvN (wtN Ss) (btB m) ns 0 0)) := by
      unfold f_X10_convoyTime
      rw [n_0]
      exact C_cvL c5 hns hC ns cr_fuel 0 0 (by omega) (by rw [cr_fuel_v]; omega) (by omega)
    have mt := M_cvL (r79 := f_X11_convoy_L79 f) (m := m) (x3 := nI of) (x4 := nI w2) (x5 := nI b) m5 hns hM ns cr_fuel 0 0 (by omega) (by rw [cr_fuel_v]; omega) (by omega)
    rw [← n_0] at mt
    obtain ⟨r, i1, i2⟩ := CM_cvL c5 m5 hns hC hM hof h1 h2 hw n f (m + 1) b (by omega) (by omega) hb
    obtain ⟨r', j1, j2⟩ := CM_cvL c5 m5 hns hC hM hof h1 h2 hw n f (m + 1) m (by omega) (by omega) (by omega)
    have p1 := pop_in m (by omega)
    have p2 := pop_in b hb
    have hws := hw (cvN (wtN Ss) (btB m) ns 0 0) (by omega)
    rw [f_X10_convoy_L76, f_X11_convoy_L79, mt]
    simp (disch := omega) only [lt_n, if_neg, f_X10_convoy_B96, f_X10_convoy_B131, f_X11_convoy_B141, f_X11_convoy_B175, f_X11_convoy_B177, cr_let, nI_1, C_bc, bc_pop, M_many, Option.bind_some, le_n, ct, i1, i2, j1, j2]
    by_cases z : (nI m &&& (nI of ^^^ (-1))) = 0
    · simp only [z, if_true]
      by_cases y : popN 31 m ≤ popN 31 b
      · exact ⟨r, by simp [y], by simp [y]⟩
      · by_cases x : w1 < cvN (wtN Ss) (btB m) ns 0 0
        · have x' : w2 < cvN (wtN Ss) (btB m) ns 0 0 := by omega
          exact ⟨r, by simp [y, x], by simp [x']⟩
        · have x' : ¬ w2 < cvN (wtN Ss) (btB m) ns 0 0 := by omega
          exact ⟨r', by simp [y, x], by simp [y, x']⟩
    · exact ⟨r, by rw [if_neg z, if_pos rfl], by rw [if_neg z]⟩
theorem sh_2 : ∀ k, k < 6 → (1 : Int32) <<< (nI k &&& 31) = nI (2 ^ k) := by decide
theorem n_55 : (55 : Int32) = nI 55 := id rfl
theorem S_convoy {σ τ : cr_S} {a b c : Int32} (h : Inv σ τ) : Step σ τ (f_X10_convoy σ a b c) (f_X11_convoy τ a b c) := by
  have h0 := h
  obtain ⟨⟨np, ns, nu, nl, Ps, Ss, hm⟩, -⟩ := h
  have h1 := hm.2.1
  have hns := h1.2.2
  have hnp := hm.1.2.2
  unfold f_X10_convoy f_X11_convoy
  simp (disch := omega) only [C_isPair, hm.1.1, M_isPair, hm.1.2.1, Option.bind_some, M_isSecond, C_within, L_0, M_in, rF, h1.1, h1.2.1, sh_2]
  cases q1 : inR a 0 (nI np - 1)
  · exact ⟨σ, τ, -1, by simp [bI], by simp [bI], h0⟩
  cases q2 : inR b 0 9999
  · exact ⟨σ, τ, -1, by simp [bI], by simp [bI], h0⟩
  have pw : 2 ^ ns ≤ 2 ^ 5 := Nat.pow_le_pow_right (by omega) hns
  cases q3 : inR c 0 (nI (2 ^ ns) - 1)
  · exact ⟨σ, τ, -1, by simp [bI], by simp [bI], h0⟩
  obtain ⟨p, hp, rfl⟩ := inR_n (by omega) q1
  obtain ⟨t, ht, rfl⟩ := inR_m (n := 9999) (by omega) q2
  obtain ⟨of, hof, rfl⟩ := inR_n (by omega) q3
  have hP := (rM_c hm).2.2 p hp
  have hQ := (rM_m hm).2.2 p hp
  have v4 := hP.2.1 4 (by omega)
  have a1 := hP.2.2.2.2.2.2.2.2.2
  have a2 := hP.2.2.2.2.2.2.1
  have s1 := shut_in (fun u => openN (Ps p) u (Ps p 4)) 55 t
  have s2 := shut_in (fun u => openN (Ps p) u (Ps p 4)) 60 t
  obtain ⟨r, i1, i2⟩ := CM_cvL (of := of) (w1 := shutN (fun u => openN (Ps p) u (Ps p 4)) t 55 - t) (w2 := shutN (fun u => openN (Ps p) u (Ps p 4)) t 60 - t) h1.1 h1.2.1 hns (fun k hk => rM_cS hm hk) (fun k hk => rM_mS hm hk) (by omega) (by omega) (by omega) (fun s hs => by
    have e1 := shut_iff (fun u => openN (Ps p) u (Ps p 4)) 55 t s hs
    have e2 := shut_iff (fun u => openN (Ps p) u (Ps p 4)) 60 t s (by omega)
    constructor
    · intro q
      have := e2.mpr (e1.mp (by omega))
      omega
    · intro q
      have := e1.mpr (e2.mp (by omega))
      omega) of cr_fuel 1 0 (by omega) (by rw [cr_fuel_v]; omega) (by omega)
  refine ⟨σ, τ, r, ?_, ?_, h0⟩
  · simp (disch := omega) only [bI_t, chk_i, nI_clamp, chk_t hP.1, v4, n_55, nI_add, C_firstShut hP, Option.bind_some, cr_let, sub_n]
    rw [← n_0, ← n_1] at i1
    simpa using i1
  · have w := M_wideL (x3 := nI of) hQ ht 60 cr_fuel 0 (by omega) (by rw [cr_fuel_v]; omega)
    rw [← n_0, Nat.add_zero] at w
    rw [w]
    unfold f_X11_convoy_B73
    rw [← n_0, ← n_1] at i2
    simpa [bI] using i2

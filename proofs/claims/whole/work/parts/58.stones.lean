/-! the step stones -/
def fsN (g : Nat → Bool) : Nat → Nat → Option Nat
  | 0, _ => none
  | n + 1, k => if g k then some k else fsN g n (k + 1)
theorem fs_s (g : Nat → Bool) (n k : Nat) : fsN g (n + 1) k = if g k then some k else fsN g n (k + 1) := rfl
def fsI : Option Nat → Int32
  | none => -4
  | some j => nI j
theorem fs_in {g : Nat → Bool} : ∀ n k j, fsN g n k = some j → j < k + n
  | 0, k, j, h => by cases h
  | n + 1, k, j, h => by
    unfold fsN at h
    split at h
    · cases h; omega
    · have := fs_in n (k + 1) j h
      omega
theorem sb_ng {a b : Nat} (h : b ≤ a) : nI a + -nI b = nI (a - b) := by
  rw [← Int32.sub_eq_add_neg, sub_n h]
def gsN (Ps : Nat → Nat → Nat) (S : Nat → Nat) (t p : Nat) : Nat → Bool := fun k => thN Ps S t p ((Ps p 4 + Ps p 2 - k) % Ps p 2)
theorem C_fsL {σ : cr_S} {np t p : Nat} {Ps : Nat → Nat → Nat} {S : Nat → Nat} (hC : cStr σ np Ps) (hS : okS S) (hp : cPlan σ Ps S np t) (hpn : p < np) (ht : t < 80000) : ∀ (n f k : Nat), k + n = Ps p 2 → n < f → f_X0_fewestStones_70_1_L10 f σ (nI p) (9 + p) (nI k) = some (σ, fsI (fsN (gsN Ps S t p) n k))
  | 0, f + 1, k, hk, hf => by
    have hP := hC.2.2 p hpn
    have v2 := hP.2.1 2 (by omega)
    have a3 := hP.2.2.2.2.2.2.1
    rw [f_X0_fewestStones_70_1_L10]
    simp (disch := omega) only [chk_t hP.1, rF, v2, le_n, if_pos, fsN, fsI]
  | n + 1, f + 1, k, hk, hf => by
    have hP := hC.2.2 p hpn
    have v2 := hP.2.1 2 (by omega)
    have a3 := hP.2.2.2.2.2.2.1
    have ih := C_fsL hC hS hp hpn ht n f (k + 1) (by omega) (by omega)
    have e1 : nI (Ps p 4 + Ps p 2) + -nI k = nI (Ps p 4 + Ps p 2 - k) := sb_ng (by omega)
    have a4 := hP.2.2.2.2.2.2.2.2.2
    have l1 : (Ps p 4 + Ps p 2 - k) % Ps p 2 < Ps p 2 := Nat.mod_lt _ (by omega)
    rw [f_X0_fewestStones_70_1_L10]
    simp (disch := omega) only [chk_t hP.1, rF, v2, le_n, if_neg, C_phB hP e1, Option.bind_some, C_throughBy hC hS hp hpn, cr_let, nI_1, ih]
    rw [fs_s, show gsN Ps S t p k = thN Ps S t p ((Ps p 4 + Ps p 2 - k) % Ps p 2) from rfl]
    cases thN Ps S t p ((Ps p 4 + Ps p 2 - k) % Ps p 2) <;> simp [bI, fsI]
theorem C_few {σ : cr_S} {np t p : Nat} {Ps : Nat → Nat → Nat} {S : Nat → Nat} (hC : cStr σ np Ps) (hS : okS S) (hp : cPlan σ Ps S np t) (hpn : p < np) (ht : t < 80000) : f_X0_fewestStones_70_1 σ (nI p) = some (σ, fsI (fsN (gsN Ps S t p) (Ps p 2) 0)) := by
  have hnp := hC.2.1
  have hP := hC.2.2 p hpn
  have a3 := hP.2.2.2.2.2.2.1
  unfold f_X0_fewestStones_70_1
  rw [n_0, chk_i (by omega) (by omega), nI_clamp (by omega)]
  exact C_fsL hC hS hp hpn ht (Ps p 2) cr_fuel 0 (by omega) (by rw [cr_fuel_v]; omega)
theorem b12_r {τ : cr_S} : b12 τ τ := ⟨rfl, fun _ _ _ => rfl⟩
theorem b12_t {a b c : cr_S} (h : b12 a b) (g : b12 b c) : b12 a c := ⟨g.1.trans h.1, fun j q1 q2 => (g.2 j q1 q2).trans (h.2 j q1 q2)⟩
theorem b12_M {τ τ' : cr_S} {np : Nat} {Ps : Nat → Nat → Nat} (b : b12 τ τ') (h : mStr τ np Ps) : mStr τ' np Ps := ⟨by rw [b.2 0 (by omega) (by omega)]; exact h.1, h.2.1, fun j hj => mP_of (h.2.2 j hj) (by rw [b.1])⟩
theorem b12_S {τ τ' : cr_S} {s : Nat} {S : Nat → Nat} (b : b12 τ τ') (h : mS τ s S) : mS τ' s S := mS_of h (by rw [b.1])
theorem le_m1 {a b : Nat} (ha : a < 1000000) (hb : b < 1000000) : (nI a - 1 ≤ nI b - 1) ↔ a ≤ b := by
  rw [Int32.le_iff_toInt_le, n_1, pk_sub_toInt (by omega) (by omega), pk_sub_toInt (by omega) (by omega)]
  omega
theorem M_stL {r47 : cr_S → Int32 → Int32 → Int32 → Int32 → Int32 → Int32 → Option (cr_S × Int32)} {s np t p : Nat} {Ps : Nat → Nat → Nat} {S : Nat → Nat} {x3 x4 x5 : Int32} (hpn : p < np) (ht : t < 80000) : ∀ (n f k : Nat) (τ : cr_S), k + n = Ps p 2 → n + 1 < f → mStr τ np Ps → mS τ s S → ¬ τ.1 0 6 = 0 →
    ∃ τ', b12 τ τ' ∧ f_X11_stones_L77 r47 f τ (nI s) x3 x4 x5 (nI (tN Ps S t p)) (nI p) (nI (Ps p 2)) (nI k - 1) = (match fsN (gsN Ps S t p) n k with | none => some (τ', -4) | some j => r47 τ' (nI s) x3 (x4 + nI j) (if nI p = x3 then nI j else x5) (nI (tN Ps S t (p + 1))) (nI (p + 1)))
  | 0, f + 1, k, τ, hk, hf, hM, hS, h6 => by
    have hP := hM.2.2 p hpn
    have a3 := hP.2.2.2.2.2.2.1
    refine ⟨τ, b12_r, ?_⟩
    rw [f_X11_stones_L77]
    simp only [rF, h6, if_false, f_X11_stones_B133, fsN]
    rw [if_pos ((le_m1 (by omega) (by omega)).mpr (by omega))]
  | n + 1, f + 2, k, τ, hk, hf, hM, hS, h6 => by
    have hnp := hM.2.1
    have hP := hM.2.2 p hpn
    have v4 := hP.2.1 4 (by omega)
    have a2 := hP.2.2.2.2.2.1
    have a3 := hP.2.2.2.2.2.2.1
    have a4 := hP.2.2.2.2.2.2.2.2.2
    have l1 : (Ps p 4 + Ps p 2 - k) % Ps p 2 < Ps p 2 := Nat.mod_lt _ (by omega)
    obtain ⟨τ1, q1, q2, q3, q4, q5⟩ := M_pass3 (ph := (Ps p 4 + Ps p 2 - k) % Ps p 2) hM hS hpn (by omega) ht
    have b1 : b12 τ τ1 := ⟨q2, q3⟩
    have e0 : nI k - 1 + 1 = nI k := by rw [Int32.sub_add_cancel]
    have stp : f_X11_stones_L77 r47 (f + 2) τ (nI s) x3 x4 x5 (nI (tN Ps S t p)) (nI p) (nI (Ps p 2)) (nI k - 1) = f_X11_stones_L77 r47 (f + 1) τ1 (nI s) x3 x4 x5 (nI (tN Ps S t p)) (nI p) (nI (Ps p 2)) (nI k) := by
      rw [f_X11_stones_L77]
      simp only [rF, h6, if_false]
      rw [if_neg (fun q => absurd ((le_m1 (by omega) (by omega)).mp q) (by omega))]
      simp (disch := omega) only [cr_let, e0, n_5, n_4, pk_mul, nI_add, chk_i, chk_0, rA_n, v4, sub_n, rem_n, M_high hS, Option.bind_some, q1]
    rw [stp, fs_s, show gsN Ps S t p k = thN Ps S t p ((Ps p 4 + Ps p 2 - k) % Ps p 2) from rfl]
    cases y : thN Ps S t p ((Ps p 4 + Ps p 2 - k) % Ps p 2)
    · have n6 : ¬ τ1.1 0 6 = 0 := fun q => by rw [q4, y] at q; cases q
      obtain ⟨τ', c1, c2⟩ := M_stL (r47 := r47) (x3 := x3) (x4 := x4) (x5 := x5) hpn ht n (f + 1) (k + 1) τ1 (by omega) (by omega) (b12_M b1 hM) (b12_S b1 hS) n6
      rw [← nI_1, Int32.add_sub_cancel] at c2
      refine ⟨τ', b12_t b1 c1, ?_⟩
      rw [c2]
      simp
    · have e6 : τ1.1 0 6 = 0 := q4.mpr y
      have e7 := q5 y
      refine ⟨τ1, b1, ?_⟩
      rw [f_X11_stones_L77]
      simp only [rF, e6, if_true, f_X11_stones_B133, f_X11_stones_B163, cr_let, e7, nI_1]
theorem S_stoL {k np ns nu nl t : Nat} {Ps Ss : Nat → Nat → Nat} {x3 : Int32} {σ : cr_S} (hk : k < ns) (ht : t < 80000) (hx : x3 = -1 ↔ ¬ 0 ≤ x3) (hp : cPlan σ Ps (Ss k) np t) : ∀ (n f p : Nat) (x4 x5 : Int32) (τ : cr_S), p + n = np → n < f → Inv σ τ → rMain σ τ np ns nu nl Ps Ss → Step σ τ (f_X10_stones_L58 f σ x3 x4 x5 (nI p)) (f_X11_stones_L47 f τ (nI k) x3 x4 x5 (nI (tN Ps (Ss k) t p)) (nI p))
  | 0, f + 1, p, x4, x5, τ, hn, hf, h0, hm => by
    have hnp := hm.1.2.2
    rw [f_X10_stones_L58, f_X11_stones_L47]
    simp (disch := omega) only [rF, hm.1.1, hm.1.2.1, le_n, if_pos, f_X10_stones_B123, f_X11_stones_B177]
    refine ⟨σ, τ, if x3 = -1 then x4 else x5, rfl, ?_, h0⟩
    by_cases z : x3 = -1
    · rw [if_pos z, if_neg (hx.mp z)]
    · rw [if_neg z, if_pos (Decidable.not_not.mp (fun q => z (hx.mpr q)))]
  | n + 1, f + 1, p, x4, x5, τ, hn, hf, h0, hm => by
    have hnp := hm.1.2.2
    have hC := rM_c hm
    have hM := rM_m hm
    have hS := rM_cS hm hk
    have hP := hM.2.2 p (by omega)
    have v2 := hP.2.1 2 (by omega)
    have a3 := hP.2.2.2.2.2.2.1
    have fw := C_few hC hS.2.2 hp (show p < np by omega) ht
    have b0 : b12 τ (sF τ 0 6 2) := ⟨rfl, fun j q1 q2 => sF_k q1⟩
    obtain ⟨τ1, b1, g1⟩ := M_stL (r47 := f_X11_stones_L47 f) (x3 := x3) (x4 := x4) (x5 := x5) (s := k) (S := Ss k) (show p < np by omega) ht (Ps p 2) cr_fuel 0 (sF τ 0 6 2) (by omega) (by rw [cr_fuel_v]; omega) (b12_M b0 hM) (b12_S b0 (rM_mS hm hk)) (by rw [sF_s]; decide)
    have b2 := b12_t b0 b1
    have e1 : nI 0 - 1 = -1 := by decide
    rw [e1] at g1
    rw [f_X10_stones_L58, f_X11_stones_L47]
    simp (disch := omega) only [rF, hm.1.1, hm.1.2.1, le_n, if_neg, fw, Option.bind_some, cr_let, n_5, n_2, pk_mul, nI_add, chk_i, rA_n, v2]
    rw [← n_2, g1]
    cases y : fsN (gsN Ps (Ss k) t p) (Ps p 2) 0 with
    | none => exact ⟨σ, τ1, -4, by simp [fsI], rfl, Inv_same h0 cSame.rf (b12_m b2)⟩
    | some j =>
      have hj := fs_in _ _ _ y
      obtain ⟨σ', τ', r, i1, i2, i3⟩ := S_stoL hk ht hx hp n f (p + 1) (x4 + nI j) (if nI p = x3 then nI j else x5) τ1 (by omega) (by omega) (Inv_same h0 cSame.rf (b12_m b2)) (rMain_same hm cSame.rf (b12_m b2))
      refine ⟨σ', τ', r, ?_, i2, i3⟩
      simp only [fsI, m4_ne j (by omega), if_false, f_X10_stones_B115, cr_let, nI_1]
      exact i1
theorem L_m1 : (-1 : Int64) = Int32.toInt64 (-1) := by decide
theorem L_m2 : (-2 : Int64) = Int32.toInt64 (-2) := by decide
theorem inR_g {a : Int32} {n : Nat} (hn : n < 1000000) (h : inR a (-1) (nI n - 1) = true) : a = -1 ∨ ∃ k, k < n ∧ a = nI k := by
  by_cases z : a = -1
  · exact Or.inl z
  · refine Or.inr (inR_n hn ?_)
    have h' := of_decide_eq_true h
    have h1 := Int32.le_iff_toInt_le.mp h'.1
    refine decide_eq_true ⟨Int32.le_iff_toInt_le.mpr ?_, h'.2⟩
    have e0 : (0 : Int32).toInt = 0 := rfl
    have e1 : (-1 : Int32).toInt = -1 := rfl
    have : ¬ a.toInt = -1 := fun q => z (Int32.toInt_inj.mp (q.trans e1.symm))
    omega
theorem S_stones {σ τ : cr_S} {a b c : Int32} (h : Inv σ τ) : Step σ τ (f_X10_stones σ a b c) (f_X11_stones τ a b c) := by
  have h0 := h
  obtain ⟨⟨np, ns, nu, nl, Ps, Ss, hm⟩, -⟩ := h
  have h1 := hm.2.1
  have hns := h1.2.2
  have hnp := hm.1.2.2
  unfold f_X10_stones f_X11_stones
  simp only [C_isBegin, h1.1, M_isShip, h1.2.1, Option.bind_some, M_isSecond, C_within, L_m1, M_in, rF, hm.1.1, hm.1.2.1]
  cases q1 : inR a 0 (nI ns - 1)
  · exact ⟨σ, τ, -1, by simp [bI], by simp [bI], h0⟩
  cases q2 : inR b 0 9999
  · exact ⟨σ, τ, -1, by simp [bI], by simp [bI], h0⟩
  cases q3 : inR c (-1) (nI np - 1)
  · exact ⟨σ, τ, -1, by simp [bI], by simp [bI], h0⟩
  obtain ⟨k, hk, rfl⟩ := inR_n (by omega) q1
  obtain ⟨t, ht, rfl⟩ := inR_m (n := 9999) (by omega) q2
  have hx : c = -1 ↔ ¬ 0 ≤ c := by
    rcases inR_g (by omega) q3 with rfl | ⟨j, hj, rfl⟩
    · exact ⟨fun _ => by decide, fun _ => rfl⟩
    · refine ⟨fun q => absurd q (m1_ne j (by omega)), fun q => absurd ?_ q⟩
      rw [n_0, le_n (by omega) (by omega)]
      omega
  have hS := rM_cS hm hk
  obtain ⟨σ1, p1, p2, p3, p4⟩ := C_planFull (t := t) (rM_c hm) hS (by omega)
  obtain ⟨σ', τ', r, i1, i2, i3⟩ := S_stoL (x3 := c) hk (by omega) hx p4 np cr_fuel 0 0 0 τ (by omega) (by rw [cr_fuel_v]; omega) (Inv_same h0 p3 mSame.rf) (rMain_same hm p3 mSame.rf)
  refine ⟨σ', τ', r, ?_, ?_, i3⟩
  · simp (disch := omega) only [bI_t, Bool.and_self, chk_i, nI_clamp, p1, Option.bind_some]
    rw [← n_0] at i1
    simpa using i1
  · rw [← n_0] at i2
    simpa [bI, tN] using i2

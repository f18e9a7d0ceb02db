/-! the steps sure, fog -/
theorem b12_m {τ τ' : cr_S} (b : b12 τ τ') : mSame τ τ' := ⟨fun j hj => b.2 j (by unfold mKeep at hj; omega) (by unfold mKeep at hj; omega), fun o _ _ _ _ => by rw [b.1], by rw [b.1]⟩
theorem S_sureL {k np ns nu nl t0 : Nat} {Ps Ss : Nat → Nat → Nat} (hk : k < ns) (ht0 : t0 ≤ 9999) : ∀ (n f t : Nat) (x3 x4 : Int32) (σ τ : cr_S), t + n = t0 + 60 → n < f → Inv σ τ → rMain σ τ np ns nu nl Ps Ss → Step σ τ (f_X10_sure_L19 f σ (nI k) (nI t0) x3 x4 (nI t)) (f_X11_sure_L25 f τ (nI k) (nI t0) x3 x4 (nI t))
  | 0, f + 1, t, x3, x4, σ, τ, ht, hf, h0, hm => by
    rw [f_X10_sure_L19, f_X11_sure_L25]
    simp (disch := omega) only [n_60, nI_add, le_n, if_pos]
    exact ⟨σ, τ, x3, rfl, rfl, h0⟩
  | n + 1, f + 1, t, x3, x4, σ, τ, ht, hf, h0, hm => by
    have hns := hm.2.1.2.2
    have hS := rM_cS hm hk
    obtain ⟨σ1, p1, p2, p3, p4⟩ := C_planFull (t := t) (rM_c hm) hS (by omega)
    have hC1 : cStr σ1 np Ps := by
      have := rM_c hm
      exact ⟨by rw [p2]; exact this.1, this.2.1, fun j hj => cP_of (this.2.2 j hj) (fun i _ => by rw [p2])⟩
    have w1 := C_fogW (t := t) hC1 hS.2.2 p4 (by omega)
    obtain ⟨τ1, r1, r2⟩ := M_clears (t := t) (rM_m hm) (rM_mS hm hk) (by omega)
    have go : ∀ y3 y4 : Int32, Step σ τ (f_X10_sure_L19 f σ1 (nI k) (nI t0) y3 y4 (nI (t + 1))) (f_X11_sure_L25 f τ1 (nI k) (nI t0) y3 y4 (nI (t + 1))) := fun y3 y4 => by
      obtain ⟨σ', τ', r, i1, i2, i3⟩ := S_sureL hk ht0 n f (t + 1) y3 y4 σ1 τ1 (by omega) (by omega) (Inv_same h0 p3 (b12_m r2)) (rMain_same hm p3 (b12_m r2))
      exact ⟨σ', τ', r, i1, i2, i3⟩
    rw [f_X10_sure_L19, f_X11_sure_L25]
    simp (disch := omega) only [n_60, nI_add, le_n, if_neg, chk_i, nI_clamp, p1, Option.bind_some, w1, r1, cr_let, f_X10_sure_B77, f_X11_sure_B56, f_X11_sure_B71, nI_1]
    by_cases z : nI (fgN (wgN Ps (Ss k) t) np 0 1) ≤ x4
    · simp only [z, if_true]
      exact go x3 x4
    · simp only [z, if_false]
      exact go (nI t) _
theorem S_sure {σ τ : cr_S} {a b : Int32} (h : Inv σ τ) : Step σ τ (f_X10_sure σ a b) (f_X11_sure τ a b) := by
  have h0 := h
  obtain ⟨⟨np, ns, nu, nl, Ps, Ss, hm⟩, -⟩ := h
  have h1 := hm.2.1
  have hns := h1.2.2
  unfold f_X10_sure f_X11_sure
  simp only [C_isBegin, h1.1, M_isShip, h1.2.1, Option.bind_some, M_isSecond]
  cases q1 : inR a 0 (nI ns - 1)
  · exact ⟨σ, τ, -1, by simp [bI], by simp [bI], h0⟩
  cases q2 : inR b 0 9999
  · exact ⟨σ, τ, -1, by simp [bI], by simp [bI], h0⟩
  obtain ⟨k, hk, rfl⟩ := inR_n (by omega) q1
  obtain ⟨t, ht, rfl⟩ := inR_m (n := 9999) (by omega) q2
  obtain ⟨σ', τ', r, i1, i2, i3⟩ := S_sureL (t0 := t) hk ht 60 cr_fuel t (nI t) (-1) σ τ (by omega) (by rw [cr_fuel_v]; omega) h0 hm
  exact ⟨σ', τ', r, by simpa [bI] using i1, by simpa [bI] using i2, i3⟩
theorem M_common {τ : cr_S} : ∀ (n f a b : Nat), b ≤ n → n < f → a < 100000 → b < 100000 → f_X11_common_L4 f τ (nI a) (nI b) = some (τ, nI (Nat.gcd a b))
  | n, 0, a, b, hb, hf, _, _ => absurd hf (by omega)
  | 0, f + 1, a, b, hb, hf, ha, hb2 => by
    have e : b = 0 := by omega
    subst e
    rw [f_X11_common_L4]
    simp [← n_0]
  | n + 1, f + 1, a, b, hb, hf, ha, hb2 => by
    rw [f_X11_common_L4]
    by_cases e : b = 0
    · subst e
      simp [← n_0]
    · have hlt : a % b < b := Nat.mod_lt _ (by omega)
      have ih := M_common (τ := τ) n f b (a % b) (by omega) (by omega) hb2 (by omega)
      have g : Nat.gcd b (a % b) = Nat.gcd a b := by rw [Nat.gcd_comm a b, Nat.gcd_rec b a, Nat.gcd_comm]
      rw [g] at ih
      have e' : ¬ nI b = 0 := ne0_n (by omega) (by omega)
      rw [if_neg e', chk_t e', rem_n (by omega) (by omega) (by omega)]
      exact ih
theorem gcd_odd {v m : Nat} (h : v % 2 = 1) : Nat.gcd v (2 ^ m) = 1 := by
  have h2 : Nat.Coprime v 2 := by
    show Nat.gcd v 2 = 1
    rw [Nat.gcd_comm, Nat.gcd_rec, h]
    rfl
  exact Nat.Coprime.pow_right m h2
theorem C_half {σ : cr_S} {x3 : Int32} : ∀ (m f v : Nat), m < f → v < 100000 → 2 ^ m < 100000 → f_X10_fog_L74 f σ x3 (nI v) (nI (2 ^ m)) = some (σ, if x3 = 0 then nI (v / Nat.gcd v (2 ^ m)) else nI (2 ^ m / Nat.gcd v (2 ^ m)))
  | m, 0, v, hf, _, _ => absurd hf (by omega)
  | 0, f + 1, v, hf, hv, hm => by
    rw [f_X10_fog_L74]
    have e : Nat.gcd v (2 ^ 0) = 1 := by simp
    rw [e]
    simp (disch := omega) only [n_2, n_1, rem_n, n_0, eq_n, le_n, Nat.pow_zero, Nat.le_refl, if_true, f_X10_fog_B102, ite_self, Nat.div_one]
  | m + 1, f + 1, v, hf, hv, hm => by
    rw [f_X10_fog_L74]
    have pw : 1 ≤ 2 ^ m := Nat.one_le_pow _ _ (by omega)
    have ps : 2 ^ (m + 1) = 2 * 2 ^ m := by rw [Nat.pow_succ, Nat.mul_comm]
    simp (disch := omega) only [n_2, n_1, rem_n, n_0, eq_n, le_n, f_X10_fog_B102, cr_let]
    rw [div_n (show v < 2147483648 by omega) (by omega) (by omega), div_n (show 2 ^ (m + 1) < 2147483648 by omega) (by omega) (by omega)]
    by_cases o : v % 2 = 0
    · have e : v = 2 * (v / 2) := by omega
      have e2 : 2 ^ (m + 1) / 2 = 2 ^ m := by rw [ps]; omega
      have ih := C_half (σ := σ) (x3 := x3) m f (v / 2) (by omega) (by omega) (by omega)
      have g : Nat.gcd v (2 ^ (m + 1)) = 2 * Nat.gcd (v / 2) (2 ^ m) := by
        rw [ps]
        conv => lhs; rw [e]
        exact Nat.gcd_mul_left 2 _ _
      have d1 : v / Nat.gcd v (2 ^ (m + 1)) = v / 2 / Nat.gcd (v / 2) (2 ^ m) := by
        rw [g]
        have := Nat.mul_div_mul_left (v / 2) (Nat.gcd (v / 2) (2 ^ m)) (show 0 < 2 by omega)
        rw [← e] at this
        exact this
      have d2 : 2 ^ (m + 1) / Nat.gcd v (2 ^ (m + 1)) = 2 ^ m / Nat.gcd (v / 2) (2 ^ m) := by
        rw [g, ps]
        exact Nat.mul_div_mul_left _ _ (by omega)
      rw [d1, d2, if_pos o, if_neg (by omega), e2, ih, ← n_0]
    · rw [gcd_odd (by omega), if_neg o, Nat.div_one, Nat.div_one, ← n_0]
theorem sh_4 : ∀ k, k < 7 → (1 : Int32) <<< ((2 * nI k) &&& 31) = nI (2 ^ (2 * k)) := by decide
theorem S_fog {σ τ : cr_S} {a b c : Int32} (h : Inv σ τ) : Step σ τ (f_X10_fog σ a b c) (f_X11_fog τ a b c) := by
  have h0 := h
  obtain ⟨⟨np, ns, nu, nl, Ps, Ss, hm⟩, -⟩ := h
  have h1 := hm.2.1
  have hns := h1.2.2
  have hnp := hm.1.2.2
  unfold f_X10_fog f_X11_fog
  simp only [C_isBegin, h1.1, M_isShip, h1.2.1, Option.bind_some, M_isSecond, C_within, L_0, L_1, M_in]
  cases q1 : inR a 0 (nI ns - 1)
  · exact ⟨σ, τ, -1, by simp [bI], by simp [bI], h0⟩
  cases q2 : inR b 0 9999
  · exact ⟨σ, τ, -1, by simp [bI], by simp [bI], h0⟩
  cases q3 : inR c 0 1
  · exact ⟨σ, τ, -1, by simp [bI], by simp [bI], h0⟩
  obtain ⟨k, hk, rfl⟩ := inR_n (by omega) q1
  obtain ⟨t, ht, rfl⟩ := inR_m (n := 9999) (by omega) q2
  obtain ⟨z, hz, rfl⟩ := inR_m (n := 1) (by omega) q3
  have hS := rM_cS hm hk
  obtain ⟨σ1, p1, p2, p3, p4⟩ := C_planFull (t := t) (rM_c hm) hS (by omega)
  have hC1 : cStr σ1 np Ps := by
    have := rM_c hm
    exact ⟨by rw [p2]; exact this.1, this.2.1, fun j hj => cP_of (this.2.2 j hj) (fun i _ => by rw [p2])⟩
  have w1 := C_fogW (t := t) hC1 hS.2.2 p4 (by omega)
  obtain ⟨τ1, r1, r2⟩ := M_clears (t := t) (rM_m hm) (rM_mS hm hk) (by omega)
  have n1 : τ1.1 0 0 = nI np := by rw [r2.2 0 (by omega) (by omega)]; exact (rM_m hm).1
  have hv := fg_in (w := wgN Ps (Ss k) t) (wg_in Ps (Ss k) t) np 0 1
  have pw : (4 : Nat) ^ np ≤ 4 ^ 6 := Nat.pow_le_pow_right (by omega) hnp
  have pe : (4 : Nat) ^ np = 2 ^ (2 * np) := by rw [Nat.pow_mul]
  have pp : 1 ≤ 2 ^ (2 * np) := Nat.one_le_pow _ _ (by omega)
  generalize fgN (wgN Ps (Ss k) t) np 0 1 = v at w1 r1 hv
  have inv := Inv_same h0 p3 (b12_m r2)
  have hg : 0 < Nat.gcd v (2 ^ (2 * np)) := Nat.gcd_pos_of_pos_right _ pp
  have hg2 : Nat.gcd v (2 ^ (2 * np)) ≤ 2 ^ (2 * np) := Nat.le_of_dvd pp (Nat.gcd_dvd_right _ _)
  have cm : f_X11_common τ1 (nI v) (nI (2 ^ (2 * np))) = some (τ1, nI (Nat.gcd v (2 ^ (2 * np)))) := M_common 4096 cr_fuel v _ (by omega) (by rw [cr_fuel_v]; omega) (by omega) (by omega)
  have zz : (nI z = 0) = (z = 0) := by rw [n_0, eq_n (by omega) (by omega)]
  refine ⟨σ1, τ1, if z = 0 then nI (v / Nat.gcd v (2 ^ (2 * np))) else nI (2 ^ (2 * np) / Nat.gcd v (2 ^ (2 * np))), ?_, ?_, inv⟩
  · simp (disch := omega) only [bI_t, Bool.and_self, chk_i, nI_clamp, p1, Option.bind_some, w1, cr_let, rF, hC1.1, sh_4]
    by_cases v0 : v = 0
    · subst v0
      have e : 2 ^ (2 * np) / 2 ^ (2 * np) = 1 := Nat.div_self pp
      rcases (show z = 0 ∨ z = 1 by omega) with rfl | rfl <;> simp [← n_0, e]
    · have hf := C_half (σ := σ1) (x3 := nI z) (2 * np) cr_fuel v (by rw [cr_fuel_v]; omega) (by omega) (by omega)
      simp only [zz] at hf
      rw [hf, if_neg (ne0_n (by omega) (by omega))]
      simp
  · simp (disch := omega) only [bI_t, r1, Option.bind_some, cr_let, rF, n1, sh_4, cm, chk_0, div_n, zz]
    by_cases e : z = 0 <;> simp [e]

/-! the step pass -/
theorem inR_in {k l n : Nat} (hl : l ≤ k) (hk : k ≤ n) (hn : n < 1000000) : inR (nI k) (nI l) (nI n) = true := by
  unfold inR
  simp (disch := omega) [le_n]
  omega
theorem inR_p {k n : Nat} (hk : k < n) (hn : n < 1000000) : inR (nI k) 0 (nI n - 1) = true := by
  rw [n_0, n_1, sub_n (by omega)]
  exact inR_in (by omega) (by omega) (by omega)
theorem inR_q {k n : Nat} (hk : n ≤ k) (hn : n < 1000000) (hk2 : k < 1000000) : inR (nI k) 0 (nI n - 1) = false := by
  cases h : inR (nI k) 0 (nI n - 1)
  · rfl
  · obtain ⟨j, hj, e⟩ := inR_n hn h
    rw [eq_n (by omega) (by omega)] at e
    omega
theorem inR_m1 {n : Nat} (hn : n < 1000000) : inR (-1) 0 (nI n - 1) = false := by
  cases h : inR (-1) 0 (nI n - 1)
  · rfl
  · obtain ⟨j, hj, e⟩ := inR_n hn h
    exact absurd e.symm (m1_ne j (by omega))
theorem S_pass {σ τ : cr_S} {a : Int32} (h : Inv σ τ) : Step σ τ (f_X10_pass σ a) (f_X11_pass τ a) := by
  have h0 := h
  obtain ⟨⟨np, ns, nu, nl, Ps, Ss, hm⟩, -⟩ := h
  have hc := rM_c hm
  have hM := rM_m hm
  have hnp := hc.2.1
  have h1 := hm.2.1
  have hp := hm.1
  have hns := h1.2.2
  have voy := hm.2.2.2.2.2.2.2.1
  obtain ⟨clk, psd, v1, v2, v3, v4, v5, v6, v7, v8⟩ := voy
  have v3' : σ.1 4 0 = nI clk := v3
  have v5' : σ.1 4 2 = nI psd := v5
  have r0 : rA τ 3 0 = nI clk := by rw [n_0, rA_n (by omega)]; exact v4
  have r1 : rA τ 3 1 = τ.2.1 3 1 := by rw [n_1, rA_n (by omega)]
  have r2 : rA τ 3 2 = nI psd := by rw [n_2, rA_n (by omega)]; exact v6
  rcases v8 with ⟨w1, w2⟩ | ⟨o, ho, w1, w2⟩
  · have w1' : σ.1 4 1 = -1 := w1
    refine ⟨σ, τ, -2, ?_, ?_, h0⟩
    · unfold f_X10_pass
      simp only [C_isShip, rF, w1', h1.1, inR_m1 (n := ns) (by omega), Option.bind_some, bI_f, if_true]
    · unfold f_X11_pass
      simp only [cr_let, r1, w2, if_true]
  have w1' : σ.1 4 1 = nI o := w1
  have e4 := m4_ne o (by omega)
  by_cases z : np ≤ psd
  · refine ⟨σ, τ, -2, ?_, ?_, h0⟩
    · unfold f_X10_pass
      simp only [C_isShip, C_isPair, rF, w1', v5', h1.1, hp.1, inR_p ho (by omega), inR_q z (by omega) (by omega), Option.bind_some, bI_f, bI_t, if_true]
      simp
    · unfold f_X11_pass
      simp (disch := omega) only [cr_let, r1, r2, w2, e4, rF, hp.2.1, lt_n]
      simp [e4, show ¬ psd < np by omega]
  have z : psd < np := by omega
  have cS1 := rM_cS hm ho
  have mS1 := rM_mS hm ho
  have cP1 := hc.2.2 psd z
  have mP1 := hM.2.2 psd z
  have hlo := lo_in cS1.2.2
  have hhi := hi_in cS1.2.2
  have pv4 := mP1.2.1 4 (by omega)
  have hph : Ps psd 4 < 1000 := by
    have a1 := mP1.2.2.2.2.2.2.2.2.2
    have a2 := mP1.2.2.2.2.2.2.1
    omega
  cases hq : inR a (nI (loN (Ss o))) (nI (hiN (Ss o)))
  · refine ⟨σ, τ, -1, ?_, ?_, h0⟩
    · unfold f_X10_pass
      simp (disch := omega) only [C_isShip, C_isPair, rF, w1', v5', h1.1, hp.1, inR_p ho (by omega), inR_p z (by omega), Option.bind_some, bI_t, chk_i, nI_clamp, C_low cS1, C_high cS1, chk_t cS1.1, C_within, hq]
      simp [bI]
    · unfold f_X11_pass
      simp (disch := omega) only [cr_let, r1, r2, w2, rF, hp.2.1, lt_n, M_low mS1, M_high mS1, Option.bind_some, M_in, hq]
      simp [e4, z, bI]
  obtain ⟨pc, l1, l2, rfl⟩ := inR_l (by omega) (by omega) hq
  obtain ⟨σ1, g1, g2⟩ := C_goBetween (t := clk) (pace := pc) cP1 cS1 (by omega) (by omega) (by omega) (by omega) (by omega)
  obtain ⟨τ1, k1, k2, k3, k4, k5⟩ := M_passes (t := clk) (pace := pc) (ph := Ps psd 4) mP1 mS1 hph (by omega) (by omega) (by omega)
  have hw2 := how_in (fun u => openN (Ps psd) u (Ps psd 4)) (clk + cu (Ps psd 1) pc) (cu (spN (Ss o)) pc)
  have hsec : secN (fun u => openN (Ps psd) u (Ps psd 4)) (clk + cu (Ps psd 1) pc) (cu (spN (Ss o)) pc) < 20000 := by
    have a1 := sec_in (fun u => openN (Ps psd) u (Ps psd 4)) (clk + cu (Ps psd 1) pc) (cu (spN (Ss o)) pc)
    have a2 := cu_in (a := Ps psd 1) (b := pc) cP1.2.2.2.1 (by omega)
    have a3 := sp_in cS1.2.2
    have a4 := cu_in (a := spN (Ss o)) (b := pc) a3.1 (by omega)
    have a5 := cP1.2.2.2.2.1
    omega
  generalize howN (fun u => openN (Ps psd) u (Ps psd 4)) (clk + cu (Ps psd 1) pc) (cu (spN (Ss o)) pc) = hw at g1 k4 hw2
  generalize secN (fun u => openN (Ps psd) u (Ps psd 4)) (clk + cu (Ps psd 1) pc) (cu (spN (Ss o)) pc) = sc at g2 k5 hsec
  have hm1 : rMain σ1 τ1 np ns nu nl Ps Ss := by
    refine rMain_now hm (fun q q1 q2 => by rw [g2, sF_o (by omega)]) (fun q _ => by rw [g2]; rfl) (fun j hj => k3 j (by unfold mKeep at hj; omega) (by unfold mKeep at hj; omega)) (fun q _ _ _ _ _ => by rw [k2]) ?_
    rw [g2, sF_o (by omega), k2]
    exact hm.2.2.2.2.2.2.2.1
  have c1 : ∀ X : cr_S → Int32 → Option (cr_S × Int32), f_X10_pass σ (nI pc) = (if nI sc ≤ 9999 then Option.bind (f_X9_remember_1 σ1) (fun q19 => cr_let (sF q19 4 0 (q19.1 70 5)) (fun s21 => (if nI hw = 2 then cr_let (sF s21 4 1 (-1)) (fun s27 => some (s27, nI hw)) else cr_let (sF s21 4 2 ((s21.1 4 2) + 1)) (fun s23 => f_X10_pass_B164 s23 (nI hw) (if nI hw = 1 then 1 else 0) (s23.1 4 3))))) else some (σ1, (-3))) := fun X => by
    unfold f_X10_pass
    simp (disch := omega) only [C_isShip, C_isPair, rF, w1', v5', v3', h1.1, hp.1, inR_p ho (by omega), inR_p z (by omega), Option.bind_some, bI_t, chk_i, nI_clamp, C_low cS1, C_high cS1, chk_t cS1.1, C_within, hq, g1]
    have : σ1.1 70 5 = nI sc := by rw [g2, sF_s]
    simp [this, cr_let]
  have c2 : f_X11_pass τ (nI pc) = (if nI sc ≤ 9999 then Option.bind (f_X11_notes τ1) (fun q14 => cr_let (sA q14 3 0 (rF q14 0 7)) (fun s16 => f_X11_pass_B122 s16 (if (rF s16 0 6) = 2 then (-4) else nI o) 1)) else some (τ1, (-3))) := by
    unfold f_X11_pass
    simp (disch := omega) only [cr_let, r0, r1, r2, w2, rF, hp.2.1, lt_n, M_low mS1, M_high mS1, Option.bind_some, M_in, hq]
    simp (disch := omega) only [n_5, n_4, pk_mul, nI_add, chk_i, rA_n, pv4, k1, Option.bind_some, rF, k5]
    rw [← n_4]
    simp [e4, z, bI]
  rw [c1 (fun _ _ => none), c2]
  by_cases full : sc ≤ 9999
  · have fl : nI sc ≤ 9999 := by rw [n_9999, le_n (by omega) (by omega)]; exact full
    rw [if_pos fl, if_pos fl]
    obtain ⟨σ2, τ2, nu', p1, q1, hm2, p2, p3, p4, q2, q3, q4⟩ := S_rem hm1
    have s70 : σ2.1 70 5 = nI sc := by rw [p3 70 (by omega) (by omega), g2, sF_s]
    have t7 : τ2.1 0 7 = nI sc := by rw [q2 7 (by omega)]; exact k5
    have t6 : τ2.1 0 6 = nI hw := by rw [q2 6 (by omega)]; exact k4
    have s42 : σ2.1 4 2 = nI psd := by rw [p3 4 (by omega) (by omega), g2, sF_o (by omega)]; exact v5'
    have s43 : σ2.1 4 3 = τ.2.1 3 3 := by rw [p3 4 (by omega) (by omega), g2, sF_o (by omega)]; exact v7
    have s41 : σ2.1 4 1 = nI o := by rw [p3 4 (by omega) (by omega), g2, sF_o (by omega)]; exact w1'
    have t3 : τ2.2.1 3 = τ.2.1 3 := by rw [q3 3 (by omega), k2]
    rw [p1, q1]
    have oth : ∀ σ' τ' : cr_S, (∀ q, q ≠ 4 → σ'.1 q = σ2.1 q) → σ'.2 = σ2.2 → τ'.1 = τ2.1 → (∀ q, q ≠ 3 → τ'.2.1 q = τ2.2.1 q) → τ'.2.2 = τ2.2.2 → rVoy (σ'.1 4) (τ'.2.1 3) ns → Inv σ' τ' := fun σ' τ' y1 y2 y3 y4 y5 y6 => Inv_main h0 (rMain_now hm2 (fun q q1 _ => y1 q q1) (fun q _ => by rw [y2]) (fun j _ => by rw [y3]) (fun q q1 _ _ _ _ => y4 q q1) y6) (fun q q1 q2 => by rw [y1 q (by omega), p3 q (by omega) (by omega), g2, sF_o (by omega)]) (fun q q1 q2 => by rw [y2, p2, g2]; rfl) (by rw [y2, p2, g2]; rfl) (by rw [y3, q2 29 (by omega)]; exact k3 29 (by omega) (by omega)) (by rw [y3, q2 12 (by omega)]; exact k3 12 (by omega) (by omega)) (by rw [y4 5 (by omega), q3 5 (by omega), k2]) (by rw [y4 12 (by omega), q3 12 (by omega), k2]) (by rw [y4 13 (by omega), q3 13 (by omega), k2]) (by rw [y4 14 (by omega), q3 14 (by omega), k2]) (by rw [y5, q4, k2])
    have x0 : ∀ q : cr_S, ∀ v : Int32, sA q 3 0 v = sA q 3 (nI 0) v := fun _ _ => rfl
    simp (disch := omega) only [Option.bind_some, cr_let, rF, s70, t7, x0, f_X11_pass_B122, f_X11_pass_B143, f_X11_pass_B165, n_1, chk_i, sA_1, t6, n_2, n_3, eq_n, rA_n]
    by_cases y : hw = 2
    · subst y
      refine ⟨sF (sF σ2 4 0 (nI sc)) 4 1 (-1), sA (sA (sA (sA τ2 3 (nI 0) (nI sc)) 3 (nI 1) (-4)) 3 (nI 2) (nI psd)) 3 (nI 3) (τ.2.1 3 3), nI 2, ?_, ?_, oth _ _ (fun q hq => by simp (disch := omega) only [sF_o]) rfl rfl (fun q hq => by simp (disch := omega) only [sA_o]) rfl ⟨sc, psd, full, v2, ?_, ?_, ?_, ?_, ?_, Or.inl ⟨?_, ?_⟩⟩⟩
      · simp [n_1]
      · simp (disch := omega) [sA_k, sA_s, t3, v6, n_0, nI_add]
        congr 2
        have e : τ.2.1 3 3 + nI 0 = τ.2.1 3 3 := by rw [← n_0]; simp
        rw [e]
      · simp (disch := omega) only [sF_k, sF_s]
      · simp (disch := omega) only [sA_k, sA_s]
      · simp (disch := omega) only [sF_k]; exact s42
      · simp (disch := omega) only [sA_k, sA_s]
      · simp (disch := omega) only [sF_k, sA_s]; exact s43
      · simp (disch := omega) only [sF_s]
      · simp (disch := omega) only [sA_k, sA_s]
    · refine ⟨sF (sF (sF σ2 4 0 (nI sc)) 4 2 (nI (psd + 1))) 4 3 (τ.2.1 3 3 + (if hw = 1 then 1 else 0)), sA (sA (sA (sA τ2 3 (nI 0) (nI sc)) 3 (nI 1) (nI o)) 3 (nI 2) (nI (psd + 1))) 3 (nI 3) (τ.2.1 3 3 + (if hw = 1 then 1 else 0)), nI hw, ?_, ?_, oth _ _ (fun q hq => by simp (disch := omega) only [sF_o]) rfl rfl (fun q hq => by simp (disch := omega) only [sA_o]) rfl ⟨sc, psd + 1, full, by omega, ?_, ?_, ?_, ?_, ?_, Or.inr ⟨o, ho, ?_, ?_⟩⟩⟩
      · simp (disch := omega) [y, f_X10_pass_B164, sF_k, s42, s43, nI_add, cr_let, n_1]
      · simp (disch := omega) [y, sA_k, sA_s, t3, v6, nI_add, n_1]
      · simp (disch := omega) only [sF_k, sF_s]
      · simp (disch := omega) only [sA_k, sA_s]
      · simp (disch := omega) only [sF_k, sF_s]
      · simp (disch := omega) only [sA_k, sA_s]
      · simp (disch := omega) only [sF_s, sA_s]
      · simp (disch := omega) only [sF_k]; exact s41
      · simp (disch := omega) only [sA_k, sA_s]
  · have fl : ¬ nI sc ≤ 9999 := by rw [n_9999, le_n (by omega) (by omega)]; exact full
    rw [if_neg fl, if_neg fl]
    refine ⟨σ1, τ1, -3, rfl, rfl, Inv_same h0 ⟨fun q j hq => by rw [g2, sF_o (by omega)], fun q j _ => by rw [g2]; rfl, by rw [g2]; rfl⟩ ⟨fun j hj => k3 j (by unfold mKeep at hj; omega) (by unfold mKeep at hj; omega), fun q _ _ _ _ => by rw [k2], by rw [k2]⟩⟩

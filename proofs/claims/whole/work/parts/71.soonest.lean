/-! the step soonest -/
theorem bg_one {d : Nat → Nat} {N a b : Nat} (ha : isBg d N a) (hb : isBg d N b) : a = b := by
  by_cases z : a < b
  · have h1 := ha.2.2 b z hb.1
    have h2 := hb.2.1 a ha.1
    omega
  · by_cases y : b < a
    · have h1 := hb.2.2 a y ha.1
      have h2 := ha.2.1 b hb.1
      omega
    · omega
theorem C_find {σ : cr_S} {q t0 np : Nat} {Ps : Nat → Nat → Nat} {S : Nat → Nat} (ht : t0 ≤ 9999) (hq : q ≠ 74) (hC : cStr σ np Ps) (hS : cS σ q S) : ∃ σ', f_X5_findSoonest_74_1 σ q (nI t0) = some σ' ∧ s74 σ σ' ∧ ((σ'.1 74 4 = nI 1000000 ∧ ∀ x, x < 100 → dN Ps S t0 np np x = 1000000) ∨ ∃ b, isBg (dN Ps S t0 np np) 100 b ∧ dN Ps S t0 np np b < 1000000 ∧ σ'.1 74 4 = nI (dN Ps S t0 np np b) ∧ σ'.1 74 3 = nI b ∧ ∀ j, j < np → σ'.2.1 84 j = nI (pcN Ps S t0 np b (dN Ps S t0 np np b) j)) := by
  have hnp := hC.2.1
  obtain ⟨σ1, a1, a2, a3⟩ := C_table ht hq hC hS
  have G1 : s74 σ (sF σ1 74 4 (nI 1000000)) := s74_t a2 ⟨rfl, fun o ho => sF_o ho, fun _ _ => rfl⟩
  have r0 : ∀ x, x < 100 → (sF σ1 74 4 (nI 1000000)).2.1 76 x = nI (dN Ps S t0 np np x) := fun x hx => a3 0 (by omega) (by omega) x (by omega)
  obtain ⟨σ2, b1, b2, b3, b4⟩ := C_begL (q := q) (x3 := nI t0) (d := dN Ps S t0 np np) (fun x hx => d_in _ _ (by omega)) 100 cr_fuel 0 (sF σ1 74 4 (nI 1000000)) (by omega) (by rw [cr_fuel_v]; omega) r0 (Or.inl ⟨sF_s, fun x hx => absurd hx (by omega)⟩)
  have G2 := s74_t G1 b2
  have fin : f_X5_findSoonest_74_1 σ q (nI t0) = f_X5_findSoonest_74_1_B192 σ2 q (nI t0) := by
    rw [a1]
    unfold f_X5_findSoonest_74_1_B121
    simp only [cr_let]
    rw [n_M, n_0]
    exact b1
  rcases b4 with ⟨w1, w2⟩ | ⟨b, w1, w2, w3, w4⟩
  · refine ⟨σ2, ?_, G2, Or.inl ⟨w1, w2⟩⟩
    rw [fin]
    unfold f_X5_findSoonest_74_1_B192
    rw [if_pos (show rF σ2 74 4 = 1000000 from w1)]
  · have T2 : tbl σ2 Ps S t0 np 0 := fun j j1 j2 t ht2 => by rw [b3]; exact a3 j j1 j2 t ht2
    obtain ⟨σ3, c1, c2, c3, -, c5⟩ := C_tellL (q := q) (b := b) (e := dN Ps S t0 np np b) (Ps := Ps) (S := S) ht hq w1.1 w2 np cr_fuel 0 σ2 (by omega) (by rw [cr_fuel_v]; omega) (s74_C G2 hC) (s74_S G2 hq hS) T2 w3
    refine ⟨σ3, ?_, s74_t G2 c2, Or.inr ⟨b, w1, w2, by rw [c3]; exact w3, by rw [c3]; exact w4, fun j hj => c5 j (by omega) hj⟩⟩
    rw [fin]
    unfold f_X5_findSoonest_74_1_B192 f_X5_tellPaces_74_1
    rw [if_neg (show ¬ rF σ2 74 4 = 1000000 from fun z => by
      have z' : nI (dN Ps S t0 np np b) = nI 1000000 := w3.symm.trans z
      rw [eq_n (by omega) (by omega)] at z'
      omega)]
    simp only [cr_let]
    rw [show rF σ2 74 3 = nI b from w4, n_0]
    have c1' : f_X5_tellPaces_74_1_L9 cr_fuel σ2 q (nI t0) (nI b) (nI 0) = some σ3 := c1
    rw [c1']
    simp only [Option.bind_some]
theorem M_endOf {τ : cr_S} {t : Nat} (ht : t < 400) : f_X11_endOf τ 0 (nI t) = some (τ, τ.2.1 9 t) := by
  unfold f_X11_endOf
  rw [n_400, n_0, pk_mul, nI_add, Nat.mul_zero, Nat.zero_add, chk_i (by omega) (by omega), rA_n (by omega)]
theorem M_begL {τ : cr_S} {x1 x3 : Int32} {t0 : Nat} {d : Nat → Nat} (h0 : t0 ≤ 9999) (hd : ∀ x, x < 100 → val (d x)) (hr : ∀ x, x < 100 → τ.2.1 9 x = nI (vR t0 (d x))) : ∀ (n f t b : Nat), t + n = 100 → n < f → isBg d t b → ∃ b', f_X11_soonest_L47 f τ x1 (nI t0) x3 (nI b) (nI t) = f_X11_soonest_B86 τ x1 (nI t0) x3 (nI b') ∧ isBg d 100 b'
  | 0, f + 1, t, b, hn, hf, hb => by
    have e : t = 100 := by omega
    subst e
    refine ⟨b, ?_, hb⟩
    rw [f_X11_soonest_L47, n_100, if_pos (by rw [le_n (by omega) (by omega)]; omega)]
  | n + 1, f + 1, t, b, hn, hf, hb => by
    have hbt := hb.1
    have le := vR_le h0 (hd t (by omega)) (hd b (by omega))
    rw [f_X11_soonest_L47, n_100, if_neg (by rw [le_n (by omega) (by omega)]; omega), M_endOf (by omega)]
    simp only [Option.bind_some]
    rw [M_endOf (by omega)]
    simp only [Option.bind_some]
    rw [hr t (by omega), hr b (by omega)]
    unfold f_X11_soonest_B78
    simp only [cr_let]
    rw [nI_1]
    by_cases z : d b < d t
    · rw [if_pos (Int32.not_le.mp (fun q => absurd (le.mp q) (by omega)))]
      exact M_begL h0 hd hr n f (t + 1) b (by omega) (by omega) ⟨by omega, fun x hx => by
        by_cases e : x = t
        · rw [e]; omega
        · exact hb.2.1 x (by omega), fun x h1 h2 => by
        by_cases e : x = t
        · rw [e]; exact z
        · exact hb.2.2 x h1 (by omega)⟩
    · rw [if_neg (Int32.not_lt.mpr (le.mpr (by omega)))]
      exact M_begL h0 hd hr n f (t + 1) t (by omega) (by omega) ⟨by omega, fun x hx => by
        by_cases e : x = t
        · rw [e]; exact Nat.le_refl _
        · have := hb.2.1 x (by omega); omega, fun x h1 h2 => absurd h1 (by omega)⟩
theorem vR_eq {t0 a e : Nat} (h0 : t0 ≤ 9999) (ha : val a) (he : val e) : (nI (vR t0 a) = nI (vR t0 e)) ↔ a = e := by
  constructor
  · intro h
    have h1 := (vR_le h0 ha he).mp (by rw [h]; exact Int32.le_refl _)
    have h2 := (vR_le h0 he ha).mp (by rw [h]; exact Int32.le_refl _)
    omega
  · intro h; rw [h]
theorem M_148 {r135 : cr_S → Int32 → Int32 → Int32 → Int32 → Int32 → Int32 → Int32 → Option (cr_S × Int32)} {s k np t0 t e pz : Nat} {Ps : Nat → Nat → Nat} {S : Nat → Nat} {V : Nat → Nat} {x3 : Int32} (h0 : t0 ≤ 9999) (hk : k < np) (ht : t + 41 < 400) (he : val e) (hi : e < 1000000) (hV : ∀ x, x ≤ t + 41 → val (V x)) (hz : pz ≤ 5) (hg : gN (Ps k) S t0 t V pz = e) : ∀ (n f pc : Nat) (τ : cr_S), pc + n = pz → 1 ≤ pc → n < f → mStr τ np Ps → mS τ s S → (∀ x, x ≤ t + 41 → τ.2.1 9 (400 * (k + 1) + x) = nI (vR t0 (V x))) → (∀ r, pc ≤ r → r < pz → ¬ gN (Ps k) S t0 t V r = e) → ∃ τ', f_X11_soonest_L148 r135 f τ (nI s) (nI t0) x3 (nI (vR t0 e)) (nI t) (nI pc) (nI k) = r135 τ' (nI s) (nI t0) x3 (nI (vR t0 e)) (nI (t + duN (Ps k) S pz)) (nI pz) (nI (k + 1)) ∧ b12 τ τ' ∧ V (t + duN (Ps k) S pz) = e := by
  intro n
  induction n with
  | zero =>
    intro f pc τ hn h1 hf hM hS hR hne
    obtain ⟨F, rfl⟩ : ∃ F, f = F + 1 := ⟨f - 1, by omega⟩
    have ep : pc = pz := by omega
    subst ep
    have d := du_in (pc := pc) (hM.2.2 k hk).2.2 hS.2.2 h1
    obtain ⟨τ1, b1, b2, b3⟩ := M_by (t := t) (pc := pc) hM hS hk h0 ht h1 hz
    have z : tpN (Ps k) S (t0 + t) pc = true := by
      by_cases y : tpN (Ps k) S (t0 + t) pc = true
      · exact y
      · unfold gN at hg
        rw [if_neg y] at hg
        omega
    have eV : V (t + duN (Ps k) S pc) = e := by
      unfold gN at hg
      rw [if_pos z] at hg
      exact hg
    refine ⟨τ1, ?_, b2, eV⟩
    rw [if_pos z, hR _ (by omega), eV] at b1
    rw [f_X11_soonest_L148, b1]
    simp only [Option.bind_some]
    rw [if_pos trivial]
    unfold f_X11_soonest_B171
    simp only [cr_let]
    rw [show rF τ1 0 7 = _ from b3 z, sub_n (by omega), nI_1, show t0 + (t + duN (Ps k) S pc) - t0 = t + duN (Ps k) S pc by omega]
  | succ n ih =>
    intro f pc τ hn h1 hf hM hS hR hne
    obtain ⟨F, rfl⟩ : ∃ F, f = F + 1 := ⟨f - 1, by omega⟩
    have d := du_in (pc := pc) (hM.2.2 k hk).2.2 hS.2.2 h1
    obtain ⟨τ1, b1, b2, b3⟩ := M_by (t := t) (pc := pc) hM hS hk h0 ht h1 (by omega)
    have ne := hne pc (by omega) (by omega)
    have nv : ¬ (if tpN (Ps k) S (t0 + t) pc then τ.2.1 9 (400 * (k + 1) + (t + duN (Ps k) S pc)) else 999999) = nI (vR t0 e) := by
      by_cases y : tpN (Ps k) S (t0 + t) pc = true
      · unfold gN at ne
        rw [if_pos y] at ne
        rw [if_pos y, hR _ (by omega), vR_eq h0 (hV _ (by omega)) he]
        exact ne
      · rw [if_neg y]
        intro q
        have q' : nI (vR t0 1000000) = nI (vR t0 e) := q
        rw [vR_eq h0 (Or.inl rfl) he] at q'
        omega
    obtain ⟨τ2, u1, u2, u3⟩ := ih F (pc + 1) τ1 (by omega) (by omega) (by omega) (b12_M b2 hM) (b12_S b2 hS) (fun x hx => by rw [b2.1]; exact hR x hx) (fun r q1 q2 => hne r (by omega) q2)
    refine ⟨τ2, ?_, b12_t b2 u2, u3⟩
    rw [f_X11_soonest_L148, b1]
    simp only [Option.bind_some]
    rw [if_neg nv]
    simp only [cr_let]
    rw [nI_1]
    exact u1
theorem M_135 {s w np t0 b e : Nat} {Ps : Nat → Nat → Nat} {S : Nat → Nat} (h0 : t0 ≤ 9999) (hw : w < np) (hb : b < 100) (hi : e < 1000000) : ∀ (n f k : Nat) (x7 : Int32) (τ : cr_S), k + n = w + 1 → n < f → (n = 0 → x7 = nI (pcN Ps S t0 np b e w)) → mStr τ np Ps → mS τ s S → tblM τ Ps S t0 np 0 → dN Ps S t0 np (np - k) (ptN Ps S t0 np b e k) = e → ∃ τ', f_X11_soonest_L135 f τ (nI s) (nI t0) (nI w) (nI (vR t0 e)) (nI (ptN Ps S t0 np b e k)) x7 (nI k) = some (τ', nI (pcN Ps S t0 np b e w)) ∧ b12 τ τ' := by
  intro n
  induction n with
  | zero =>
    intro f k x7 τ hn hf hx hM hS hT hd
    have hnp := hM.2.1
    obtain ⟨F, rfl⟩ : ∃ F, f = F + 1 := ⟨f - 1, by omega⟩
    refine ⟨τ, ?_, b12_r⟩
    rw [f_X11_soonest_L135, if_pos (by rw [lt_n (by omega) (by omega)]; omega), hx rfl]
  | succ n ih =>
    intro f k x7 τ hn hf hx hM hS hT hd
    have hnp := hM.2.1
    obtain ⟨F, rfl⟩ : ∃ F, f = F + 1 := ⟨f - 1, by omega⟩
    have okPs : ∀ k, k < np → okP (Ps k) := fun k hk => (hM.2.2 k hk).2.2
    have lo := lo_in hS.2.2
    have hh := hi_in hS.2.2
    have ptk := pt_in (t0 := t0) (e := e) okPs hS.2.2 hb k (by omega)
    have hd' := hd
    rw [show np - k = (np - (k + 1)) + 1 by omega, dN, show np - (np - (k + 1) + 1) = k by omega] at hd'
    obtain ⟨p, p1, p2, p3⟩ := mn_at (g := gN (Ps k) S t0 (ptN Ps S t0 np b e k) (dN Ps S t0 np (np - (k + 1)))) (hiN S + 1 - loN S) (loN S) 1000000 (by rw [hd']; exact hi)
    rw [hd'] at p3
    have fs := fp_sp (hiN S - loN S) (loN S) p p1 (by omega) p3
    have pin := pc_in (Ps := Ps) (t0 := t0) (np := np) (b := b) (e := e) (k := k) hS.2.2
    have ve : val e := by
      rw [← hd]
      exact d_val okPs hS.2.2 _ _ (by omega) (by omega)
    obtain ⟨τ1, u1, u2, u3⟩ := M_148 (r135 := f_X11_soonest_L135 F) (s := s) (np := np) (Ps := Ps) (S := S) (k := k) (t := ptN Ps S t0 np b e k) (pz := pcN Ps S t0 np b e k) (V := dN Ps S t0 np (np - (k + 1))) (x3 := nI w) h0 (show k < np by omega) (by omega) ve hi (fun x hx => d_val okPs hS.2.2 _ _ (by omega) (by omega)) (by omega) fs.1 (pcN Ps S t0 np b e k - loN S) cr_fuel (loN S) τ (by omega) (by omega) (by rw [cr_fuel_v]; omega) hM hS (fun x hx => hT (k + 1) (by omega) (by omega) x (by omega)) (fun r q1 q2 => fs.2 r q1 q2)
    obtain ⟨τ2, v1, v2⟩ := ih F (k + 1) (nI (pcN Ps S t0 np b e k)) τ1 (by omega) (by omega) (fun z => by rw [show w = k by omega]) (b12_M u2 hM) (b12_S u2 hS) (fun j j1 j2 t ht => by rw [u2.1]; exact hT j j1 j2 t ht) u3
    refine ⟨τ2, ?_, b12_t u2 v2⟩
    rw [f_X11_soonest_L135, if_neg (by rw [lt_n (by omega) (by omega)]; omega), M_low hS]
    simp only [Option.bind_some, cr_let]
    rw [u1]
    exact v1
theorem inR_h {a : Int32} {n : Nat} (hn : n < 1000000) (h : inR a (-2) (nI n - 1) = true) : a = -2 ∨ a = -1 ∨ ∃ k, k < n ∧ a = nI k := by
  by_cases z : a = -2
  · exact Or.inl z
  · refine Or.inr (inR_g hn ?_)
    have h' := of_decide_eq_true h
    have h1 := Int32.le_iff_toInt_le.mp h'.1
    refine decide_eq_true ⟨Int32.le_iff_toInt_le.mpr ?_, h'.2⟩
    have e0 : (-2 : Int32).toInt = -2 := rfl
    have e1 : (-1 : Int32).toInt = -1 := rfl
    have : ¬ a.toInt = -2 := fun q => z (Int32.toInt_inj.mp (q.trans e0.symm))
    omega
theorem S_soonest {σ τ : cr_S} {a c e : Int32} (h : Inv σ τ) : Step σ τ (f_X10_soonest σ a c e) (f_X11_soonest τ a c e) := by
  have h0 := h
  obtain ⟨⟨np, ns, nu, nl, Ps, Ss, hm⟩, -⟩ := h
  have h1 := hm.2.1
  have hns := h1.2.2
  have hnp := hm.1.2.2
  unfold f_X10_soonest f_X11_soonest
  simp only [C_isBegin, h1.1, M_isShip, h1.2.1, Option.bind_some, M_isSecond, show rF σ 1 5 = nI np from hm.1.1, show rF τ 0 0 = nI np from hm.1.2.1, C_within, L_m2, M_in]
  cases q1 : inR a 0 (nI ns - 1)
  · exact ⟨σ, τ, -1, by simp [bI], by simp [bI], h0⟩
  cases q2 : inR c 0 9999
  · exact ⟨σ, τ, -1, by simp [bI], by simp [bI], h0⟩
  cases q3 : inR e (-2) (nI np - 1)
  · exact ⟨σ, τ, -1, by simp [bI], by simp [bI], h0⟩
  obtain ⟨s, hs, rfl⟩ := inR_n (by omega) q1
  obtain ⟨t0, ht, rfl⟩ := inR_m (n := 9999) (by omega) q2
  have hM := rM_m hm
  have hS := rM_mS hm hs
  have okPs : ∀ k, k < np → okP (Ps k) := fun k hk => (hM.2.2 k hk).2.2
  obtain ⟨σ1, a1, a2, a3⟩ := C_find (q := 15 + s) ht (by omega) (rM_c hm) (rM_cS hm hs)
  obtain ⟨τ1, b1, b2, b3⟩ := M_table ht hM hS
  have vd : ∀ x, x < 100 → val (dN Ps (Ss s) t0 np np x) := fun x hx => d_val okPs hS.2.2 _ _ (by omega) (by omega)
  have row : ∀ x, x < 100 → τ1.2.1 9 x = nI (vR t0 (dN Ps (Ss s) t0 np np x)) := fun x hx => by
    have := b3 0 (by omega) (by omega) x (by omega)
    rw [Nat.mul_zero, Nat.zero_add, Nat.sub_zero] at this
    exact this
  obtain ⟨b, c1, c2⟩ := M_begL (x1 := nI s) (x3 := e) ht vd row 99 cr_fuel 1 0 (by omega) (by rw [cr_fuel_v]; omega) ⟨by omega, fun x hx => by
    have : x = 0 := by omega
    subst this
    exact Nat.le_refl _, fun x h1 h2 => absurd h1 (by omega)⟩
  rw [← n_0, ← n_1] at c1
  have hI := Inv_same h0 (s74_c a2) (b129_m b2)
  have mod : f_X11_soonest_B86 τ1 (nI s) (nI t0) e (nI b) = (if nI (vR t0 (dN Ps (Ss s) t0 np np b)) = 999999 then some (τ1, (-4)) else (if 0 ≤ e then f_X11_soonest_L135 cr_fuel τ1 (nI s) (nI t0) e (nI (vR t0 (dN Ps (Ss s) t0 np np b))) (nI b) 0 0 else some (τ1, if e = (-2) then nI (vR t0 (dN Ps (Ss s) t0 np np b)) else nI t0 + nI b))) := by
    unfold f_X11_soonest_B86
    rw [M_endOf (by have := c2.1; omega)]
    simp only [Option.bind_some, cr_let]
    rw [row b c2.1]
  have n10 : ¬ bI true = 0 := by decide
  have n11 : ¬ bI (true && true) = 0 := by decide
  rw [if_neg n11, if_neg n10, if_neg n10, if_neg n10, if_neg n10, b1, chk_i (by omega) (by omega), nI_clamp (by omega), a1]
  simp only [Option.bind_some]
  rw [c1, mod]
  have e99 : nI (vR t0 1000000) = 999999 := rfl
  rcases a3 with ⟨w1, w2⟩ | ⟨b', w1, w2, w3, w4, w5⟩
  · rw [w2 b c2.1, if_pos e99, if_pos (show rF σ1 74 4 = 1000000 from w1)]
    exact ⟨σ1, τ1, -4, rfl, rfl, hI⟩
  · have eb : b' = b := bg_one w1 c2
    subst eb
    have vb := vd b' w1.1
    have ne1 : ¬ rF σ1 74 4 = 1000000 := fun z => by
      have z' : nI (dN Ps (Ss s) t0 np np b') = nI 1000000 := w3.symm.trans z
      rw [eq_n (by omega) (by omega)] at z'
      omega
    have ne2 : ¬ nI (vR t0 (dN Ps (Ss s) t0 np np b')) = 999999 := fun z => by
      rw [← e99, vR_eq ht vb (Or.inl rfl)] at z
      omega
    have ev : vR t0 (dN Ps (Ss s) t0 np np b') = t0 + dN Ps (Ss s) t0 np np b' := if_neg (by omega)
    rw [if_neg ne1, if_neg ne2, show rF σ1 74 4 = _ from w3, show rF σ1 74 3 = _ from w4]
    rcases inR_h (by omega) q3 with rfl | rfl | ⟨w, hw, rfl⟩
    · rw [if_pos rfl, if_neg (by decide), if_pos rfl, ev, nI_add]
      exact ⟨σ1, τ1, _, rfl, rfl, hI⟩
    · rw [if_neg (by decide), if_pos rfl, if_neg (by decide), if_neg (by decide)]
      exact ⟨σ1, τ1, _, rfl, rfl, hI⟩
    · have m2 : ¬ nI w = -2 := fun q => by
        have := congrArg Int32.toInt q
        rw [nI_toInt (by omega)] at this
        have e : (-2 : Int32).toInt = -2 := rfl
        omega
      rw [if_neg m2, if_neg (m1_ne w (by omega)), chk_i (by omega) (by omega), rA_n (by omega), w5 w hw, if_pos (ge_0 (by omega))]
      obtain ⟨τ2, v1, v2⟩ := M_135 (s := s) (Ps := Ps) (S := Ss s) (w := w) (b := b') (e := dN Ps (Ss s) t0 np np b') ht hw w1.1 w2 (w + 1) cr_fuel 0 0 τ1 (by omega) (by rw [cr_fuel_v]; omega) (fun z => absurd z (by omega)) (b129_M b2 hM) (b129_S b2 hS) b3 rfl
      rw [← n_0] at v1
      have v1' : f_X11_soonest_L135 cr_fuel τ1 (nI s) (nI t0) (nI w) (nI (vR t0 (dN Ps (Ss s) t0 np np b'))) (nI b') 0 0 = some (τ2, nI (pcN Ps (Ss s) t0 np b' (dN Ps (Ss s) t0 np np b') w)) := v1
      exact ⟨σ1, τ2, _, rfl, v1', Inv_same hI cSame.rf (b12_m v2)⟩

/-! the loops of a strait's reading -/
def PA (σ τ : cr_S) (n : Nat) (Ps : Nat → Nat → Nat) : Prop := ∀ k, k < n → okP (Ps k) ∧ ∀ j, j < 5 → σ.1 (59 + k) j = nI (Ps k j) ∧ τ.2.1 6 (5 * k + j) = nI (Ps k j)
def SA (σ τ : cr_S) (n : Nat) (Ss : Nat → Nat → Nat) : Prop := ∀ k, k < n → okS (Ss k) ∧ ∀ j, j < 3 → σ.1 (65 + k) j = nI (Ss k j) ∧ τ.2.1 7 (3 * k + j) = nI (Ss k j)
def LH (nt : Nat) (ch : Nat → Nat) (σ τ : cr_S) (a np ns : Nat) (Ps Ss : Nat → Nat → Nat) : Prop := tpC σ nt ch ∧ tpM τ nt ch ∧ a ≤ nt ∧ σ.1 55 6 = nI a ∧ τ.1 0 13 = nI a ∧ τ.1 0 14 = 0 ∧ (σ.1 55 4 = nI np ∧ τ.1 0 17 = nI np ∧ np ≤ 6) ∧ (σ.1 55 5 = nI ns ∧ τ.1 0 18 = nI ns ∧ ns ≤ 5) ∧ PA σ τ np Ps ∧ SA σ τ ns Ss
theorem LH_rd {nt : Nat} {ch : Nat → Nat} {σ τ σ' τ' : cr_S} {a a' np ns : Nat} {Ps Ss : Nat → Nat → Nat} (h : LH nt ch σ τ a np ns Ps Ss) (ha : a' ≤ nt) (c : atC σ σ' a') (m : awM τ τ' a' false) : LH nt ch σ' τ' a' np ns Ps Ss := by
  obtain ⟨h1, h2, h3, h4, h5, h6, ⟨p1, p2, p3⟩, ⟨s1, s2, s3⟩, hp, hs⟩ := h
  refine ⟨tpC_at c h1, tpM_aw m h2, ha, c.2.2.2, m.2.2.1, m.2.2.2, ⟨(c.2.2.1 4 (by omega)).trans p1, (m.2.1 17 (by omega) (by omega)).trans p2, p3⟩, ⟨(c.2.2.1 5 (by omega)).trans s1, (m.2.1 18 (by omega) (by omega)).trans s2, s3⟩, fun k hk => ⟨(hp k hk).1, fun j hj => ?_⟩, fun k hk => ⟨(hs k hk).1, fun j hj => ?_⟩⟩
  · rw [c.2.1 _ (by omega), m.1]; exact (hp k hk).2 j hj
  · rw [c.2.1 _ (by omega), m.1]; exact (hs k hk).2 j hj
def frC (σ σ' : cr_S) : Prop := σ'.2 = σ.2 ∧ (∀ o, o ≠ 55 → (o < 59 ∨ 70 ≤ o) → σ'.1 o = σ.1 o) ∧ (∀ j, j ≠ 4 → j ≠ 5 → j ≠ 6 → σ'.1 55 j = σ.1 55 j)
def frM (τ τ' : cr_S) : Prop := (∀ j, j ≠ 13 → j ≠ 14 → j ≠ 17 → j ≠ 18 → τ'.1 0 j = τ.1 0 j) ∧ (∀ o, o ≠ 6 → o ≠ 7 → τ'.2.1 o = τ.2.1 o) ∧ τ'.2.2 = τ.2.2
theorem frC_tr {a b c : cr_S} (h : frC a b) (g : frC b c) : frC a c := ⟨g.1.trans h.1, fun o q1 q2 => (g.2.1 o q1 q2).trans (h.2.1 o q1 q2), fun j q1 q2 q3 => (g.2.2 j q1 q2 q3).trans (h.2.2 j q1 q2 q3)⟩
theorem frM_tr {a b c : cr_S} (h : frM a b) (g : frM b c) : frM a c := ⟨fun j q1 q2 q3 q4 => (g.1 j q1 q2 q3 q4).trans (h.1 j q1 q2 q3 q4), fun o q1 q2 => (g.2.1 o q1 q2).trans (h.2.1 o q1 q2), g.2.2.trans h.2.2⟩
theorem frC_at {σ σ' : cr_S} {a : Nat} (c : atC σ σ' a) : frC σ σ' := ⟨c.1, fun o q _ => c.2.1 o q, fun j _ _ q => c.2.2.1 j q⟩
theorem frM_aw {τ τ' : cr_S} {a : Nat} {w : Bool} (m : awM τ τ' a w) : frM τ τ' := ⟨fun j q1 q2 _ _ => m.2.1 j q1 q2, fun o _ _ => by rw [m.1], by rw [m.1]⟩
/-- how the reading ends -/
def EJ (nt : Nat) (σ τ : cr_S) (x y : Option (cr_S × Int32)) : Prop := ∃ σ' τ' a', a' ≤ nt ∧ frC σ σ' ∧ frM τ τ' ∧ σ'.1 55 6 = nI a' ∧ τ'.1 0 13 = nI a' ∧ ((x = some (σ', 0) ∧ y = f_X11_strait_B118 τ' 1) ∨ (x = some (σ', 1) ∧ y = f_X11_strait_B118 τ' 0 ∧ ∃ np ns Ps Ss, np ≤ 6 ∧ ns ≤ 5 ∧ σ'.1 55 4 = nI np ∧ σ'.1 55 5 = nI ns ∧ τ'.1 0 17 = nI np ∧ τ'.1 0 18 = nI ns ∧ PA σ' τ' np Ps ∧ SA σ' τ' ns Ss))
theorem EJ_tr {nt : Nat} {σ σ1 τ τ1 : cr_S} {x y : Option (cr_S × Int32)} (h : EJ nt σ1 τ1 x y) (c : frC σ σ1) (m : frM τ τ1) : EJ nt σ τ x y := by
  obtain ⟨σ', τ', a', h1, h2, h3, h4⟩ := h
  exact ⟨σ', τ', a', h1, frC_tr c h2, frM_tr m h3, h4⟩
theorem EJ_no {nt a : Nat} {σ σ1 τ τ1 : cr_S} (ha : a ≤ nt) (c : frC σ σ1) (m : frM τ τ1) (h6 : σ1.1 55 6 = nI a) (h3 : τ1.1 0 13 = nI a) (hw : τ1.1 0 14 = 1) : EJ nt σ τ (some (σ1, 0)) (f_X11_strait_B98 τ1) := by
  refine ⟨σ1, τ1, a, ha, c, m, h6, h3, Or.inl ⟨rfl, ?_⟩⟩
  unfold f_X11_strait_B98
  rw [if_neg (w_14 hw)]
  rfl
theorem EJ_end {nt a np ns : Nat} {ch : Nat → Nat} {σ τ : cr_S} {Ps Ss : Nat → Nat → Nat} (h : LH nt ch σ τ a np ns Ps Ss) : EJ nt σ τ (f_X7_isStrait_55_B103 σ) (f_X11_strait_B98 τ) := by
  have h0 := h
  obtain ⟨h1, h2, h3, h4, h5, h6, -⟩ := h
  obtain ⟨σ1, u1, u2⟩ := C_here h1 h4 h3
  obtain ⟨τ1, w1, w2⟩ := M_here h2 h5 h3
  have sk := sk_in (ch := ch) (nt := nt) (nt - a) a h3
  have hh := hr_in (a := skN ch nt (nt - a) a) (fun k hk => ⟨(h1.2.2 k hk).1, (h1.2.2 k hk).2.1⟩)
  have aw : awM τ τ1 (skN ch nt (nt - a) a) false := ⟨w2.1, fun j q _ => w2.2.1 j q, w2.2.2, (w2.2.1 14 (by omega)).trans h6⟩
  obtain ⟨-, -, -, -, -, -, ⟨p1, p2, p3⟩, ⟨s1, s2, s3⟩, hp, hs⟩ := LH_rd h0 sk.2 u2 aw
  unfold f_X7_isStrait_55_B103 f_X11_strait_B98
  rw [u1, if_pos (show rF τ 0 14 = 0 from h6), w1]
  simp only [Option.bind_some]
  refine ⟨σ1, τ1, _, sk.2, frC_at u2, frM_aw aw, u2.2.2.2, w2.2.2, ?_⟩
  by_cases z : hrN ch nt (skN ch nt (nt - a) a) = 0
  · rw [z, if_pos (show nI 0 = 0 from rfl), if_pos (show nI 0 = 0 from rfl), chk_t (by decide)]
    exact Or.inr ⟨rfl, rfl, np, ns, Ps, Ss, p3, s3, p1, s1, p2, s2, hp, hs⟩
  · have zn : ¬ nI (hrN ch nt (skN ch nt (nt - a) a)) = 0 := by rw [n_0, eq_n (by omega) (by omega)]; exact z
    rw [if_neg zn, if_neg zn, chk_t (by decide)]
    exact Or.inl ⟨rfl, rfl⟩
theorem C_L2_0 {σ : cr_S} {f : Nat} (hf : 0 < f) : f_X7_areShipsRead_55_L2 f σ 0 = some (σ, 1) := by
  obtain ⟨g, rfl⟩ : ∃ g, f = g + 1 := ⟨f - 1, by omega⟩
  rw [f_X7_areShipsRead_55_L2, if_pos rfl]
theorem M_L64_0 {τ : cr_S} {f : Nat} (hf : 0 < f) : f_X11_strait_L64 f τ 0 = f_X11_strait_B98 τ := by
  obtain ⟨g, rfl⟩ : ∃ g, f = g + 1 := ⟨f - 1, by omega⟩
  rw [f_X11_strait_L64, if_pos rfl]
theorem C_L17_0 {σ : cr_S} {f : Nat} (hf : 0 < f) : f_X7_isStrait_55_L17 f σ 0 = f_X7_isStrait_55_B85 σ := by
  obtain ⟨g, rfl⟩ : ∃ g, f = g + 1 := ⟨f - 1, by omega⟩
  rw [f_X7_isStrait_55_L17, if_pos rfl]
theorem M_L22_0 {τ : cr_S} {f : Nat} (hf : 0 < f) : f_X11_strait_L22 f τ 0 = f_X11_strait_B57 τ := by
  obtain ⟨g, rfl⟩ : ∃ g, f = g + 1 := ⟨f - 1, by omega⟩
  rw [f_X11_strait_L22, if_pos rfl]
/-- one more of them -/
def cons1 (k : Nat) (P : Nat → Nat) (Ps : Nat → Nat → Nat) : Nat → Nat → Nat := fun i => if i = k then P else Ps i
theorem LH_ship {nt : Nat} {ch : Nat → Nat} {σ τ σ' τ' : cr_S} {a a' np k : Nat} {P : Nat → Nat} {Ps Ss : Nat → Nat → Nat} (h : LH nt ch σ τ a np k Ps Ss) (hk : k < 5) (j1 : a' ≤ nt) (j3 : τ'.1 0 13 = nI a') (j4 : τ'.1 0 18 = nI (k + 1)) (j5 : ∀ j, j ≠ 13 → j ≠ 14 → j ≠ 18 → τ'.1 0 j = τ.1 0 j) (j6 : ∀ o, o ≠ 7 → τ'.2.1 o = τ.2.1 o) (j8 : σ'.2 = σ.2) (j9 : ∀ o, o ≠ 55 → o ≠ 65 + k → σ'.1 o = σ.1 o) (j10 : ∀ j, j ≠ 6 → σ'.1 55 j = σ.1 55 j) (j11 : σ'.1 55 6 = nI a') (p1 : okS P) (p3 : τ'.1 0 14 = 0) (p4 : ∀ j, j < 3 → σ'.1 (65 + k) j = nI (P j) ∧ τ'.2.1 7 (3 * k + j) = nI (P j)) (p5 : ∀ i, i < 3 * k → τ'.2.1 7 i = τ.2.1 7 i) : LH nt ch (sF σ' 55 5 (nI (k + 1))) τ' a' np (k + 1) Ps (cons1 k P Ss) := by
  obtain ⟨h1, h2, h3, h4, h5, h6, ⟨q1, q2, q3⟩, ⟨s1, s2, s3⟩, hp, hs⟩ := h
  refine ⟨⟨h1.1, by rw [sF_k (by omega), j10 3 (by omega)]; exact h1.2.1, fun i hi => by rw [sF_2, j8]; exact h1.2.2 i hi⟩, ⟨h2.1, (j5 12 (by omega) (by omega) (by omega)).trans h2.2.1, fun i hi => by rw [j6 5 (by omega)]; exact h2.2.2 i hi⟩, j1, by rw [sF_k (by omega)]; exact j11, j3, p3, ⟨by rw [sF_k (by omega), j10 4 (by omega)]; exact q1, (j5 17 (by omega) (by omega) (by omega)).trans q2, q3⟩, ⟨sF_s, j4, by omega⟩, fun i hi => ⟨(hp i hi).1, fun j hj => ?_⟩, fun i hi => ?_⟩
  · rw [sF_o (by omega), j9 _ (by omega) (by omega), j6 6 (by omega)]; exact (hp i hi).2 j hj
  · unfold cons1
    by_cases e : i = k
    · subst e
      rw [if_pos rfl]
      exact ⟨p1, fun j hj => by rw [sF_o (by omega)]; exact p4 j hj⟩
    · rw [if_neg e]
      exact ⟨(hs i (by omega)).1, fun j hj => by rw [sF_o (by omega), j9 _ (by omega) (by omega), p5 _ (by omega)]; exact (hs i (by omega)).2 j hj⟩
theorem LH_pair {nt : Nat} {ch : Nat → Nat} {σ τ σ' τ' : cr_S} {a a' ns k : Nat} {P : Nat → Nat} {Ps Ss : Nat → Nat → Nat} (h : LH nt ch σ τ a k ns Ps Ss) (hk : k < 6) (j1 : a' ≤ nt) (j3 : τ'.1 0 13 = nI a') (j4 : τ'.1 0 17 = nI (k + 1)) (j5 : ∀ j, j ≠ 13 → j ≠ 14 → j ≠ 17 → τ'.1 0 j = τ.1 0 j) (j6 : ∀ o, o ≠ 6 → τ'.2.1 o = τ.2.1 o) (j8 : σ'.2 = σ.2) (j9 : ∀ o, o ≠ 55 → o ≠ 59 + k → σ'.1 o = σ.1 o) (j10 : ∀ j, j ≠ 6 → σ'.1 55 j = σ.1 55 j) (j11 : σ'.1 55 6 = nI a') (p1 : okP P) (p3 : τ'.1 0 14 = 0) (p4 : ∀ j, j < 5 → σ'.1 (59 + k) j = nI (P j) ∧ τ'.2.1 6 (5 * k + j) = nI (P j)) (p5 : ∀ i, i < 5 * k → τ'.2.1 6 i = τ.2.1 6 i) : LH nt ch (sF σ' 55 4 (nI (k + 1))) τ' a' (k + 1) ns (cons1 k P Ps) Ss := by
  obtain ⟨h1, h2, h3, h4, h5, h6, ⟨q1, q2, q3⟩, ⟨s1, s2, s3⟩, hp, hs⟩ := h
  refine ⟨⟨h1.1, by rw [sF_k (by omega), j10 3 (by omega)]; exact h1.2.1, fun i hi => by rw [sF_2, j8]; exact h1.2.2 i hi⟩, ⟨h2.1, (j5 12 (by omega) (by omega) (by omega)).trans h2.2.1, fun i hi => by rw [j6 5 (by omega)]; exact h2.2.2 i hi⟩, j1, by rw [sF_k (by omega)]; exact j11, j3, p3, ⟨sF_s, j4, by omega⟩, ⟨by rw [sF_k (by omega), j10 5 (by omega)]; exact s1, (j5 18 (by omega) (by omega) (by omega)).trans s2, s3⟩, fun i hi => ?_, fun i hi => ⟨(hs i hi).1, fun j hj => ?_⟩⟩
  · unfold cons1
    by_cases e : i = k
    · subst e
      rw [if_pos rfl]
      exact ⟨p1, fun j hj => by rw [sF_o (by omega)]; exact p4 j hj⟩
    · rw [if_neg e]
      exact ⟨(hp i (by omega)).1, fun j hj => by rw [sF_o (by omega), j9 _ (by omega) (by omega), p5 _ (by omega)]; exact (hp i (by omega)).2 j hj⟩
  · rw [sF_o (by omega), j9 _ (by omega) (by omega), j6 7 (by omega)]; exact (hs i hi).2 j hj
noncomputable def aftS (x : Option (cr_S × Int32)) : Option (cr_S × Int32) := Option.bind x (fun q12 => (if q12.2 = 0 then some (q12.1, 0) else f_X7_isStrait_55_B103 q12.1))
theorem aft_1 (σ : cr_S) : aftS (some (σ, 1)) = f_X7_isStrait_55_B103 σ := by
  unfold aftS
  simp only [Option.bind_some]
  rw [if_neg (show ¬ (1 : Int32) = 0 by decide)]
theorem aft_0 (σ : cr_S) : aftS (some (σ, 0)) = some (σ, 0) := by
  unfold aftS
  simp only [Option.bind_some]
  rw [if_pos trivial]
theorem SL {nt np : Nat} {ch : Nat → Nat} {Ps : Nat → Nat → Nat} : ∀ (n f g k a : Nat) (σ τ : cr_S) (Ss : Nat → Nat → Nat), k + n = 5 → 0 < n → n < f → n < g → LH nt ch σ τ a np k Ps Ss → EJ nt σ τ (aftS (f_X7_areShipsRead_55_L2 f σ 1)) (f_X11_strait_L64 g τ 1)
  | 0, _, _, _, _, _, _, _, _, h0, _, _, _ => absurd h0 (by omega)
  | n + 1, f + 1, g + 1, k, a, σ, τ, Ss, hn, _, hf, hg, h => by
    have h0 := h
    obtain ⟨h1, h2, h3, h4, h5, h6, ⟨q1, q2, q3⟩, ⟨s1, s2, s3⟩, hp, hs⟩ := h
    obtain ⟨σ', τ', a', j1, j2, j3, j4, j5, j6, j7, j8, j9, j10, j11, j12⟩ := ship2 (k := k) (by omega) h1 h4 h2 h5 h6 s2 h3
    have n10 : ¬ (1 : Int32) = 0 := by decide
    rw [f_X7_areShipsRead_55_L2, f_X11_strait_L64, if_neg n10, if_neg n10, show rF σ 55 5 = _ from s1, if_neg (show ¬ (5 : Int32) ≤ nI k by rw [n_5, le_n (by omega) (by omega)]; omega), chk_i (by omega) (by omega), nI_clamp (by omega), j2]
    have fm : frM τ τ' := ⟨fun j q1 q2 q3 q4 => j5 j q1 q2 q4, fun o q1 q2 => j6 o q2, j7⟩
    rcases j12 with ⟨x1, x2⟩ | ⟨P, p1, p2, p3, p4, p5⟩
    · rw [x1]
      simp only [Option.bind_some]
      rw [if_pos trivial, aft_0]
      have e : (if 5 ≤ rF τ' 0 18 then f_X11_strait_B93 (f_X11_strait_L64 g) τ' else Option.bind (f_X11_has τ' 44) fun q50 => if q50.2 = 0 then f_X11_strait_B93 (f_X11_strait_L64 g) q50.1 else f_X11_strait_B94 (f_X11_strait_L64 g) q50.1 1) = f_X11_strait_B98 τ' := by
        rw [wHas x2]
        simp only [Option.bind_some]
        rw [if_pos trivial, ite_self]
        exact M_L64_0 (by omega)
      rw [e]
      exact EJ_no j1 ⟨j8, fun o q1 q2 => j9 o q1 (by omega), fun j q1 q2 q3 => j10 j q3⟩ fm j11 j3 x2
    · have LN := LH_ship h0 (by omega) j1 j3 j4 j5 j6 j8 j9 j10 j11 p1 p3 p4 p5
      have fc : frC σ (sF σ' 55 5 (nI (k + 1))) := ⟨j8, fun o q1 q2 => by rw [sF_o q1, j9 o q1 (by omega)], fun j q1 q2 q3 => by rw [sF_k q2, j10 j q3]⟩
      rw [p2]
      simp only [Option.bind_some, cr_let]
      rw [if_neg n10, show rF σ' 55 5 = nI k from (j10 5 (by omega)).trans s1, nI_1, show rF (sF σ' 55 5 (nI (k + 1))) 55 5 = nI (k + 1) from sF_s, show rF τ' 0 18 = _ from j4, n_5]
      by_cases full : 5 ≤ k + 1
      · have fl : nI 5 ≤ nI (k + 1) := by rw [le_n (by omega) (by omega)]; exact full
        rw [if_pos fl, if_pos fl]
        unfold f_X7_areShipsRead_55_B63 f_X7_areShipsRead_55_B64 f_X11_strait_B93 f_X11_strait_B94
        rw [C_L2_0 (by omega), M_L64_0 (by omega), aft_1]
        exact EJ_tr (EJ_end LN) fc fm
      · have fl : ¬ nI 5 ≤ nI (k + 1) := by rw [le_n (by omega) (by omega)]; exact full
        rw [if_neg fl, if_neg fl]
        obtain ⟨l1, l2, l3, l4, l5, l6, -⟩ := LN
        obtain ⟨σ2, τ2, a2, d, k1, k2, k3, k4, k5⟩ := has2 (c := 44) (x := 44) rfl (by omega) (by omega) l1 l4 l2 l5 l6 l3
        have LN2 := LH_rd (LH_ship h0 (by omega) j1 j3 j4 j5 j6 j8 j9 j10 j11 p1 p3 p4 p5) k1 k2 k5
        rw [k3, k4]
        simp only [Option.bind_some]
        unfold f_X7_areShipsRead_55_B63 f_X7_areShipsRead_55_B64 f_X11_strait_B93 f_X11_strait_B94
        cases d
        · rw [if_pos (show bI false = 0 from rfl), if_pos (show bI false = 0 from rfl), C_L2_0 (by omega), M_L64_0 (by omega), aft_1]
          exact EJ_tr (EJ_end LN2) (frC_tr fc (frC_at k2)) (frM_tr fm (frM_aw k5))
        · rw [if_neg (show ¬ bI true = 0 by decide), if_neg (show ¬ bI true = 0 by decide)]
          exact EJ_tr (SL n f g (k + 1) a2 σ2 τ2 _ (by omega) (by omega) (by omega) (by omega) LN2) (frC_tr fc (frC_at k2)) (frM_tr fm (frM_aw k5))
theorem EB {nt a np : Nat} {ch : Nat → Nat} {σ τ : cr_S} {Ps Ss : Nat → Nat → Nat} (h : LH nt ch σ τ a np 0 Ps Ss) : EJ nt σ τ (f_X7_isStrait_55_B85 σ) (f_X11_strait_B57 τ) := by
  have h0 := h
  obtain ⟨l1, l2, l3, l4, l5, l6, -⟩ := h
  obtain ⟨σ2, τ2, a2, d, k1, k2, k3, k4, k5⟩ := has2 (c := 59) (x := 59) rfl (by omega) (by omega) l1 l4 l2 l5 l6 l3
  have LN2 := LH_rd h0 k1 k2 k5
  unfold f_X7_isStrait_55_B85 f_X11_strait_B57
  rw [k3, k4]
  simp only [Option.bind_some, cr_let]
  cases d
  · rw [if_pos (show bI false = 0 from rfl), show bI false = 0 from rfl, M_L64_0 (by rw [cr_fuel_v]; omega)]
    exact EJ_tr (EJ_end LN2) (frC_at k2) (frM_aw k5)
  · rw [if_neg (show ¬ bI true = 0 by decide)]
    exact EJ_tr (SL 5 cr_fuel cr_fuel 0 a2 σ2 τ2 _ (by omega) (by omega) (by rw [cr_fuel_v]; omega) (by rw [cr_fuel_v]; omega) LN2) (frC_at k2) (frM_aw k5)
theorem PL {nt : Nat} {ch : Nat → Nat} {Ss : Nat → Nat → Nat} : ∀ (n f g k a : Nat) (σ τ : cr_S) (Ps : Nat → Nat → Nat), k + n = 6 → 0 < n → n < f → n < g → LH nt ch σ τ a k 0 Ps Ss → EJ nt σ τ (f_X7_isStrait_55_L17 f σ 1) (f_X11_strait_L22 g τ 1)
  | 0, _, _, _, _, _, _, _, _, h0, _, _, _ => absurd h0 (by omega)
  | n + 1, f + 1, g + 1, k, a, σ, τ, Ps, hn, _, hf, hg, h => by
    have h0 := h
    obtain ⟨h1, h2, h3, h4, h5, h6, ⟨q1, q2, q3⟩, ⟨s1, s2, s3⟩, hp, hs⟩ := h
    obtain ⟨σ', τ', a', j1, j2, j3, j4, j5, j6, j7, j8, j9, j10, j11, j12⟩ := pair2 (k := k) (by omega) h1 h4 h2 h5 h6 q2 h3
    have n10 : ¬ (1 : Int32) = 0 := by decide
    rw [f_X7_isStrait_55_L17, f_X11_strait_L22, if_neg n10, if_neg n10, show rF σ 55 4 = _ from q1, if_neg (show ¬ (6 : Int32) ≤ nI k by rw [n_6, le_n (by omega) (by omega)]; omega), chk_i (by omega) (by omega), nI_clamp (by omega), j2]
    have fm : frM τ τ' := ⟨fun j q1 q2 q3 q4 => j5 j q1 q2 q3, fun o q1 q2 => j6 o q1, j7⟩
    rcases j12 with ⟨x1, x2⟩ | ⟨P, p1, p2, p3, p4, p5⟩
    · rw [x1]
      simp only [Option.bind_some]
      rw [if_pos trivial]
      have e : (if 6 ≤ rF τ' 0 17 then f_X11_strait_B52 (f_X11_strait_L22 g) τ' else Option.bind (f_X11_has τ' 44) fun q54 => if q54.2 = 0 then f_X11_strait_B52 (f_X11_strait_L22 g) q54.1 else f_X11_strait_B53 (f_X11_strait_L22 g) q54.1 1) = f_X11_strait_B98 τ' := by
        rw [wHas x2]
        simp only [Option.bind_some]
        rw [if_pos trivial, ite_self]
        unfold f_X11_strait_B52 f_X11_strait_B53
        rw [M_L22_0 (by omega)]
        unfold f_X11_strait_B57
        rw [wHas x2]
        simp only [Option.bind_some, cr_let]
        exact M_L64_0 (by rw [cr_fuel_v]; omega)
      rw [e]
      exact EJ_no j1 ⟨j8, fun o q1 q2 => j9 o q1 (by omega), fun j q1 q2 q3 => j10 j q3⟩ fm j11 j3 x2
    · have LN := LH_pair h0 (by omega) j1 j3 j4 j5 j6 j8 j9 j10 j11 p1 p3 p4 p5
      have fc : frC σ (sF σ' 55 4 (nI (k + 1))) := ⟨j8, fun o q1 q2 => by rw [sF_o q1, j9 o q1 (by omega)], fun j q1 q2 q3 => by rw [sF_k q1, j10 j q3]⟩
      rw [p2]
      simp only [Option.bind_some, cr_let]
      rw [if_neg n10, show rF σ' 55 4 = nI k from (j10 4 (by omega)).trans q1, nI_1, show rF (sF σ' 55 4 (nI (k + 1))) 55 4 = nI (k + 1) from sF_s, show rF τ' 0 17 = _ from j4, n_6]
      by_cases full : 6 ≤ k + 1
      · have fl : nI 6 ≤ nI (k + 1) := by rw [le_n (by omega) (by omega)]; exact full
        rw [if_pos fl, if_pos fl]
        unfold f_X7_isStrait_55_B80 f_X7_isStrait_55_B81 f_X11_strait_B52 f_X11_strait_B53
        rw [C_L17_0 (by omega), M_L22_0 (by omega)]
        exact EJ_tr (EB LN) fc fm
      · have fl : ¬ nI 6 ≤ nI (k + 1) := by rw [le_n (by omega) (by omega)]; exact full
        rw [if_neg fl, if_neg fl]
        obtain ⟨l1, l2, l3, l4, l5, l6, -⟩ := LN
        obtain ⟨σ2, τ2, a2, d, k1, k2, k3, k4, k5⟩ := has2 (c := 44) (x := 44) rfl (by omega) (by omega) l1 l4 l2 l5 l6 l3
        have LN2 := LH_rd (LH_pair h0 (by omega) j1 j3 j4 j5 j6 j8 j9 j10 j11 p1 p3 p4 p5) k1 k2 k5
        rw [k3, k4]
        simp only [Option.bind_some]
        unfold f_X7_isStrait_55_B80 f_X7_isStrait_55_B81 f_X11_strait_B52 f_X11_strait_B53
        cases d
        · rw [if_pos (show bI false = 0 from rfl), if_pos (show bI false = 0 from rfl), C_L17_0 (by omega), M_L22_0 (by omega)]
          exact EJ_tr (EB LN2) (frC_tr fc (frC_at k2)) (frM_tr fm (frM_aw k5))
        · rw [if_neg (show ¬ bI true = 0 by decide), if_neg (show ¬ bI true = 0 by decide)]
          exact EJ_tr (PL n f g (k + 1) a2 σ2 τ2 _ (by omega) (by omega) (by omega) (by omega) LN2) (frC_tr fc (frC_at k2)) (frM_tr fm (frM_aw k5))

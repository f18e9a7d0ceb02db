/-! the readers of a strait, both side by side; once wrong, the reference stays -/
theorem sF_id {σ : cr_S} {o k : Nat} {v : Int32} (h : σ.1 o k = v) : sF σ o k v = σ := by
  have e : (sF σ o k v).1 = σ.1 := funext fun o' => funext fun k' => by
    rw [sF_1]
    by_cases q : o' = o ∧ k' = k
    · rw [if_pos q, q.1, q.2, h]
    · rw [if_neg q]
  exact Prod.ext e rfl
theorem w_14 {τ : cr_S} (h : τ.1 0 14 = 1) : ¬ rF τ 0 14 = 0 := by
  rw [show rF τ 0 14 = _ from h]; decide
theorem wNum {τ : cr_S} {x y : Int32} (h : τ.1 0 14 = 1) : f_X11_number τ x y = some (τ, 0) := by
  unfold f_X11_number f_X11_number_B24
  rw [if_neg (w_14 h)]
  simp only [cr_let]
  rw [sF_id h]
theorem wMust {τ : cr_S} {x : Int32} (h : τ.1 0 14 = 1) : f_X11_must τ x = some τ := by
  unfold f_X11_must f_X11_must_B16 f_X11_must_B21
  rw [if_neg (w_14 h), chk_t (by decide)]
  simp only [cr_let]
  rw [sF_id h]
theorem wHas {τ : cr_S} {x : Int32} (h : τ.1 0 14 = 1) : f_X11_has τ x = some (τ, 0) := by
  unfold f_X11_has f_X11_has_B19 f_X11_has_B20 f_X11_has_B35
  rw [if_neg (w_14 h)]
  simp only [cr_let]
  rw [if_pos trivial, Int32.add_zero, sF_id (v := rF τ 0 13) rfl, chk_t (by decide)]
theorem wDig {τ : cr_S} {x : Int32} (h : τ.1 0 14 = 1) : f_X11_digit τ x = some (τ, 0) := by
  unfold f_X11_digit f_X11_digit_B18 f_X11_digit_B38 f_X11_digit_B43 f_X11_digit_B63
  rw [if_neg (w_14 h), if_neg (w_14 h), chk_t (by decide)]
  simp only [cr_let]
  rw [sF_id h, if_neg (w_14 h), Int32.add_zero, sF_id (v := rF τ 0 13) rfl]
theorem tpC_at {σ σ' : cr_S} {nt a : Nat} {ch : Nat → Nat} (h : atC σ σ' a) (t : tpC σ nt ch) : tpC σ' nt ch :=
  ⟨t.1, (h.2.2.1 3 (by omega)).trans t.2.1, fun k hk => by rw [h.1]; exact t.2.2 k hk⟩
theorem tpM_aw {τ τ' : cr_S} {nt a : Nat} {w : Bool} {ch : Nat → Nat} (h : awM τ τ' a w) (t : tpM τ nt ch) : tpM τ' nt ch :=
  ⟨t.1, (h.2.1 12 (by omega) (by omega)).trans t.2.1, fun k hk => by rw [h.1]; exact t.2.2 k hk⟩
theorem tpM_at {τ τ' : cr_S} {nt a : Nat} {ch : Nat → Nat} (h : atM τ τ' a) (t : tpM τ nt ch) : tpM τ' nt ch :=
  ⟨t.1, (h.2.1 12 (by omega)).trans t.2.1, fun k hk => by rw [h.1]; exact t.2.2 k hk⟩
theorem tpM_sA {τ : cr_S} {nt o : Nat} {i v : Int32} {ch : Nat → Nat} (ho : 5 ≠ o) (t : tpM τ nt ch) : tpM (sA τ o i v) nt ch :=
  ⟨t.1, t.2.1, fun k hk => by rw [sA_o ho]; exact t.2.2 k hk⟩
theorem atC_tr {a b c : cr_S} {x y : Nat} (h : atC a b x) (g : atC b c y) : atC a c y :=
  ⟨g.1.trans h.1, fun o q => (g.2.1 o q).trans (h.2.1 o q), fun j q => (g.2.2.1 j q).trans (h.2.2.1 j q), g.2.2.2⟩
theorem en_no {ch : Nat → Nat} {nt st : Nat} (h : ¬ dgN ch nt st = true) : ∀ n, enN ch nt n st = st
  | 0 => rfl
  | n + 1 => by rw [enN, if_neg h]
theorem inR_v {v lo hi : Nat} (hv : v < 1000000) (hl : lo < 1000000) (hh : hi < 1000000) : inR (nI v) (nI lo) (nI hi) = decide (lo ≤ v ∧ v ≤ hi) := by
  unfold inR
  congr 1
  rw [le_n (by omega) (by omega), le_n (by omega) (by omega)]
theorem num2 {σ τ : cr_S} {nt a lo hi : Nat} {ch : Nat → Nat} {x1 x2 : Int32} (e1 : x1 = nI lo) (e2 : x2 = nI hi) (hl : lo ≤ 9998) (hh : hi ≤ 9998) (tc : tpC σ nt ch) (h6 : σ.1 55 6 = nI a) (tm : tpM τ nt ch) (h3 : τ.1 0 13 = nI a) (hw : τ.1 0 14 = 0) (ha : a ≤ nt) : ∃ σ' τ' a', a' ≤ nt ∧ atC σ σ' a' ∧ ((∃ v, lo ≤ v ∧ v ≤ hi ∧ f_X7_numberRead_55 σ x1 x2 = some (σ', nI v) ∧ f_X11_number τ x1 x2 = some (τ', nI v) ∧ awM τ τ' a' false) ∨ (∃ r, f_X7_numberRead_55 σ x1 x2 = some (σ', -1) ∧ f_X11_number τ x1 x2 = some (τ', r) ∧ awM τ τ' a' true)) := by
  subst e1 e2
  have n1 := tc.1
  obtain ⟨σ1, u1, u2⟩ := C_here tc h6 ha
  obtain ⟨τ1, w1, w2⟩ := M_here tm h3 ha
  have sk := sk_in (ch := ch) (nt := nt) (nt - a) a ha
  generalize skN ch nt (nt - a) a = st at u1 u2 w1 w2 sk
  have tc1 := tpC_at u2 tc
  have tm1 := tpM_at w2 tm
  have hw1 : τ1.1 0 14 = 0 := (w2.2.1 14 (by omega)).trans hw
  obtain ⟨σ2, v1, v2⟩ := C_numL (st := st) (lo := lo) (x2 := nI hi) (nt - st) cr_fuel st 0 σ1 (by omega) (by rw [cr_fuel_v]; omega) (by omega) tc1 u2.2.2.2
  obtain ⟨τ2, y1, y2⟩ := M_numL (x1 := nI lo) (x2 := nI hi) (x3 := nI st) (nt - st) cr_fuel st 0 τ1 (by omega) (by rw [cr_fuel_v]; omega) (by omega) tm1 w2.2.2
  have en := en_in (ch := ch) (nt := nt) (nt - st) st (by omega)
  have vr := v_rel (ch := ch) (nt := nt) (nt - st) st 0 0 (Or.inl ⟨by omega, rfl⟩)
  have C1 : f_X7_numberRead_55 σ (nI lo) (nI hi) = f_X7_numberRead_55_B82 σ2 (nI lo) (nI hi) (nI st) (nI (vC ch nt (nt - st) st 0)) := by
    unfold f_X7_numberRead_55
    rw [u1]
    simp only [Option.bind_some, cr_let]
    rw [show rF σ1 55 6 = _ from u2.2.2.2]
    exact v1
  by_cases dg : dgN ch nt st = true
  · have d := of_decide_eq_true dg
    have hr : hrN ch nt st = ch st := if_pos d.1
    have st1 : st < enN ch nt (nt - st) st := by
      obtain ⟨n, hn⟩ : ∃ n, nt - st = n + 1 := ⟨nt - st - 1, by omega⟩
      rw [hn, enN, if_pos dg]
      have := en_in (ch := ch) (nt := nt) n (st + 1) (by omega)
      omega
    have M1 : f_X11_number τ (nI lo) (nI hi) = f_X11_number_B118 τ2 (nI lo) (nI hi) (nI st) (nI (vM ch nt (nt - st) st 0)) := by
      unfold f_X11_number
      rw [if_pos (show rF τ 0 14 = 0 from hw), w1, hr]
      simp only [Option.bind_some]
      rw [L_48, L_57, M_in, in_dg (by omega), decide_eq_true d.2]
      simp only [Option.bind_some, cr_let]
      rw [if_neg (by decide), show rF τ1 0 13 = _ from w2.2.2]
      exact y1
    generalize vC ch nt (nt - st) st 0 = c at vr C1
    generalize vM ch nt (nt - st) st 0 = r at vr M1
    generalize enN ch nt (nt - st) st = e at v2 y2 en st1
    have hc : c < 1000000 := by rcases vr with q | q <;> omega
    have hr2 : r < 1000000 := by rcases vr with q | q <;> omega
    have hw2 : τ2.1 0 14 = 0 := (y2.2.1 14 (by omega)).trans hw1
    unfold f_X7_numberRead_55_B82 at C1
    rw [show rF σ2 55 6 = _ from v2.2.2.2, if_neg (by rw [eq_n (by omega) (by omega)]; omega), C_within, inR_v hc (by omega) (by omega)] at C1
    unfold f_X11_number_B118 at M1
    rw [M_in, inR_v hr2 (by omega) (by omega)] at M1
    simp only [Option.bind_some] at C1 M1
    unfold f_X11_number_B137 f_X11_number_B156 at M1
    simp only [cr_let] at M1
    by_cases z : lo ≤ c ∧ c ≤ hi
    · have zr : lo ≤ r ∧ r ≤ hi := by rcases vr with q | q <;> omega
      have rc : r = c := by rcases vr with q | q <;> omega
      rw [decide_eq_true z, if_neg (by decide)] at C1
      rw [decide_eq_true zr, if_neg (show ¬ bI true = 0 by decide), chk_t (by decide), show rF (sF τ2 0 14 0) 0 14 = 0 from sF_s, if_pos rfl, show rF (sF τ2 0 14 0) 0 13 = nI e from (sF_k (by omega)).trans y2.2.2, sF_id hw2, rc] at M1
      refine ⟨σ2, sF τ2 0 13 (nI e), e, en.2, atC_tr u2 v2, Or.inl ⟨c, z.1, z.2, C1, M1, y2.1.trans w2.1, fun j q1 q2 => by rw [sF_k q1, y2.2.1 j q1, w2.2.1 j q1], sF_s, by rw [sF_k (by omega), hw2]; rfl⟩⟩
    · have zr : ¬ (lo ≤ r ∧ r ≤ hi) := by rcases vr with q | q <;> omega
      rw [decide_eq_false z, if_pos (by decide)] at C1
      unfold f_X7_numberRead_55_B100 at C1
      rw [decide_eq_false zr, if_pos (show bI false = 0 by decide), chk_t (by decide), show rF (sF τ2 0 14 1) 0 14 = 1 from sF_s, if_neg (by decide)] at M1
      refine ⟨sF σ2 55 6 (nI st), sF (sF τ2 0 14 1) 0 13 (nI st), st, sk.2, atC_tr u2 (atC_tr v2 ⟨rfl, fun o ho => by rw [sF_o ho], fun j hj => by rw [sF_k hj], sF_s⟩), Or.inr ⟨nI r, C1, M1, y2.1.trans w2.1, fun j q1 q2 => by rw [sF_k q1, sF_k q2, y2.2.1 j q1, w2.2.1 j q1], sF_s, by rw [sF_k (by omega), sF_s]; rfl⟩⟩
  · have hr : decide (48 ≤ hrN ch nt st ∧ hrN ch nt st ≤ 57) = false := decide_eq_false (fun q => by
      unfold hrN at q
      by_cases z : st < nt
      · rw [if_pos z] at q
        exact dg (decide_eq_true ⟨z, q⟩)
      · rw [if_neg z] at q
        omega)
    have hb := hr_in (a := st) (fun k hk => ⟨(tc.2.2 k hk).1, (tc.2.2 k hk).2.1⟩)
    have M1 : f_X11_number τ (nI lo) (nI hi) = some (sF τ1 0 14 1, 0) := by
      unfold f_X11_number f_X11_number_B24
      rw [if_pos (show rF τ 0 14 = 0 from hw), w1]
      simp only [Option.bind_some]
      rw [L_48, L_57, M_in, in_dg (by omega), hr]
      simp only [Option.bind_some, cr_let]
      rw [if_pos (by decide)]
    rw [en_no dg] at v2
    unfold f_X7_numberRead_55_B82 f_X7_numberRead_55_B100 at C1
    rw [if_pos (show rF σ2 55 6 = _ from v2.2.2.2)] at C1
    simp only [cr_let] at C1
    rw [sF_id v2.2.2.2] at C1
    exact ⟨σ2, sF τ1 0 14 1, st, sk.2, atC_tr u2 v2, Or.inr ⟨0, C1, M1, w2.1, fun j q1 q2 => by rw [sF_k q2, w2.2.1 j q1], by rw [sF_k (by omega)]; exact w2.2.2, sF_s⟩⟩
theorem sk_hr {ch : Nat → Nat} {nt c s : Nat} (hs : s ≤ nt) (hc : 0 < c) : s + b2n (decide (hrN ch nt s = c)) ≤ nt := by
  by_cases z : hrN ch nt s = c
  · rw [decide_eq_true z]
    unfold hrN at z
    by_cases y : s < nt
    · show s + 1 ≤ nt
      omega
    · rw [if_neg y] at z
      omega
  · rw [decide_eq_false z]
    exact hs
theorem has2 {σ τ : cr_S} {nt a c : Nat} {ch : Nat → Nat} {x : Int32} (e : x = nI c) (hc : 0 < c) (hc2 : c < 1000) (tc : tpC σ nt ch) (h6 : σ.1 55 6 = nI a) (tm : tpM τ nt ch) (h3 : τ.1 0 13 = nI a) (hw : τ.1 0 14 = 0) (ha : a ≤ nt) : ∃ σ' τ' a' d, a' ≤ nt ∧ atC σ σ' a' ∧ f_X7_isTaken_55 σ x = some (σ', bI d) ∧ f_X11_has τ x = some (τ', bI d) ∧ awM τ τ' a' false := by
  subst e
  obtain ⟨σ1, u1, u2⟩ := C_taken tc h6 ha hc2
  obtain ⟨τ1, w1, w2⟩ := M_has tm h3 hw ha hc2
  have sk := sk_in (ch := ch) (nt := nt) (nt - a) a ha
  exact ⟨σ1, τ1, _, _, sk_hr sk.2 hc, u2, u1, w1, w2.1, fun j q _ => w2.2.1 j q, w2.2.2, (w2.2.1 14 (by omega)).trans hw⟩
theorem must2 {σ τ : cr_S} {nt a c : Nat} {ch : Nat → Nat} {x : Int32} (e : x = nI c) (hc : 0 < c) (hc2 : c < 1000) (tc : tpC σ nt ch) (h6 : σ.1 55 6 = nI a) (tm : tpM τ nt ch) (h3 : τ.1 0 13 = nI a) (hw : τ.1 0 14 = 0) (ha : a ≤ nt) : ∃ σ' τ' a', a' ≤ nt ∧ atC σ σ' a' ∧ ((f_X7_isTaken_55 σ x = some (σ', 1) ∧ f_X11_must τ x = some τ' ∧ awM τ τ' a' false) ∨ (f_X7_isTaken_55 σ x = some (σ', 0) ∧ f_X11_must τ x = some τ' ∧ awM τ τ' a' true)) := by
  obtain ⟨σ1, τ1, a1, d, k1, k2, k3, k4, k5⟩ := has2 e hc hc2 tc h6 tm h3 hw ha
  have M1 : f_X11_must τ x = f_X11_must_B21 τ1 (if bI d = 0 then 1 else 0) := by
    unfold f_X11_must
    rw [if_pos (show rF τ 0 14 = 0 from hw), k4]
    rfl
  unfold f_X11_must_B21 at M1
  cases d
  · rw [if_pos (by decide), chk_t (by decide)] at M1
    simp only [cr_let] at M1
    exact ⟨σ1, sF τ1 0 14 1, a1, k1, k2, Or.inr ⟨k3, M1, k5.1, fun j q1 q2 => by rw [sF_k q2, k5.2.1 j q1 q2], by rw [sF_k (by omega)]; exact k5.2.2.1, sF_s⟩⟩
  · rw [if_neg (by decide), chk_t (by decide)] at M1
    simp only [cr_let] at M1
    rw [sF_id (show τ1.1 0 14 = 0 from k5.2.2.2)] at M1
    exact ⟨σ1, τ1, a1, k1, k2, Or.inl ⟨k3, M1, k5⟩⟩
theorem kind2p {σ τ : cr_S} {nt a : Nat} {ch : Nat → Nat} (tc : tpC σ nt ch) (h6 : σ.1 55 6 = nI a) (tm : tpM τ nt ch) (h3 : τ.1 0 13 = nI a) (hw : τ.1 0 14 = 0) (ha : a ≤ nt) : ∃ σ' τ' a', a' ≤ nt ∧ atC σ σ' a' ∧ ((∃ j, j ≤ 3 ∧ f_X7_kindRead_55_100 σ = some (σ', nI j) ∧ f_X11_letter τ 112 115 116 102 = some (τ', nI j) ∧ awM τ τ' a' false) ∨ (f_X7_kindRead_55_100 σ = some (σ', -1) ∧ f_X11_letter τ 112 115 116 102 = some (τ', -4) ∧ awM τ τ' a' true)) := by
  obtain ⟨σ1, u1, u2⟩ := C_kind_100 tc h6 ha
  obtain ⟨τ1, w1, w2⟩ := M_letter (l0 := 112) (l1 := 115) (l2 := 116) (l3 := 102) tm h3 hw ha (by omega) (by omega) (by omega) (by omega)
  have sk := sk_in (ch := ch) (nt := nt) (nt - a) a ha
  cases y : kiN 112 115 116 102 (hrN ch nt (skN ch nt (nt - a) a)) with
  | none =>
    rw [y] at u1 u2 w1 w2
    exact ⟨σ1, τ1, _, sk.2, u2, Or.inr ⟨u1, w1, w2⟩⟩
  | some j =>
    have hj := ki_in y
    have lt : skN ch nt (nt - a) a < nt := by
      rcases Nat.lt_or_ge (skN ch nt (nt - a) a) nt with q | q
      · exact q
      · rw [show hrN ch nt (skN ch nt (nt - a) a) = 0 from if_neg (by omega)] at y
        cases y
    rw [y] at u1 u2 w1 w2
    exact ⟨σ1, τ1, _, lt, u2, Or.inl ⟨j, by omega, u1, w1, w2⟩⟩
theorem kind2s {σ τ : cr_S} {nt a : Nat} {ch : Nat → Nat} (tc : tpC σ nt ch) (h6 : σ.1 55 6 = nI a) (tm : tpM τ nt ch) (h3 : τ.1 0 13 = nI a) (hw : τ.1 0 14 = 0) (ha : a ≤ nt) : ∃ σ' τ' a', a' ≤ nt ∧ atC σ σ' a' ∧ ((∃ j, j ≤ 3 ∧ f_X7_kindRead_55_101 σ = some (σ', nI j) ∧ f_X11_letter τ 80 84 66 76 = some (τ', nI j) ∧ awM τ τ' a' false) ∨ (f_X7_kindRead_55_101 σ = some (σ', -1) ∧ f_X11_letter τ 80 84 66 76 = some (τ', -4) ∧ awM τ τ' a' true)) := by
  obtain ⟨σ1, u1, u2⟩ := C_kind_101 tc h6 ha
  obtain ⟨τ1, w1, w2⟩ := M_letter (l0 := 80) (l1 := 84) (l2 := 66) (l3 := 76) tm h3 hw ha (by omega) (by omega) (by omega) (by omega)
  have sk := sk_in (ch := ch) (nt := nt) (nt - a) a ha
  cases y : kiN 80 84 66 76 (hrN ch nt (skN ch nt (nt - a) a)) with
  | none =>
    rw [y] at u1 u2 w1 w2
    exact ⟨σ1, τ1, _, sk.2, u2, Or.inr ⟨u1, w1, w2⟩⟩
  | some j =>
    have hj := ki_in y
    have lt : skN ch nt (nt - a) a < nt := by
      rcases Nat.lt_or_ge (skN ch nt (nt - a) a) nt with q | q
      · exact q
      · rw [show hrN ch nt (skN ch nt (nt - a) a) = 0 from if_neg (by omega)] at y
        cases y
    rw [y] at u1 u2 w1 w2
    exact ⟨σ1, τ1, _, lt, u2, Or.inl ⟨j, by omega, u1, w1, w2⟩⟩
theorem dig2 {σ τ : cr_S} {nt a m : Nat} {ch : Nat → Nat} {x : Int32} (e : x = nI m) (hm : m ≤ 9) (tc : tpC σ nt ch) (h6 : σ.1 55 6 = nI a) (tm : tpM τ nt ch) (h3 : τ.1 0 13 = nI a) (hw : τ.1 0 14 = 0) (ha : a ≤ nt) : ∃ σ' τ' a', a' ≤ nt ∧ atC σ σ' a' ∧ ((∃ v, 1 ≤ v ∧ v ≤ m ∧ f_X7_digitRead_55 σ x = some (σ', nI v) ∧ f_X11_digit τ x = some (τ', nI v) ∧ awM τ τ' a' false) ∨ (∃ r, f_X7_digitRead_55 σ x = some (σ', -1) ∧ f_X11_digit τ x = some (τ', r) ∧ awM τ τ' a' true)) := by
  subst e
  obtain ⟨σ1, u1, u2⟩ := C_digit (m := m) tc h6 ha
  obtain ⟨τ1, w1, w2⟩ := M_digit (m := m) tm h3 hw ha
  have sk := sk_in (ch := ch) (nt := nt) (nt - a) a ha
  cases y : dgB (hrN ch nt (skN ch nt (nt - a) a)) m with
  | false =>
    rw [y] at u1 u2 w2
    exact ⟨σ1, τ1, _, sk.2, u2, Or.inr ⟨_, u1, w1, w2⟩⟩
  | true =>
    have lt : skN ch nt (nt - a) a < nt := by
      rcases Nat.lt_or_ge (skN ch nt (nt - a) a) nt with q | q
      · exact q
      · rw [show hrN ch nt (skN ch nt (nt - a) a) = 0 from if_neg (by omega)] at y
        unfold dgB inR at y
        exact absurd (of_decide_eq_true y).1 (by decide)
    rw [y] at u1 u2 w2
    obtain ⟨v, q1, q2, q3⟩ := inR_l (l := 1) (n := m) (by omega) (by omega) y
    rw [q3] at u1 w1
    exact ⟨σ1, τ1, _, lt, u2, Or.inl ⟨v, q1, q2, u1, w1, w2⟩⟩

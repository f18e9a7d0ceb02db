/-! the class's survey of what fits -/
def lkC (σ : cr_S) (nl : Nat) (W : Nat → Nat) (E : Nat → Bool) : Prop := σ.1 6 2 = nI nl ∧ nl ≤ 12 ∧ ∀ k, k < nl → σ.2.1 7 k = nI (W k) ∧ W k ≤ 9999 ∧ σ.2.1 8 k = bI (E k)
def g85 (σ σ' : cr_S) : Prop := σ'.2.2 = σ.2.2 ∧ (∀ o, o ≠ 85 → σ'.1 o = σ.1 o) ∧ ∀ o, o ≠ 86 → o ≠ 87 → σ'.2.1 o = σ.2.1 o
theorem g85_r {σ : cr_S} : g85 σ σ := ⟨rfl, fun _ _ => rfl, fun _ _ _ => rfl⟩
theorem g85_t {a b c : cr_S} (h : g85 a b) (g : g85 b c) : g85 a c := ⟨g.1.trans h.1, fun o q => (g.2.1 o q).trans (h.2.1 o q), fun o q1 q2 => (g.2.2 o q1 q2).trans (h.2.2 o q1 q2)⟩
theorem g85_l {σ σ' : cr_S} {nl : Nat} {W : Nat → Nat} {E : Nat → Bool} (b : g85 σ σ') (h : lkC σ nl W E) : lkC σ' nl W E := ⟨by rw [b.2.1 6 (by omega)]; exact h.1, h.2.1, fun k hk => by rw [b.2.2 7 (by omega) (by omega), b.2.2 8 (by omega) (by omega)]; exact h.2.2 k hk⟩
theorem g85_c {σ σ' : cr_S} (b : g85 σ σ') : cSame σ σ' := ⟨fun o j ho => by rw [b.2.1 o (by omega)], fun o j ho => by rw [b.2.2 o (by omega) (by omega)], b.1⟩
theorem C_fill86 : ∀ (n f i : Nat) (σ : cr_S), i + n = 24 → n < f → ∃ σ', f_J7_fill_53178_86_L5 f σ (nI 0) (nI i) (nI 24) = some σ' ∧ σ'.1 = σ.1 ∧ σ'.2.2 = σ.2.2 ∧ (∀ o, o ≠ 86 → σ'.2.1 o = σ.2.1 o) ∧ (∀ j, j < i → σ'.2.1 86 j = σ.2.1 86 j) ∧ ∀ j, i ≤ j → j < 24 → σ'.2.1 86 j = nI 0
  | 0, f + 1, i, σ, hi, hf => by
    refine ⟨σ, ?_, rfl, rfl, fun _ _ => rfl, fun _ _ => rfl, fun j q1 q2 => absurd q1 (by omega)⟩
    rw [f_J7_fill_53178_86_L5, if_pos (by rw [le_n (by omega) (by omega)]; omega)]
  | n + 1, f + 1, i, σ, hi, hf => by
    obtain ⟨σ2, u1, u2, u3, u4, u5, u6⟩ := C_fill86 n f (i + 1) (sA σ 86 (nI i) (nI 0)) (by omega) (by omega)
    refine ⟨σ2, ?_, u2, u3, fun o ho => (u4 o ho).trans (sA_o ho), fun j hj => by rw [u5 j (by omega), sA_k (by omega) (by omega)], fun j q1 q2 => ?_⟩
    · rw [f_J7_fill_53178_86_L5, if_neg (by rw [le_n (by omega) (by omega)]; omega), chk_i (by omega) (by omega), nI_1]
      exact u1
    · by_cases e : j = i
      · subst e
        rw [u5 j (by omega), sA_s (by omega)]
      · exact u6 j (by omega) q2
theorem C_fill87 : ∀ (n f i : Nat) (σ : cr_S), i + n = 60 → n < f → ∃ σ', f_J7_fill_53178_87_L5 f σ (nI 0) (nI i) (nI 60) = some σ' ∧ σ'.1 = σ.1 ∧ σ'.2.2 = σ.2.2 ∧ (∀ o, o ≠ 87 → σ'.2.1 o = σ.2.1 o) ∧ (∀ j, j < i → σ'.2.1 87 j = σ.2.1 87 j) ∧ ∀ j, i ≤ j → j < 60 → σ'.2.1 87 j = nI 0
  | 0, f + 1, i, σ, hi, hf => by
    refine ⟨σ, ?_, rfl, rfl, fun _ _ => rfl, fun _ _ => rfl, fun j q1 q2 => absurd q1 (by omega)⟩
    rw [f_J7_fill_53178_87_L5, if_pos (by rw [le_n (by omega) (by omega)]; omega)]
  | n + 1, f + 1, i, σ, hi, hf => by
    obtain ⟨σ2, u1, u2, u3, u4, u5, u6⟩ := C_fill87 n f (i + 1) (sA σ 87 (nI i) (nI 0)) (by omega) (by omega)
    refine ⟨σ2, ?_, u2, u3, fun o ho => (u4 o ho).trans (sA_o ho), fun j hj => by rw [u5 j (by omega), sA_k (by omega) (by omega)], fun j q1 q2 => ?_⟩
    · rw [f_J7_fill_53178_87_L5, if_neg (by rw [le_n (by omega) (by omega)]; omega), chk_i (by omega) (by omega), nI_1]
      exact u1
    · by_cases e : j = i
      · subst e
        rw [u5 j (by omega), sA_s (by omega)]
      · exact u6 j (by omega) q2
/-- the seconds of a round that were seen so -/
def cMs (W : Nat → Nat) (E : Nat → Bool) (b : Nat) (e : Bool) (k : Nat) (M : Int32) : Prop := ∀ r, r < 32 → (bt M r = true ↔ ∃ j, j < k ∧ E j = e ∧ W j % b = r)
theorem cMs_s {W : Nat → Nat} {E : Nat → Bool} {b k : Nat} {e : Bool} {M : Int32} (hb : 0 < b) (hb2 : b ≤ 24) (h : cMs W E b e k M) : cMs W E b e (k + 1) (M ||| (if E k = e then 1 <<< (nI (W k % b) &&& 31) else 0)) := by
  intro r hr
  have hm : W k % b < b := Nat.mod_lt _ hb
  rw [b_or, Bool.or_eq_true, h r hr]
  by_cases z : E k = e
  · rw [if_pos z, b_one _ (by omega) r hr, decide_eq_true_eq]
    constructor
    · rintro (⟨j, h1, h2⟩ | h1)
      · exact ⟨j, by omega, h2⟩
      · exact ⟨k, by omega, z, h1.symm⟩
    · rintro ⟨j, h1, h2, h3⟩
      by_cases y : j = k
      · subst y; exact Or.inr h3.symm
      · exact Or.inl ⟨j, by omega, h2, h3⟩
  · rw [if_neg z, b_0]
    constructor
    · rintro (⟨j, h1, h2⟩ | h1)
      · exact ⟨j, by omega, h2⟩
      · cases h1
    · rintro ⟨j, h1, h2, h3⟩
      by_cases y : j = k
      · subst y; exact absurd h2 z
      · exact Or.inl ⟨j, by omega, h2, h3⟩
theorem C_foldL {nl b : Nat} {W : Nat → Nat} {E : Nat → Bool} (hb : 0 < b) (hb2 : b ≤ 24) : ∀ (n f k : Nat) (σ : cr_S), k + n = nl → n < f → lkC σ nl W E → cMs W E b true k (σ.1 85 4) → cMs W E b false k (σ.1 85 5) → ∃ σ', f_X1_fold_85_6_L12 f σ (nI b) (nI k) = some σ' ∧ g85 σ σ' ∧ σ'.2 = σ.2 ∧ (∀ j, j ≠ 4 → j ≠ 5 → σ'.1 85 j = σ.1 85 j) ∧ cMs W E b true nl (σ'.1 85 4) ∧ cMs W E b false nl (σ'.1 85 5)
  | 0, f + 1, k, σ, hk, hf, hl, h4, h5 => by
    have hn := hl.2.1
    have e : k = nl := by omega
    subst e
    refine ⟨σ, ?_, g85_r, rfl, fun _ _ _ => rfl, h4, h5⟩
    rw [f_X1_fold_85_6_L12]
    simp only [rF, hl.1]
    rw [if_pos (by rw [le_n (by omega) (by omega)]; omega)]
  | n + 1, f + 1, k, σ, hk, hf, hl, h4, h5 => by
    have hn := hl.2.1
    obtain ⟨w1, w2, w3⟩ := hl.2.2 k (by omega)
    have G : g85 σ (sF (sF σ 85 4 (σ.1 85 4 ||| (if E k = true then 1 <<< (nI (W k % b) &&& 31) else 0))) 85 5 (σ.1 85 5 ||| (if E k = false then 1 <<< (nI (W k % b) &&& 31) else 0))) := ⟨rfl, fun o ho => by rw [sF_o ho, sF_o ho], fun _ _ _ => rfl⟩
    obtain ⟨σ2, u1, u2, u3, u4, u5, u6⟩ := C_foldL hb hb2 n f (k + 1) _ (by omega) (by omega) (g85_l G hl) (by rw [sF_k (by omega), sF_s]; exact cMs_s hb hb2 h4) (by rw [sF_s]; exact cMs_s hb hb2 h5)
    refine ⟨σ2, ?_, g85_t G u2, u3, fun j j4 j5 => by rw [u4 j j4 j5, sF_k j5, sF_k j4], u5, u6⟩
    have e8 : ∀ v, rA (sF σ 85 4 v) 8 (nI k) = bI (E k) := fun v => by rw [rA_n (by omega)]; exact w3
    have e5 : ∀ v, rF (sF σ 85 4 v) 85 5 = σ.1 85 5 := fun v => by unfold rF; rw [sF_k (by omega)]
    have e4 : rF σ 85 4 = σ.1 85 4 := rfl
    rw [f_X1_fold_85_6_L12, show rF σ 6 2 = nI nl from hl.1]
    rw [if_neg (by rw [le_n (by omega) (by omega)]; omega), if_neg (by rw [n_0, le_n (by omega) (by omega)]; omega), chk_i (by omega) (by omega), chk_0 hb (by omega), rA_n (by omega), w1, rem_n (by omega) hb (by omega)]
    simp only [cr_let]
    rw [chk_i (by omega) (by omega), rA_n (by omega), w3]
    unfold f_X1_fold_85_6_B57 f_X1_fold_85_6_B82
    simp only [cr_let]
    rw [chk_i (by omega) (by omega), e8, e5, e4, nI_1, ← u1]
    cases E k
    · rw [if_neg (by decide), if_neg (by decide), if_neg (by decide), if_pos rfl]
    · rw [if_pos (by decide), if_pos (by decide), if_pos rfl, if_neg (by decide)]
theorem C_fold {σ : cr_S} {nl b : Nat} {W : Nat → Nat} {E : Nat → Bool} (hb : 0 < b) (hb2 : b ≤ 24) (hl : lkC σ nl W E) : ∃ σ', f_X1_fold_85_6 σ (nI b) = some σ' ∧ g85 σ σ' ∧ σ'.2 = σ.2 ∧ (∀ j, j ≠ 4 → j ≠ 5 → σ'.1 85 j = σ.1 85 j) ∧ cMs W E b true nl (σ'.1 85 4) ∧ cMs W E b false nl (σ'.1 85 5) := by
  have hn := hl.2.1
  have G : g85 σ (sF (sF σ 85 4 0) 85 5 0) := ⟨rfl, fun o ho => by rw [sF_o ho, sF_o ho], fun _ _ _ => rfl⟩
  have z : ∀ e, cMs W E b e 0 0 := fun e r hr => by
    rw [b_0]
    constructor
    · intro h; cases h
    · rintro ⟨j, h1, -⟩; omega
  obtain ⟨σ2, u1, u2, u3, u4, u5, u6⟩ := C_foldL hb hb2 nl cr_fuel 0 _ (by omega) (by rw [cr_fuel_v]; omega) (g85_l G hl) (by rw [sF_k (by omega), sF_s]; exact z true) (by rw [sF_s]; exact z false)
  refine ⟨σ2, ?_, g85_t G u2, u3, fun j j4 j5 => by rw [u4 j j4 j5, sF_k j5, sF_k j4], u5, u6⟩
  rw [← n_0] at u1
  unfold f_X1_fold_85_6
  simp only [cr_let]
  exact u1
theorem ok_iff {nl b o p : Nat} {W : Nat → Nat} {E : Nat → Bool} {M S : Int32} (hb : 0 < b) (hb2 : b ≤ 24) (ho : o < b) (hp : p < b) (hM : cMs W E b true nl M) (hS : cMs W E b false nl S) : ((M &&& (mkI b o p ^^^ (-1))) = 0 ∧ (S &&& mkI b o p) = 0) ↔ okB W E nl b o p = true := by
  rw [and_not_0, and_0]
  unfold okB
  rw [al_iff]
  constructor
  · rintro ⟨h1, h2⟩ j - hj
    have hm : W j % b < b := Nat.mod_lt _ hb
    show (soB b o p (W j) == E j) = true
    cases y : E j
    · have := h2 (W j % b) (by omega) ((hS _ (by omega)).mpr ⟨j, by omega, y, rfl⟩)
      rw [mk_bit hb2 ho hp (by omega), decide_eq_true hm, Bool.true_and, so_mod] at this
      rw [this]; rfl
    · have := h1 (W j % b) (by omega) ((hM _ (by omega)).mpr ⟨j, by omega, y, rfl⟩)
      rw [mk_bit hb2 ho hp (by omega), decide_eq_true hm, Bool.true_and, so_mod] at this
      rw [this]; rfl
  · intro h
    constructor
    · intro r hr hm
      obtain ⟨j, j1, j2, j3⟩ := (hM r hr).mp hm
      have h' : (soB b o p (W j) == E j) = true := h j (by omega) (by omega)
      have hlt : W j % b < b := Nat.mod_lt _ hb
      rw [mk_bit hb2 ho hp hr, ← j3, decide_eq_true hlt, Bool.true_and, so_mod, eq_of_beq h', j2]
    · intro r hr hm
      obtain ⟨j, j1, j2, j3⟩ := (hS r hr).mp hm
      have h' : (soB b o p (W j) == E j) = true := h j (by omega) (by omega)
      have hlt : W j % b < b := Nat.mod_lt _ hb
      rw [mk_bit hb2 ho hp hr, ← j3, decide_eq_true hlt, Bool.true_and, so_mod, eq_of_beq h', j2]
theorem C_addL {r16 : cr_S → Int32 → Int32 → Int32 → Int32 → Int32 → Option cr_S} {b : Nat} {x2 x3 x4 x5 mk : Int32} {A : Nat → Nat} (hb2 : b ≤ 24) : ∀ (n f r : Nat) (σ : cr_S), r + n = b → n < f → (∀ j, r ≤ j → j < b → σ.2.1 86 j = nI (A j)) → ∃ σ', f_X1_surveyPhases_85_L108 r16 f σ (nI b) x2 x3 x4 x5 mk (nI r) = f_X1_surveyPhases_85_B137 r16 σ' (nI b) x2 x3 x4 x5 ∧ σ'.1 = σ.1 ∧ σ'.2.2 = σ.2.2 ∧ (∀ o, o ≠ 86 → σ'.2.1 o = σ.2.1 o) ∧ (∀ j, j < r → σ'.2.1 86 j = σ.2.1 86 j) ∧ ∀ j, r ≤ j → j < b → σ'.2.1 86 j = nI (A j + b2n (bt mk j))
  | 0, f + 1, r, σ, hr, hf, hA => by
    refine ⟨σ, ?_, rfl, rfl, fun _ _ => rfl, fun _ _ => rfl, fun j q1 q2 => absurd q1 (by omega)⟩
    rw [f_X1_surveyPhases_85_L108, if_pos (by rw [le_n (by omega) (by omega)]; omega)]
  | n + 1, f + 1, r, σ, hr, hf, hA => by
    obtain ⟨σ2, u1, u2, u3, u4, u5, u6⟩ := C_addL (r16 := r16) (x2 := x2) (x3 := x3) (x4 := x4) (x5 := x5) (mk := mk) (A := A) hb2 n f (r + 1) (sA σ 86 (nI r) (nI (A r + b2n (bt mk r)))) (by omega) (by omega) (fun j q1 q2 => by rw [sA_k (by omega) (by omega)]; exact hA j (by omega) q2)
    refine ⟨σ2, ?_, u2, u3, fun o ho => (u4 o ho).trans (sA_o ho), fun j hj => by rw [u5 j (by omega), sA_k (by omega) (by omega)], fun j q1 q2 => ?_⟩
    · rw [f_X1_surveyPhases_85_L108, if_neg (by rw [le_n (by omega) (by omega)]; omega), chk_i (by omega) (by omega), chk_i (by omega) (by omega), rA_n (by omega), hA r (by omega) (by omega), bit_1 (by omega), bI_n, nI_add, nI_1]
      exact u1
    · by_cases e : j = r
      · subst e
        rw [u5 j (by omega), sA_s (by omega)]
      · exact u6 j (by omega) q2
theorem C_phL {b o : Nat} {M S : Int32} {ok : Nat → Bool} (hb2 : b ≤ 24) (ho : o < b) (hok : ∀ p, p < b → (((M &&& (mkI b o p ^^^ (-1))) = 0 ∧ (S &&& mkI b o p) = 0) ↔ ok p = true)) : ∀ (n f p : Nat) (s : Nat × Int32) (A : Nat → Nat) (σ : cr_S), p + n = b → n < f → s.1 + n < 100000 → σ.1 85 4 = M → σ.1 85 5 = S → σ.1 85 2 = nI s.1 → σ.1 85 3 = s.2 → (∀ r, r < b → σ.2.1 86 r = nI (A r)) → ∃ σ', f_X1_surveyPhases_85_L16 f σ (nI b) (nI o) ((1 <<< (nI b &&& 31)) - 1) ((1 <<< (nI o &&& 31)) - 1) (nI p) = some σ' ∧ g85 σ σ' ∧ σ'.2.1 87 = σ.2.1 87 ∧ σ'.1 85 4 = M ∧ σ'.1 85 5 = S ∧ σ'.1 85 2 = nI (phS ok (cdI b o) n p s).1 ∧ σ'.1 85 3 = (phS ok (cdI b o) n p s).2 ∧ ∀ r, r < b → σ'.2.1 86 r = nI (A r + phO ok (fun p => soB b o p r) n p)
  | 0, f + 1, p, s, A, σ, hp, hf, hs, h4, h5, h2, h3, hA => by
    refine ⟨σ, ?_, g85_r, rfl, h4, h5, h2, h3, hA⟩
    rw [f_X1_surveyPhases_85_L16, if_pos (by rw [le_n (by omega) (by omega)]; omega)]
  | n + 1, f + 1, p, s, A, σ, hp, hf, hs, h4, h5, h2, h3, hA => by
    have hokp := hok p (by omega)
    have cd : (10000 : Int32) * nI b + 100 * nI o + nI p = cdI b o p := by
      rw [show (10000 : Int32) = nI 10000 from rfl, show (100 : Int32) = nI 100 from rfl, pk_mul, pk_mul, nI_add, nI_add]; rfl
    have st : f_X1_surveyPhases_85_L16 (f + 1) σ (nI b) (nI o) ((1 <<< (nI b &&& 31)) - 1) ((1 <<< (nI o &&& 31)) - 1) (nI p) = if ok p = true then f_X1_surveyPhases_85_B92 (f_X1_surveyPhases_85_L16 f) σ (nI b) (nI o) ((1 <<< (nI b &&& 31)) - 1) ((1 <<< (nI o &&& 31)) - 1) (nI p) (mkI b o p) (if nI s.1 = 0 then cdI b o p else s.2) else f_X1_surveyPhases_85_L16 f σ (nI b) (nI o) ((1 <<< (nI b &&& 31)) - 1) ((1 <<< (nI o &&& 31)) - 1) (nI (p + 1)) := by
      rw [f_X1_surveyPhases_85_L16, if_neg (by rw [le_n (by omega) (by omega)]; omega)]
      unfold f_X1_surveyPhases_85_B137
      simp only [cr_let]
      rw [show rF σ 85 2 = nI s.1 from h2, show rF σ 85 3 = s.2 from h3, show rF σ 85 4 = M from h4, show rF σ 85 5 = S from h5, cd, nI_1]
      change (if (M &&& (mkI b o p ^^^ (-1))) = 0 then (if (S &&& mkI b o p) = 0 then f_X1_surveyPhases_85_B92 (f_X1_surveyPhases_85_L16 f) σ (nI b) (nI o) ((1 <<< (nI b &&& 31)) - 1) ((1 <<< (nI o &&& 31)) - 1) (nI p) (mkI b o p) (if nI s.1 = 0 then cdI b o p else s.2) else _) else _) = _
      by_cases y : ok p = true
      · have := hokp.mpr y
        rw [if_pos this.1, if_pos this.2, if_pos y]
      · rw [if_neg y]
        by_cases y1 : (M &&& (mkI b o p ^^^ (-1))) = 0
        · rw [if_pos y1, if_neg (fun q => y (hokp.mp ⟨y1, q⟩))]
        · rw [if_neg y1]
    rw [st]
    by_cases y : ok p = true
    · have z0 : (nI s.1 = 0) ↔ s.1 = 0 := by rw [n_0, eq_n (by omega) (by omega)]
      have zc : (if nI s.1 = 0 then cdI b o p else s.2) = (if s.1 = 0 then cdI b o p else s.2) := by
        by_cases q : s.1 = 0
        · rw [if_pos q, if_pos (z0.mpr q)]
        · rw [if_neg q, if_neg (fun w => q (z0.mp w))]
      obtain ⟨σ1, a1, a2, a3, a4, -, a6⟩ := C_addL (r16 := f_X1_surveyPhases_85_L16 f) (x2 := nI o) (x3 := (1 <<< (nI b &&& 31)) - 1) (x4 := (1 <<< (nI o &&& 31)) - 1) (x5 := nI p) (mk := mkI b o p) (A := A) hb2 b cr_fuel 0 (sF (sF σ 85 3 (if s.1 = 0 then cdI b o p else s.2)) 85 2 (nI (s.1 + 1))) (by omega) (by rw [cr_fuel_v]; omega) (fun j _ q => hA j q)
      have G1 : g85 σ σ1 := ⟨by rw [a3]; rfl, fun o ho => by rw [a2, sF_o ho, sF_o ho], fun o o6 _ => by rw [a4 o o6]; rfl⟩
      obtain ⟨σ2, u1, u2, u3, u4, u5, u6, u7, u8⟩ := C_phL hb2 ho hok n f (p + 1) (s.1 + 1, if s.1 = 0 then cdI b o p else s.2) (fun r => A r + b2n (bt (mkI b o p) r)) σ1 (by omega) (by omega) (by show s.1 + 1 + n < 100000; omega) (by rw [a2, sF_k (by omega), sF_k (by omega)]; exact h4) (by rw [a2, sF_k (by omega), sF_k (by omega)]; exact h5) (by rw [a2, sF_s]) (by rw [a2, sF_k (by omega), sF_s]) (fun r hr => a6 r (by omega) hr)
      refine ⟨σ2, ?_, g85_t G1 u2, ?_, u4, u5, ?_, ?_, fun r hr => ?_⟩
      · rw [if_pos y, zc]
        unfold f_X1_surveyPhases_85_B92
        simp only [cr_let, rF]
        rw [sF_k (by omega), h2, nI_1, n_0, a1]
        unfold f_X1_surveyPhases_85_B137
        simp only [cr_let]
        rw [nI_1]
        exact u1
      · rw [u3, a4 87 (by omega)]; rfl
      · rw [u6, phS, if_pos y]
      · rw [u7, phS, if_pos y]
      · rw [u8 r hr, phO, y, Bool.true_and, mk_bit hb2 ho (by omega) (by omega), decide_eq_true hr, Bool.true_and, Nat.add_assoc]
    · obtain ⟨σ2, u1, u2, u3, u4, u5, u6, u7, u8⟩ := C_phL hb2 ho hok n f (p + 1) s A σ (by omega) (by omega) (by omega) h4 h5 h2 h3 hA
      refine ⟨σ2, ?_, u2, u3, u4, u5, ?_, ?_, fun r hr => ?_⟩
      · rw [if_neg y]; exact u1
      · rw [u6, phS, if_neg y]
      · rw [u7, phS, if_neg y]
      · rw [u8 r hr, phO, Bool.eq_false_iff.mpr y, Bool.false_and]
        show _ = nI (A r + (0 + _))
        rw [Nat.zero_add]
theorem C_opL {r22 : cr_S → Int32 → Int32 → Int32 → Option cr_S} {x2 x3 : Int32} {nl b : Nat} {W : Nat → Nat} {E : Nat → Bool} {M S : Int32} (hb : 0 < b) (hb2 : b ≤ 24) (hM : cMs W E b true nl M) (hS : cMs W E b false nl S) : ∀ (n f o : Nat) (s : Nat × Int32) (A : Nat → Nat) (σ : cr_S), o + n = b → n < f → s.1 + n * b < 100000 → σ.1 85 4 = M → σ.1 85 5 = S → σ.1 85 2 = nI s.1 → σ.1 85 3 = s.2 → (∀ r, r < b → σ.2.1 86 r = nI (A r)) → ∃ σ', f_X1_survey_85_6_L47 r22 f σ x2 x3 (nI b) (nI o) = f_X1_survey_85_6_B68 r22 σ' x2 x3 (nI b) ∧ g85 σ σ' ∧ σ'.2.1 87 = σ.2.1 87 ∧ σ'.1 85 2 = nI (opS W E nl b n o s).1 ∧ σ'.1 85 3 = (opS W E nl b n o s).2 ∧ ∀ r, r < b → σ'.2.1 86 r = nI (A r + opO W E nl b r n o)
  | 0, f + 1, o, s, A, σ, hp, hf, hs, h4, h5, h2, h3, hA => by
    refine ⟨σ, ?_, g85_r, rfl, h2, h3, hA⟩
    rw [f_X1_survey_85_6_L47, if_pos (by rw [le_n (by omega) (by omega)]; omega)]
  | n + 1, f + 1, o, s, A, σ, hp, hf, hs, h4, h5, h2, h3, hA => by
    have e3 : (n + 1) * b = n * b + b := by rw [Nat.add_mul]; omega
    have hi := ph_in (ok := okB W E nl b o) (cd := cdI b o) b 0 s
    obtain ⟨σ1, a1, a2, a3, a4, a5, a6, a7, a8⟩ := C_phL (ok := okB W E nl b o) hb2 (show o < b by omega) (fun p hp => ok_iff hb hb2 (by omega) hp hM hS) b cr_fuel 0 s A σ (by omega) (by rw [cr_fuel_v]; omega) (by omega) h4 h5 h2 h3 hA
    obtain ⟨σ2, u1, u2, u3, u4, u5, u6⟩ := C_opL (r22 := r22) (x2 := x2) (x3 := x3) hb hb2 hM hS n f (o + 1) _ _ σ1 (by omega) (by omega) (by omega) a4 a5 a6 a7 a8
    refine ⟨σ2, ?_, g85_t a2 u2, u3.trans a3, u4, u5, fun r hr => by rw [u6 r hr, opO, Nat.add_assoc]⟩
    rw [f_X1_survey_85_6_L47, if_neg (by rw [le_n (by omega) (by omega)]; omega)]
    unfold f_X1_surveyPhases_85
    simp only [cr_let]
    rw [n_0, a1]
    simp only [Option.bind_some]
    rw [nI_1]
    exact u1
theorem C_inL {r22 : cr_S → Int32 → Int32 → Int32 → Option cr_S} {t m b : Nat} {A C : Nat → Nat} (hb : 0 < b) (hb2 : b ≤ 24) (ht : t < 90000) (hm : m ≤ 60) : ∀ (n f i : Nat) (σ : cr_S), i + n = m → n < f → (∀ r, r < b → σ.2.1 86 r = nI (A r)) → (∀ j, i ≤ j → j < m → σ.2.1 87 j = nI (C j)) → ∃ σ', f_X1_survey_85_6_L71 r22 f σ (nI t) (nI m) (nI b) (nI i) = f_X1_survey_85_6_B112 r22 σ' (nI t) (nI m) (nI b) ∧ σ'.1 = σ.1 ∧ σ'.2.2 = σ.2.2 ∧ (∀ o, o ≠ 87 → σ'.2.1 o = σ.2.1 o) ∧ (∀ j, j < i → σ'.2.1 87 j = σ.2.1 87 j) ∧ ∀ j, i ≤ j → j < m → σ'.2.1 87 j = nI (C j + A ((t + j) % b))
  | 0, f + 1, i, σ, hi, hf, hA, hC => by
    refine ⟨σ, ?_, rfl, rfl, fun _ _ => rfl, fun _ _ => rfl, fun j q1 q2 => absurd q1 (by omega)⟩
    rw [f_X1_survey_85_6_L71, if_pos (by rw [le_n (by omega) (by omega)]; omega)]
  | n + 1, f + 1, i, σ, hi, hf, hA, hC => by
    have hlt : (t + i) % b < b := Nat.mod_lt _ hb
    obtain ⟨σ2, u1, u2, u3, u4, u5, u6⟩ := C_inL (r22 := r22) (A := A) (C := C) hb hb2 ht hm n f (i + 1) (sA σ 87 (nI i) (nI (C i + A ((t + i) % b)))) (by omega) (by omega) (fun r hr => by rw [sA_o (by omega)]; exact hA r hr) (fun j q1 q2 => by rw [sA_k (by omega) (by omega)]; exact hC j (by omega) q2)
    refine ⟨σ2, ?_, u2, u3, fun o ho => (u4 o ho).trans (sA_o ho), fun j hj => by rw [u5 j (by omega), sA_k (by omega) (by omega)], fun j q1 q2 => ?_⟩
    · rw [f_X1_survey_85_6_L71, if_neg (by rw [le_n (by omega) (by omega)]; omega), n_60, if_neg (by rw [le_n (by omega) (by omega)]; omega), chk_i (by omega) (by omega), chk_0 hb (by omega), nI_add, rem_n (by omega) hb (by omega), chk_i (by omega) (by omega), chk_i (by omega) (by omega), rA_n (by omega), rA_n (by omega), hC i (by omega) (by omega), hA _ hlt, nI_add, nI_1]
      exact u1
    · by_cases e : j = i
      · subst e
        rw [u5 j (by omega), sA_s (by omega)]
      · exact u6 j (by omega) q2
theorem n_24' : (24 : Int32) = nI 24 := id rfl
theorem C_beL {t m nl : Nat} {W : Nat → Nat} {E : Nat → Bool} (ht : t < 90000) (hm : m ≤ 60) : ∀ (n f b : Nat) (s : Nat × Int32) (C : Nat → Nat) (σ : cr_S), b + n = 25 → 2 ≤ b → n < f → s.1 + 576 * n < 100000 → lkC σ nl W E → σ.1 85 2 = nI s.1 → σ.1 85 3 = s.2 → (∀ j, j < m → σ.2.1 87 j = nI (C j)) → ∃ σ', f_X1_survey_85_6_L22 f σ (nI t) (nI m) (nI b) = some σ' ∧ g85 σ σ' ∧ σ'.1 85 2 = nI (beS W E nl n b s).1 ∧ σ'.1 85 3 = (beS W E nl n b s).2 ∧ ∀ j, j < m → σ'.2.1 87 j = nI (C j + beO W E nl (t + j) n b)
  | 0, f + 1, b, s, C, σ, hp, hb, hf, hs, hl, h2, h3, hC => by
    refine ⟨σ, ?_, g85_r, h2, h3, hC⟩
    rw [f_X1_survey_85_6_L22, n_24, if_pos (by rw [lt_n (by omega) (by omega)]; omega)]
  | n + 1, f + 1, b, s, C, σ, hp, hb, hf, hs, hl, h2, h3, hC => by
    have e3 := bb_in (b := b) (by omega)
    have hi := op_in (W := W) (E := E) (nl := nl) (b := b) (b - 1) 1 s
    obtain ⟨σ1, a1, a2, a3, a4, -, a6⟩ := C_fill86 24 cr_fuel 0 σ (by omega) (by rw [cr_fuel_v]; omega)
    have G1 : g85 σ σ1 := ⟨a3, fun o _ => by rw [a2], fun o o6 _ => a4 o o6⟩
    obtain ⟨σ2, c1, c2, c3, c4, c5, c6⟩ := C_fold (b := b) (by omega) (by omega) (g85_l G1 hl)
    obtain ⟨σ3, d1, d2, d3, d4, d5, d6⟩ := C_opL (r22 := f_X1_survey_85_6_L22 f) (x2 := nI t) (x3 := nI m) (by omega) (by omega) c5 c6 (b - 1) cr_fuel 1 s (fun _ => 0) σ2 (by omega) (by rw [cr_fuel_v]; omega) (by omega) rfl rfl (by rw [c4 2 (by omega) (by omega), a2]; exact h2) (by rw [c4 3 (by omega) (by omega), a2]; exact h3) (fun r hr => by rw [c3]; exact a6 r (by omega) (by omega))
    have r87 : σ3.2.1 87 = σ.2.1 87 := by rw [d3, c3, a4 87 (by omega)]
    obtain ⟨σ4, e1, e2, e3', e4, -, e6⟩ := C_inL (r22 := f_X1_survey_85_6_L22 f) (t := t) (A := fun r => 0 + opO W E nl b r (b - 1) 1) (C := C) (show 0 < b by omega) (by omega) ht hm m cr_fuel 0 σ3 (by omega) (by rw [cr_fuel_v]; omega) d6 (fun j _ q => by rw [r87]; exact hC j q)
    have G4 : g85 σ3 σ4 := ⟨e3', fun o _ => by rw [e2], fun o _ o7 => e4 o o7⟩
    have G := g85_t (g85_t (g85_t G1 c2) d2) G4
    obtain ⟨σ5, u1, u2, u3, u4, u5⟩ := C_beL ht hm n f (b + 1) (opS W E nl b (b - 1) 1 s) (fun j => C j + (0 + opO W E nl b ((t + j) % b) (b - 1) 1)) σ4 (by omega) (by omega) (by omega) (by omega) (g85_l G hl) (by rw [e2]; exact d4) (by rw [e2]; exact d5) (fun j hj => e6 j (by omega) hj)
    have om : ∀ t, opO W E nl b (t % b) (b - 1) 1 = opO W E nl b t (b - 1) 1 := fun t => by
      have ph : ∀ (ok : Nat → Bool) (o n p : Nat), phO ok (fun p => soB b o p (t % b)) n p = phO ok (fun p => soB b o p t) n p := fun ok o n => by
        induction n with
        | zero => intro p; rfl
        | succ n ih => intro p; rw [phO, phO, ih, so_mod]
      have : ∀ n o, opO W E nl b (t % b) n o = opO W E nl b t n o := fun n => by
        induction n with
        | zero => intro o; rfl
        | succ n ih => intro o; rw [opO, opO, ih, ph]
      exact this _ _
    refine ⟨σ5, ?_, g85_t G u2, u3, u4, fun j hj => by rw [u5 j hj, beO, om, Nat.zero_add, Nat.add_assoc]⟩
    rw [f_X1_survey_85_6_L22, n_24, if_neg (by rw [lt_n (by omega) (by omega)]; omega)]
    unfold f_J7_fill_53178_86
    rw [n_0, n_24, a1]
    simp only [Option.bind_some]
    rw [c1]
    simp only [Option.bind_some]
    rw [n_1, d1]
    unfold f_X1_survey_85_6_B68
    rw [n_0, e1]
    unfold f_X1_survey_85_6_B112
    simp only [cr_let]
    rw [nI_1]
    exact u1
theorem C_survey {σ : cr_S} {t m nl : Nat} {W : Nat → Nat} {E : Nat → Bool} (ht : t < 90000) (hm : m ≤ 60) (hl : lkC σ nl W E) : ∃ σ', f_X1_survey_85_6 σ (nI t) (nI m) = some σ' ∧ g85 σ σ' ∧ σ'.1 85 2 = nI (beS W E nl 23 2 (0, -4)).1 ∧ σ'.1 85 3 = (beS W E nl 23 2 (0, -4)).2 ∧ ∀ j, j < m → σ'.2.1 87 j = nI (beO W E nl (t + j) 23 2) := by
  have G : g85 σ (sF (sF σ 85 2 (nI 0)) 85 3 (-4)) := ⟨rfl, fun o ho => by rw [sF_o ho, sF_o ho], fun _ _ _ => rfl⟩
  obtain ⟨σ1, a1, a2, a3, a4, -, a6⟩ := C_fill87 60 cr_fuel 0 (sF (sF σ 85 2 (nI 0)) 85 3 (-4)) (by omega) (by rw [cr_fuel_v]; omega)
  have G1 : g85 σ σ1 := g85_t G ⟨a3, fun o _ => by rw [a2], fun o _ o7 => a4 o o7⟩
  obtain ⟨σ2, u1, u2, u3, u4, u5⟩ := C_beL ht hm 23 cr_fuel 2 (0, -4) (fun _ => 0) σ1 (by omega) (by omega) (by rw [cr_fuel_v]; omega) (by simp) (g85_l G1 hl) (by rw [a2, sF_k (by omega), sF_s]) (by rw [a2, sF_s]) (fun j hj => a6 j (by omega) (by omega))
  refine ⟨σ2, ?_, g85_t G1 u2, u3, u4, fun j hj => by rw [u5 j hj, Nat.zero_add]⟩
  unfold f_X1_survey_85_6 f_J7_fill_53178_87
  simp only [cr_let]
  rw [n_0, n_60, a1]
  simp only [Option.bind_some]
  rw [n_2]
  exact u1

/-! the reference's survey of what fits -/
def lkM (τ : cr_S) (nl : Nat) (W : Nat → Nat) (E : Nat → Bool) : Prop := τ.1 0 22 = nI nl ∧ nl ≤ 12 ∧ ∀ k, k < nl → τ.2.1 10 k = nI (W k) ∧ W k ≤ 9999 ∧ τ.2.1 11 k = bI (E k)
def b567 (τ τ' : cr_S) : Prop := τ'.2 = τ.2 ∧ ∀ j, j ≠ 25 → j ≠ 26 → j ≠ 27 → τ'.1 0 j = τ.1 0 j
theorem b567_r {τ : cr_S} : b567 τ τ := ⟨rfl, fun _ _ _ _ => rfl⟩
theorem b567_t {a b c : cr_S} (h : b567 a b) (g : b567 b c) : b567 a c := ⟨g.1.trans h.1, fun j q1 q2 q3 => (g.2 j q1 q2 q3).trans (h.2 j q1 q2 q3)⟩
theorem b567_l {τ τ' : cr_S} {nl : Nat} {W : Nat → Nat} {E : Nat → Bool} (b : b567 τ τ') (h : lkM τ nl W E) : lkM τ' nl W E := ⟨by rw [b.2 22 (by omega) (by omega) (by omega)]; exact h.1, h.2.1, fun k hk => by rw [b.1]; exact h.2.2 k hk⟩
theorem M_isSo {τ : cr_S} {w b o p : Nat} (hb : 0 < b) (hb2 : b ≤ 24) (ho : o ≤ 24) (hp : p ≤ 24) (hw : w < 100000) : f_X11_isSo τ (nI w) (nI b) (nI o) (nI p) = some (τ, bI (soB b o p w)) := by
  unfold f_X11_isSo soB
  have hm : (w + p) % b < b := Nat.mod_lt _ hb
  rw [nI_add, chk_0 hb (by omega), rem_n (by omega) hb (by omega)]
  by_cases z : o ≤ (w + p) % b
  · rw [if_pos (by rw [le_n (by omega) (by omega)]; exact z), decide_eq_false (by omega)]
    rfl
  · rw [if_neg (by rw [le_n (by omega) (by omega)]; exact z), decide_eq_true (by omega)]
    rfl
theorem M_fitK {r18 : cr_S → Int32 → Int32 → Option cr_S} {r26 : cr_S → Int32 → Int32 → Int32 → Option cr_S} {r34 : cr_S → Int32 → Int32 → Int32 → Int32 → Option cr_S} {τ : cr_S} {x1 : Int32} {nl b o p : Nat} {W : Nat → Nat} {E : Nat → Bool} (hl : lkM τ nl W E) (hb : 0 < b) (hb2 : b ≤ 24) (ho : o ≤ 24) (hp : p ≤ 24) : ∀ (n f k : Nat), k + n = nl → n + 1 < f → f_X11_fit_L46 r18 r26 r34 f τ x1 (nI b) (nI o) (nI p) 1 (nI k) = f_X11_fit_B97 r18 r26 r34 τ x1 (nI b) (nI o) (nI p) (bI (alN (fun k => soB b o p (W k) == E k) n k))
  | 0, f + 1, k, hk, hf => by
    have hn := hl.2.1
    rw [f_X11_fit_L46]
    simp only [rF, hl.1]
    rw [if_pos (by rw [le_n (by omega) (by omega)]; omega)]
    rfl
  | n + 1, f + 2, k, hk, hf => by
    have hn := hl.2.1
    obtain ⟨w1, w2, w3⟩ := hl.2.2 k (by omega)
    have n10 : ¬ (1 : Int32) = 0 := by decide
    have ih := M_fitK (r18 := r18) (r26 := r26) (r34 := r34) (x1 := x1) hl hb hb2 ho hp n (f + 1) (k + 1) (by omega) (by omega)
    rw [f_X11_fit_L46]
    simp only [rF, hl.1]
    rw [if_neg (by rw [le_n (by omega) (by omega)]; omega), if_neg n10, chk_i (by omega) (by omega), rA_n (by omega), w1, M_isSo hb hb2 ho hp (by omega)]
    simp only [Option.bind_some]
    rw [chk_i (by omega) (by omega), rA_n (by omega), w3]
    unfold f_X11_fit_B89
    simp only [cr_let]
    rw [nI_1, alN]
    cases y : (soB b o p (W k) == E k)
    · have e : ¬ bI (soB b o p (W k)) = bI (E k) := by
        cases a : soB b o p (W k) <;> cases c : E k <;> simp_all [bI]
      rw [if_neg e, f_X11_fit_L46]
      simp only [rF, hl.1, Bool.false_and]
      by_cases z : nI nl ≤ nI (k + 1)
      · rw [if_pos z]; rfl
      · rw [if_neg z, if_pos trivial]; rfl
    · have e : bI (soB b o p (W k)) = bI (E k) := by
        rw [eq_of_beq y]
      rw [if_pos e, ih]
      simp
theorem M_fit1 {r18 : cr_S → Int32 → Int32 → Option cr_S} {r26 : cr_S → Int32 → Int32 → Int32 → Option cr_S} {r34 : cr_S → Int32 → Int32 → Int32 → Int32 → Option cr_S} {τ : cr_S} {t b o p a : Nat} {s : Nat × Int32} {ok : Bool} (hb : 0 < b) (hb2 : b ≤ 24) (ho : o ≤ 24) (hp : p ≤ 24) (ht : t < 100000) (h5 : τ.1 0 25 = nI s.1) (hs : s.1 < 100000) (h6 : τ.1 0 26 = s.2) (h7 : τ.1 0 27 = nI a) :
    ∃ τ', f_X11_fit_B97 r18 r26 r34 τ (nI t) (nI b) (nI o) (nI p) (bI ok) = r34 τ' (nI t) (nI b) (nI o) (nI (p + 1)) ∧ b567 τ τ' ∧ τ'.1 0 25 = nI (if ok then (s.1 + 1, if s.1 = 0 then cdI b o p else s.2) else s).1 ∧ τ'.1 0 26 = (if ok then (s.1 + 1, if s.1 = 0 then cdI b o p else s.2) else s).2 ∧ τ'.1 0 27 = nI (a + b2n (ok && soB b o p t)) := by
  have B : ∀ (τ : cr_S) (c u v : Int32), b567 τ (sF (sF (sF τ 0 26 c) 0 25 u) 0 27 v) := fun τ c u v => ⟨rfl, fun j q1 q2 q3 => by rw [sF_k q3, sF_k q1, sF_k q2]⟩
  have n10 : ¬ (1 : Int32) = 0 := by decide
  cases ok
  · refine ⟨sF (sF (sF τ 0 26 s.2) 0 25 (nI s.1)) 0 27 (nI a), ?_, B τ _ _ _, by simp (disch := omega) only [sF_k, sF_s]; rfl, by simp (disch := omega) only [sF_k, sF_s]; rfl, by rw [sF_s]; rfl⟩
    simp (disch := omega) only [f_X11_fit_B97, f_X11_fit_B126, f_X11_fit_B130, f_X11_fit_B148, f_X11_fit_B174, bI_f, if_true, cr_let, rF, sF_k, h5, h6, h7, Int32.add_zero, nI_1]
  · have e1 : ∀ τ : cr_S, f_X11_isSo τ (nI t) (nI b) (nI o) (nI p) = some (τ, nI (b2n (soB b o p t))) := fun τ => by rw [← bI_n]; exact M_isSo hb hb2 ho hp ht
    have cd : (10000 : Int32) * nI b + 100 * nI o + nI p = cdI b o p := by
      rw [show (10000 : Int32) = nI 10000 from rfl, show (100 : Int32) = nI 100 from rfl, pk_mul, pk_mul, nI_add, nI_add]; rfl
    have z0 : (nI s.1 = 0) ↔ s.1 = 0 := by rw [n_0, eq_n (by omega) (by omega)]
    refine ⟨sF (sF (sF τ 0 26 (if s.1 = 0 then cdI b o p else s.2)) 0 25 (nI (s.1 + 1))) 0 27 (nI (a + b2n (soB b o p t))), ?_, B τ _ _ _, by simp (disch := omega) only [sF_k, sF_s]; rfl, by simp (disch := omega) only [sF_k, sF_s]; rfl, by rw [sF_s]; simp⟩
    show f_X11_fit_B97 r18 r26 r34 τ (nI t) (nI b) (nI o) (nI p) 1 = _
    by_cases z : s.1 = 0
    · have z' := z0.mpr z
      rw [if_pos z]
      simp (disch := omega) only [f_X11_fit_B97, f_X11_fit_B126, f_X11_fit_B130, f_X11_fit_B148, f_X11_fit_B174, if_neg n10, cr_let, rF, sF_k, h5, h6, h7, if_pos z', e1, Option.bind_some, nI_add, nI_1, cd]
    · have z' : ¬ nI s.1 = 0 := fun q => z (z0.mp q)
      rw [if_neg z]
      simp (disch := omega) only [f_X11_fit_B97, f_X11_fit_B126, f_X11_fit_B130, f_X11_fit_B148, f_X11_fit_B174, if_neg n10, cr_let, rF, sF_k, h5, h6, h7, if_neg z', e1, Option.bind_some, nI_add, nI_1]
theorem M_fitP {r18 : cr_S → Int32 → Int32 → Option cr_S} {r26 : cr_S → Int32 → Int32 → Int32 → Option cr_S} {nl t b o : Nat} {W : Nat → Nat} {E : Nat → Bool} (hb : 0 < b) (hb2 : b ≤ 24) (ho : o ≤ 24) (ht : t < 100000) : ∀ (n f p a : Nat) (s : Nat × Int32) (τ : cr_S), p + n = b → n < f → s.1 + n < 100000 → lkM τ nl W E → τ.1 0 25 = nI s.1 → τ.1 0 26 = s.2 → τ.1 0 27 = nI a → ∃ τ', f_X11_fit_L34 r18 r26 f τ (nI t) (nI b) (nI o) (nI p) = f_X11_fit_B184 r18 r26 τ' (nI t) (nI b) (nI o) ∧ b567 τ τ' ∧ τ'.1 0 25 = nI (phS (okB W E nl b o) (cdI b o) n p s).1 ∧ τ'.1 0 26 = (phS (okB W E nl b o) (cdI b o) n p s).2 ∧ τ'.1 0 27 = nI (a + phO (okB W E nl b o) (fun p => soB b o p t) n p)
  | 0, f + 1, p, a, s, τ, hp, hf, hs, hl, h5, h6, h7 => by
    refine ⟨τ, ?_, b567_r, h5, h6, h7⟩
    rw [f_X11_fit_L34, if_pos (by rw [le_n (by omega) (by omega)]; omega)]
  | n + 1, f + 1, p, a, s, τ, hp, hf, hs, hl, h5, h6, h7 => by
    have hn := hl.2.1
    obtain ⟨τ1, u1, u2, u3, u4, u5⟩ := M_fit1 (r18 := r18) (r26 := r26) (r34 := f_X11_fit_L34 r18 r26 f) (ok := okB W E nl b o p) (t := t) hb hb2 ho (show p ≤ 24 by omega) ht h5 (by omega) h6 h7
    have hs' : (if okB W E nl b o p then (s.1 + 1, if s.1 = 0 then cdI b o p else s.2) else s).1 + n < 100000 := by
      by_cases z : okB W E nl b o p = true
      · rw [if_pos z]; show s.1 + 1 + n < 100000; omega
      · rw [if_neg z]; omega
    obtain ⟨τ2, v1, v2, v3, v4, v5⟩ := M_fitP (r18 := r18) (r26 := r26) hb hb2 ho ht n f (p + 1) (a + b2n (okB W E nl b o p && soB b o p t)) _ τ1 (by omega) (by omega) hs' (b567_l u2 hl) u3 u4 u5
    refine ⟨τ2, ?_, b567_t u2 v2, v3, v4, by rw [v5, phO, Nat.add_assoc]⟩
    rw [f_X11_fit_L34, if_neg (by rw [le_n (by omega) (by omega)]; omega)]
    have k := M_fitK (r18 := r18) (r26 := r26) (r34 := f_X11_fit_L34 r18 r26 f) (x1 := nI t) hl hb hb2 ho (show p ≤ 24 by omega) nl cr_fuel 0 (by omega) (by rw [cr_fuel_v]; omega)
    rw [← n_0] at k
    rw [k]
    exact u1.trans v1
theorem M_fitO {r18 : cr_S → Int32 → Int32 → Option cr_S} {nl t b : Nat} {W : Nat → Nat} {E : Nat → Bool} (hb : 0 < b) (hb2 : b ≤ 24) (ht : t < 100000) : ∀ (n f o a : Nat) (s : Nat × Int32) (τ : cr_S), o + n = b → n < f → s.1 + n * b < 100000 → lkM τ nl W E → τ.1 0 25 = nI s.1 → τ.1 0 26 = s.2 → τ.1 0 27 = nI a → ∃ τ', f_X11_fit_L26 r18 f τ (nI t) (nI b) (nI o) = f_X11_fit_B190 r18 τ' (nI t) (nI b) ∧ b567 τ τ' ∧ τ'.1 0 25 = nI (opS W E nl b n o s).1 ∧ τ'.1 0 26 = (opS W E nl b n o s).2 ∧ τ'.1 0 27 = nI (a + opO W E nl b t n o)
  | 0, f + 1, o, a, s, τ, hp, hf, hs, hl, h5, h6, h7 => by
    refine ⟨τ, ?_, b567_r, h5, h6, h7⟩
    rw [f_X11_fit_L26, if_pos (by rw [le_n (by omega) (by omega)]; omega)]
  | n + 1, f + 1, o, a, s, τ, hp, hf, hs, hl, h5, h6, h7 => by
    have e3 : (n + 1) * b = n * b + b := by rw [Nat.add_mul]; omega
    obtain ⟨τ1, u1, u2, u3, u4, u5⟩ := M_fitP (r18 := r18) (r26 := f_X11_fit_L26 r18 f) (t := t) hb hb2 (show o ≤ 24 by omega) ht b cr_fuel 0 a s τ (by omega) (by rw [cr_fuel_v]; omega) (by omega) hl h5 h6 h7
    have hi := ph_in (ok := okB W E nl b o) (cd := cdI b o) b 0 s
    obtain ⟨τ2, v1, v2, v3, v4, v5⟩ := M_fitO (r18 := r18) hb hb2 ht n f (o + 1) _ _ τ1 (by omega) (by omega) (by omega) (b567_l u2 hl) u3 u4 u5
    refine ⟨τ2, ?_, b567_t u2 v2, v3, v4, by rw [v5, opO, Nat.add_assoc]⟩
    rw [f_X11_fit_L26, if_neg (by rw [le_n (by omega) (by omega)]; omega), n_0, u1]
    unfold f_X11_fit_B184
    simp only [cr_let]
    rw [nI_1]
    exact v1
theorem n_25 : (25 : Int32) = nI 25 := id rfl
theorem M_fitB {nl t : Nat} {W : Nat → Nat} {E : Nat → Bool} (ht : t < 100000) : ∀ (n f b a : Nat) (s : Nat × Int32) (τ : cr_S), b + n = 25 → 2 ≤ b → n < f → s.1 + 576 * n < 100000 → lkM τ nl W E → τ.1 0 25 = nI s.1 → τ.1 0 26 = s.2 → τ.1 0 27 = nI a → ∃ τ', f_X11_fit_L18 f τ (nI t) (nI b) = some τ' ∧ b567 τ τ' ∧ τ'.1 0 25 = nI (beS W E nl n b s).1 ∧ τ'.1 0 26 = (beS W E nl n b s).2 ∧ τ'.1 0 27 = nI (a + beO W E nl t n b)
  | 0, f + 1, b, a, s, τ, hp, h2, hf, hs, hl, h5, h6, h7 => by
    refine ⟨τ, ?_, b567_r, h5, h6, h7⟩
    rw [f_X11_fit_L18, n_25, if_pos (by rw [le_n (by omega) (by omega)]; omega)]
  | n + 1, f + 1, b, a, s, τ, hp, h2, hf, hs, hl, h5, h6, h7 => by
    have e3 := bb_in (b := b) (by omega)
    obtain ⟨τ1, u1, u2, u3, u4, u5⟩ := M_fitO (r18 := f_X11_fit_L18 f) (t := t) (b := b) (by omega) (by omega) ht (b - 1) cr_fuel 1 a s τ (by omega) (by rw [cr_fuel_v]; omega) (by omega) hl h5 h6 h7
    have hi := op_in (W := W) (E := E) (nl := nl) (b := b) (b - 1) 1 s
    obtain ⟨τ2, v1, v2, v3, v4, v5⟩ := M_fitB ht n f (b + 1) _ _ τ1 (by omega) (by omega) (by omega) (by omega) (b567_l u2 hl) u3 u4 u5
    refine ⟨τ2, ?_, b567_t u2 v2, v3, v4, by rw [v5, beO, Nat.add_assoc]⟩
    rw [f_X11_fit_L18, n_25, if_neg (by rw [le_n (by omega) (by omega)]; omega), n_1, u1]
    unfold f_X11_fit_B190
    simp only [cr_let]
    rw [nI_1]
    exact v1
theorem M_fit {τ : cr_S} {nl t : Nat} {W : Nat → Nat} {E : Nat → Bool} (ht : t < 100000) (hl : lkM τ nl W E) : ∃ τ', f_X11_fit τ (nI t) = some τ' ∧ b567 τ τ' ∧ τ'.1 0 25 = nI (beS W E nl 23 2 (0, -4)).1 ∧ τ'.1 0 26 = (beS W E nl 23 2 (0, -4)).2 ∧ τ'.1 0 27 = nI (beO W E nl t 23 2) := by
  have B : b567 τ (sF (sF (sF τ 0 25 (nI 0)) 0 26 (-4)) 0 27 (nI 0)) := ⟨rfl, fun j q1 q2 q3 => by rw [sF_k q3, sF_k q2, sF_k q1]⟩
  obtain ⟨τ1, u1, u2, u3, u4, u5⟩ := M_fitB ht 23 cr_fuel 2 0 (0, -4) _ (by omega) (by omega) (by rw [cr_fuel_v]; omega) (by simp) (b567_l B hl) (by simp (disch := omega) only [sF_k, sF_s]) (by simp (disch := omega) only [sF_k, sF_s]) sF_s
  refine ⟨τ1, ?_, b567_t B u2, u3, u4, by rw [u5, Nat.zero_add]⟩
  unfold f_X11_fit
  simp only [cr_let]
  rw [n_0, n_2]
  exact u1

/-! rows on bits, shifts and unsigned numbers, to paste: each family out of a closed proof of our own, whole with what it rests on; each by itself clean at Lean in its own claim (generation 39, form 5). Take a family whole -/
/-! ===== Int32 by its bits: bt x i ===== -/
def bt (x : Int32) (i : Nat) : Bool := x.toBitVec.getLsbD i
theorem b_ext {x y : Int32} (h : ∀ i, i < 32 → bt x i = bt y i) : x = y := Int32.toBitVec_inj.mp (BitVec.eq_of_getLsbD_eq (fun i hi => h i hi))
theorem b_or (x y : Int32) (i : Nat) : bt (x ||| y) i = (bt x i || bt y i) := by unfold bt; rw [Int32.toBitVec_or, BitVec.getLsbD_or]
theorem b_and (x y : Int32) (i : Nat) : bt (x &&& y) i = (bt x i && bt y i) := by unfold bt; rw [Int32.toBitVec_and, BitVec.getLsbD_and]
theorem b_xor (x y : Int32) (i : Nat) : bt (x ^^^ y) i = (bt x i ^^ bt y i) := by unfold bt; rw [Int32.toBitVec_xor, BitVec.getLsbD_xor]
theorem b_big {x : Int32} {i : Nat} (h : 32 ≤ i) : bt x i = false := BitVec.getLsbD_of_ge _ _ h
theorem b_255 (i : Nat) : bt 255 i = decide (i < 8) := by
  rcases Nat.lt_or_ge i 32 with h | h
  · exact (by decide +kernel : ∀ i, i < 32 → bt 255 i = decide (i < 8)) i h
  · rw [b_big h, decide_eq_false (by omega)]
theorem b_65535 (i : Nat) : bt 65535 i = decide (i < 16) := by
  rcases Nat.lt_or_ge i 32 with h | h
  · exact (by decide +kernel : ∀ i, i < 32 → bt 65535 i = decide (i < 16)) i h
  · rw [b_big h, decide_eq_false (by omega)]
theorem b_m1 : ∀ i, i < 32 → bt (-1) i = true := by decide +kernel
theorem b_0 (i : Nat) : bt 0 i = false := BitVec.getLsbD_zero
theorem s_l : ∀ n, n < 32 → ((nI n &&& 31).toBitVec.smod 32).toNat = n := by decide +kernel
theorem s_u : ∀ n, n < 32 → (((nI n).toUInt32 &&& Int32.toUInt32 31).toBitVec % 32).toNat = n := by decide +kernel
theorem b_shl (n : Nat) (hn : n < 32) (x : Int32) {i : Nat} (hi : i < 32) : bt (x <<< (nI n &&& 31)) i = (decide (n ≤ i) && bt x (i - n)) := by
  unfold bt
  rw [Int32.toBitVec_shiftLeft]
  show (x.toBitVec <<< ((nI n &&& 31).toBitVec.smod 32).toNat).getLsbD i = _
  rw [s_l n hn, BitVec.getLsbD_shiftLeft]
  rcases Nat.lt_or_ge i n with h | h
  · simp [h, Nat.not_le.mpr h]
  · simp [hi, h, Nat.not_lt.mpr h]
theorem b_ushr (n : Nat) (hn : n < 32) (x : Int32) (i : Nat) : bt ((x.toUInt32 >>> ((nI n).toUInt32 &&& Int32.toUInt32 31)).toInt32) i = bt x (n + i) := by
  show (x.toUInt32 >>> ((nI n).toUInt32 &&& Int32.toUInt32 31)).toBitVec.getLsbD i = x.toUInt32.toBitVec.getLsbD (n + i)
  rw [UInt32.toBitVec_shiftRight]
  show (x.toUInt32.toBitVec >>> (((nI n).toUInt32 &&& Int32.toUInt32 31).toBitVec % 32).toNat).getLsbD i = _
  rw [s_u n hn, BitVec.getLsbD_ushiftRight]
theorem b_sshr (n : Nat) (hn : n < 32) (x : Int32) {i : Nat} (hi : i < 32) : bt (x >>> (nI n &&& 31)) i = if n + i < 32 then bt x (n + i) else bt x 31 := by
  unfold bt
  rw [Int32.toBitVec_shiftRight]
  show (x.toBitVec.sshiftRight ((nI n &&& 31).toBitVec.smod 32).toNat).getLsbD i = _
  rw [s_l n hn, BitVec.getLsbD_sshiftRight, BitVec.msb_eq_getLsbD_last]
  simp [hi]
/-! a beat that is told by looks: what fits -/
def soB (b o p t : Nat) : Bool := decide ((t + p) % b < o)
theorem so_mod (b o p t : Nat) : soB b o p (t % b) = soB b o p t := by
  unfold soB
  rw [Nat.mod_add_mod]
theorem b_low : ∀ o, o < 25 → ∀ i, i < 32 → bt ((1 <<< (nI o &&& 31)) - 1) i = decide (i < o) := by decide +kernel
theorem b_one : ∀ o, o < 25 → ∀ i, i < 32 → bt (1 <<< (nI o &&& 31)) i = decide (i = o) := by decide +kernel
theorem mod2 {a b : Nat} (h : a < 2 * b) : a % b = if a < b then a else a - b := by
  by_cases z : a < b
  · rw [if_pos z, Nat.mod_eq_of_lt z]
  · rw [if_neg z, Nat.mod_eq_sub_mod (by omega), Nat.mod_eq_of_lt (by omega)]
/-- the seconds of a round in which a pair of such a phase is open -/
def mkI (b o p : Nat) : Int32 := (((((1 <<< (nI o &&& 31)) - 1 : Int32) >>> (nI p &&& 31)) ||| (((1 <<< (nI o &&& 31)) - 1 : Int32) <<< ((nI b - nI p) &&& 31))) &&& ((1 <<< (nI b &&& 31)) - 1))
theorem mk_bit {b o p r : Nat} (hb : b ≤ 24) (ho : o < b) (hp : p < b) (hr : r < 32) : bt (mkI b o p) r = (decide (r < b) && soB b o p r) := by
  unfold mkI soB
  rw [b_and, b_or, sub_n (by omega), b_sshr p (by omega) _ hr, b_shl (b - p) (by omega) _ hr, b_low b (by omega) r hr]
  by_cases z : r < b
  · have e1 : p + r < 32 ∨ ¬ p + r < 32 := by omega
    rw [mod2 (show r + p < 2 * b by omega)]
    have f1 : (if p + r < 32 then bt ((1 <<< (nI o &&& 31)) - 1) (p + r) else bt ((1 <<< (nI o &&& 31)) - 1) 31) = decide (p + r < o) := by
      by_cases y : p + r < 32
      · rw [if_pos y, b_low o (by omega) _ y]
      · rw [if_neg y, b_low o (by omega) _ (by omega)]
        rw [decide_eq_false (by omega), decide_eq_false (by omega)]
    rw [f1]
    by_cases y : r + p < b
    · rw [if_pos y, decide_eq_false (show ¬ b - p ≤ r by omega), decide_eq_true z]
      simp [Nat.add_comm]
    · rw [if_neg y, decide_eq_true (show b - p ≤ r by omega), decide_eq_true z, b_low o (by omega) _ (by omega), decide_eq_false (show ¬ p + r < o by omega)]
      simp
      omega
  · rw [decide_eq_false z]
    simp
theorem and_not_0 {m x : Int32} : (m &&& (x ^^^ (-1))) = 0 ↔ ∀ r, r < 32 → bt m r = true → bt x r = true := by
  constructor
  · intro h r hr hm
    have : bt (m &&& (x ^^^ (-1))) r = false := by rw [h, b_0]
    rw [b_and, b_xor, b_m1 r hr, hm] at this
    cases y : bt x r
    · rw [y] at this; cases this
    · rfl
  · intro h
    refine b_ext (fun r hr => ?_)
    rw [b_0, b_and, b_xor, b_m1 r hr]
    cases y : bt m r
    · rfl
    · rw [h r hr y]; rfl
theorem and_0 {m x : Int32} : (m &&& x) = 0 ↔ ∀ r, r < 32 → bt m r = true → bt x r = false := by
  constructor
  · intro h r hr hm
    have : bt (m &&& x) r = false := by rw [h, b_0]
    rw [b_and, hm] at this
    cases y : bt x r
    · rfl
    · rw [y] at this; cases this
  · intro h
    refine b_ext (fun r hr => ?_)
    rw [b_0, b_and]
    cases y : bt m r
    · rfl
    · rw [h r hr y]; rfl
theorem bit_1 {x : Int32} {r : Nat} (hr : r < 31) : ((x >>> (nI r &&& 31)) &&& 1) = bI (bt x r) := by
  refine b_ext (fun i hi => ?_)
  have o1 : ∀ i, i < 32 → bt 1 i = decide (i = 0) := by decide +kernel
  rw [b_and, b_sshr r (by omega) x hi, o1 i hi]
  by_cases z : i = 0
  · subst z
    rw [if_pos (by omega)]
    cases bt x (r + 0) <;> cases y : bt x r <;> simp [bI, o1, b_0] <;> rw [Nat.add_zero] at * <;> simp_all
  · rw [decide_eq_false z, Bool.and_false]
    cases bt x r
    · simp [bI, b_0]
    · simp [bI, o1 i hi, z]
def alN (g : Nat → Bool) : Nat → Nat → Bool
  | 0, _ => true
  | n + 1, k => g k && alN g n (k + 1)
theorem al_iff {g : Nat → Bool} : ∀ n k, alN g n k = true ↔ ∀ j, k ≤ j → j < k + n → g j = true
  | 0, k => ⟨fun _ j h1 h2 => absurd h1 (by omega), fun _ => rfl⟩
  | n + 1, k => by
    rw [alN, Bool.and_eq_true, al_iff n (k + 1)]
    constructor
    · rintro ⟨h1, h2⟩ j q1 q2
      by_cases e : j = k
      · rw [e]; exact h1
      · exact h2 j (by omega) (by omega)
    · intro h
      exact ⟨h k (by omega) (by omega), fun j q1 q2 => h j (by omega) (by omega)⟩
/-- whether a beat, an opening and a phase fit what was seen -/
def okB (W : Nat → Nat) (E : Nat → Bool) (nl b o p : Nat) : Bool := alN (fun k => soB b o p (W k) == E k) nl 0
def cdI (b o p : Nat) : Int32 := nI (10000 * b + 100 * o + p)
def phS (ok : Nat → Bool) (cd : Nat → Int32) : Nat → Nat → Nat × Int32 → Nat × Int32
  | 0, _, s => s
  | n + 1, p, s => phS ok cd n (p + 1) (if ok p then (s.1 + 1, if s.1 = 0 then cd p else s.2) else s)
def phO (ok : Nat → Bool) (so : Nat → Bool) : Nat → Nat → Nat
  | 0, _ => 0
  | n + 1, p => b2n (ok p && so p) + phO ok so n (p + 1)
def opS (W : Nat → Nat) (E : Nat → Bool) (nl b : Nat) : Nat → Nat → Nat × Int32 → Nat × Int32
  | 0, _, s => s
  | n + 1, o, s => opS W E nl b n (o + 1) (phS (okB W E nl b o) (cdI b o) b 0 s)
def opO (W : Nat → Nat) (E : Nat → Bool) (nl b t : Nat) : Nat → Nat → Nat
  | 0, _ => 0
  | n + 1, o => phO (okB W E nl b o) (fun p => soB b o p t) b 0 + opO W E nl b t n (o + 1)
def beS (W : Nat → Nat) (E : Nat → Bool) (nl : Nat) : Nat → Nat → Nat × Int32 → Nat × Int32
  | 0, _, s => s
  | n + 1, b, s => beS W E nl n (b + 1) (opS W E nl b (b - 1) 1 s)
def beO (W : Nat → Nat) (E : Nat → Bool) (nl t : Nat) : Nat → Nat → Nat
  | 0, _ => 0
  | n + 1, b => opO W E nl b t (b - 1) 1 + beO W E nl t n (b + 1)
theorem ph_in {ok : Nat → Bool} {cd : Nat → Int32} : ∀ n p s, (phS ok cd n p s).1 ≤ s.1 + n
  | 0, p, s => by simp [phS]
  | n + 1, p, s => by
    rw [phS]
    have := ph_in (ok := ok) (cd := cd) n (p + 1) (if ok p then (s.1 + 1, if s.1 = 0 then cd p else s.2) else s)
    by_cases z : ok p = true
    · rw [if_pos z] at this ⊢; simp at this ⊢; omega
    · rw [if_neg z] at this ⊢; omega
theorem phO_in {ok so : Nat → Bool} : ∀ n p, phO ok so n p ≤ n
  | 0, p => by simp [phO]
  | n + 1, p => by
    rw [phO]
    have := phO_in (ok := ok) (so := so) n (p + 1)
    have : b2n (ok p && so p) ≤ 1 := by unfold b2n; split <;> omega
    omega
theorem op_in {W : Nat → Nat} {E : Nat → Bool} {nl b : Nat} : ∀ n o s, (opS W E nl b n o s).1 ≤ s.1 + n * b
  | 0, o, s => by simp [opS]
  | n + 1, o, s => by
    rw [opS]
    have h1 := op_in (W := W) (E := E) (nl := nl) (b := b) n (o + 1) (phS (okB W E nl b o) (cdI b o) b 0 s)
    have h2 := ph_in (ok := okB W E nl b o) (cd := cdI b o) b 0 s
    have h3 : (n + 1) * b = n * b + b := by rw [Nat.add_mul]; omega
    omega
theorem opO_in {W : Nat → Nat} {E : Nat → Bool} {nl b t : Nat} : ∀ n o, opO W E nl b t n o ≤ n * b
  | 0, o => by simp [opO]
  | n + 1, o => by
    rw [opO]
    have h1 := opO_in (W := W) (E := E) (nl := nl) (b := b) (t := t) n (o + 1)
    have h2 := phO_in (ok := okB W E nl b o) (so := fun p => soB b o p t) b 0
    have h3 : (n + 1) * b = n * b + b := by rw [Nat.add_mul]; omega
    omega
theorem bb_in {b : Nat} (h : b ≤ 24) : (b - 1) * b ≤ 576 := by
  have : (b - 1) * b ≤ 24 * 24 := Nat.mul_le_mul (by omega) h
  omega
theorem be_in {W : Nat → Nat} {E : Nat → Bool} {nl : Nat} : ∀ n b s, b + n ≤ 25 → (beS W E nl n b s).1 ≤ s.1 + 576 * n
  | 0, b, s, _ => by simp [beS]
  | n + 1, b, s, h => by
    rw [beS]
    have h1 := be_in (W := W) (E := E) (nl := nl) n (b + 1) (opS W E nl b (b - 1) 1 s) (by omega)
    have h2 := op_in (W := W) (E := E) (nl := nl) (b := b) (b - 1) 1 s
    have h3 := bb_in (b := b) (by omega)
    omega
theorem beO_in {W : Nat → Nat} {E : Nat → Bool} {nl t : Nat} : ∀ n b, b + n ≤ 25 → beO W E nl t n b ≤ 576 * n
  | 0, b, _ => by simp [beO]
  | n + 1, b, h => by
    rw [beO]
    have h1 := beO_in (W := W) (E := E) (nl := nl) (t := t) n (b + 1) (by omega)
    have h2 := opO_in (W := W) (E := E) (nl := nl) (b := b) (t := t) (b - 1) 1
    have h3 := bb_in (b := b) (by omega)
    omega

/-! the readers of a strait: which letter, a digit -/
def kiN (l0 l1 l2 l3 c : Nat) : Option Nat := if c = l0 then some 0 else if c = l1 then some 1 else if c = l2 then some 2 else if c = l3 then some 3 else none
def kiC : Option Nat → Int32
  | none => -1
  | some j => nI j
def kiM : Option Nat → Int32
  | none => -4
  | some j => nI j
theorem ki_in {l0 l1 l2 l3 c j : Nat} (h : kiN l0 l1 l2 l3 c = some j) : j < 4 := by
  unfold kiN at h
  split at h
  · cases h; omega
  · split at h
    · cases h; omega
    · split at h
      · cases h; omega
      · split at h
        · cases h; omega
        · cases h
theorem i8_n : ∀ c, c < 127 → (Int32.toInt8 (nI c)).toInt32 = nI c := by decide +kernel
theorem st_100 : stB 0 (nI 0) = nI 112 ∧ stB 0 (nI 1) = nI 115 ∧ stB 0 (nI 2) = nI 116 ∧ stB 0 (nI 3) = nI 102 := by decide
theorem C_ix_100 {σ : cr_S} {c : Nat} (hc : c < 127) : f_J0_indexOf_0f7a4_100 σ (nI c) = some (σ, kiC (kiN 112 115 116 102 c)) := by
  obtain ⟨F, hF⟩ : ∃ F, cr_fuel = F + 5 := ⟨4995, by rw [cr_fuel_v]⟩
  obtain ⟨s0, s1, s2, s3⟩ := st_100
  have st : ∀ (f j x : Nat), j < 4 → stB 0 (nI j) = nI x → x < 127 → f_J1_indexOfChar_4cfef_200_L7 (f + 1) σ (nI 4) (nI c) (nI j) = if x = c then some (σ, nI j) else f_J1_indexOfChar_4cfef_200_L7 f σ (nI 4) (nI c) (nI (j + 1)) := fun f j x hj hx hx2 => by
    rw [f_J1_indexOfChar_4cfef_200_L7, if_neg (by rw [le_n (by omega) (by omega)]; omega), chk_i (by omega) (by omega), hx]
    by_cases z : x = c
    · rw [if_pos (by rw [z]), if_pos z]
    · rw [if_neg (by rw [eq_n (by omega) (by omega)]; exact z), if_neg z]
      simp only [cr_let]
      rw [nI_1]
  have en : f_J1_indexOfChar_4cfef_200_L7 (F + 1) σ (nI 4) (nI c) (nI 4) = some (σ, -1) := by
    rw [f_J1_indexOfChar_4cfef_200_L7, if_pos (by rw [le_n (by omega) (by omega)]; omega)]
  have e4 : (4 : Int32) >>> ((0 : Int32) &&& 31) = nI 4 := by decide
  have lp : f_J1_indexOfChar_4cfef_200 σ (nI c) (nI 0) (nI 4) = some (σ, kiC (kiN 112 115 116 102 c)) := by
    unfold f_J1_indexOfChar_4cfef_200
    simp only [cr_let]
    rw [i8_n c hc, hF, st (F + 4) 0 112 (by omega) s0 (by omega), st (F + 3) 1 115 (by omega) s1 (by omega), st (F + 2) 2 116 (by omega) s2 (by omega), st (F + 1) 3 102 (by omega) s3 (by omega), en]
    unfold kiN
    by_cases z0 : c = 112
    · rw [if_pos z0.symm, if_pos z0]; rfl
    · rw [if_neg (fun q => z0 q.symm), if_neg z0]
      by_cases z1 : c = 115
      · rw [if_pos z1.symm, if_pos z1]; rfl
      · rw [if_neg (fun q => z1 q.symm), if_neg z1]
        by_cases z2 : c = 116
        · rw [if_pos z2.symm, if_pos z2]; rfl
        · rw [if_neg (fun q => z2 q.symm), if_neg z2]
          by_cases z3 : c = 102
          · rw [if_pos z3.symm, if_pos z3]; rfl
          · rw [if_neg (fun q => z3 q.symm), if_neg z3]; rfl
  have ce : f_J1_canEncode_9a6ad σ (nI c) = some (σ, 1) := by
    unfold f_J1_canEncode_9a6ad
    rw [if_neg (nl_0 (by omega)), show (255 : Int32) = nI 255 from rfl, if_neg (by rw [lt_n (by omega) (by omega)]; omega)]
  unfold f_J0_indexOf_0f7a4_100 f_J0_indexOf_7cf53_100 f_J0_isLatin1_aae02_100 f_J0_length_8abf5_100 f_J0_coder_7d493_100
  simp only [Option.bind_some]
  rw [if_neg (by decide), e4]
  unfold f_J1_indexOf_4cfef_200
  rw [ce]
  simp only [Option.bind_some, cr_let]
  have e0 : (if (0 : Int32) < 0 then (0 : Int32) else 0) = nI 0 := by decide
  have e5 : (if (4 : Int32) < nI 4 then (4 : Int32) else nI 4) = nI 4 := by decide
  have n10 : ¬ (1 : Int32) = 0 := by decide
  rw [if_neg n10, e0, e5, if_pos (show nI 0 < nI 4 by decide), lp]
  simp only [Option.bind_some]
theorem C_kind_100 {σ : cr_S} {nt a : Nat} {ch : Nat → Nat} (ht : tpC σ nt ch) (h6 : σ.1 55 6 = nI a) (ha : a ≤ nt) : ∃ σ', f_X7_kindRead_55_100 σ = some (σ', kiC (kiN 112 115 116 102 (hrN ch nt (skN ch nt (nt - a) a)))) ∧ atC σ σ' (skN ch nt (nt - a) a + (if (kiN 112 115 116 102 (hrN ch nt (skN ch nt (nt - a) a))).isSome then 1 else 0)) := by
  have hh := hr_in (a := skN ch nt (nt - a) a) (fun k hk => ⟨(ht.2.2 k hk).1, (ht.2.2 k hk).2.1⟩)
  obtain ⟨σ1, u1, u2, u3, u4, u5⟩ := C_here ht h6 ha
  unfold f_X7_kindRead_55_100
  rw [u1]
  simp only [Option.bind_some]
  rw [C_ix_100 (by omega)]
  simp only [Option.bind_some, cr_let]
  unfold f_X7_kindRead_55_100_B23
  simp only [cr_let]
  rw [show rF σ1 55 6 = _ from u5]
  cases y : kiN 112 115 116 102 (hrN ch nt (skN ch nt (nt - a) a)) with
  | none =>
    refine ⟨sF σ1 55 6 (nI (skN ch nt (nt - a) a + 0)), ?_, u2, fun o ho => by rw [sF_o ho, u3 o ho], fun j hj => by rw [sF_k hj, u4 j hj], sF_s⟩
    rw [if_neg (show ¬ 0 ≤ kiC none by decide), n_0, nI_add]
  | some j =>
    have hj := ki_in y
    refine ⟨sF σ1 55 6 (nI (skN ch nt (nt - a) a + 1)), ?_, u2, fun o ho => by rw [sF_o ho, u3 o ho], fun j hj => by rw [sF_k hj, u4 j hj], sF_s⟩
    rw [if_pos (show 0 ≤ kiC (some j) from ge_0 (by omega)), nI_1]
theorem st_101 : stB 1 (nI 0) = nI 80 ∧ stB 1 (nI 1) = nI 84 ∧ stB 1 (nI 2) = nI 66 ∧ stB 1 (nI 3) = nI 76 := by decide
theorem C_ix_101 {σ : cr_S} {c : Nat} (hc : c < 127) : f_J0_indexOf_0f7a4_101 σ (nI c) = some (σ, kiC (kiN 80 84 66 76 c)) := by
  obtain ⟨F, hF⟩ : ∃ F, cr_fuel = F + 5 := ⟨4995, by rw [cr_fuel_v]⟩
  obtain ⟨s0, s1, s2, s3⟩ := st_101
  have st : ∀ (f j x : Nat), j < 4 → stB 1 (nI j) = nI x → x < 127 → f_J1_indexOfChar_4cfef_201_L7 (f + 1) σ (nI 4) (nI c) (nI j) = if x = c then some (σ, nI j) else f_J1_indexOfChar_4cfef_201_L7 f σ (nI 4) (nI c) (nI (j + 1)) := fun f j x hj hx hx2 => by
    rw [f_J1_indexOfChar_4cfef_201_L7, if_neg (by rw [le_n (by omega) (by omega)]; omega), chk_i (by omega) (by omega), hx]
    by_cases z : x = c
    · rw [if_pos (by rw [z]), if_pos z]
    · rw [if_neg (by rw [eq_n (by omega) (by omega)]; exact z), if_neg z]
      simp only [cr_let]
      rw [nI_1]
  have en : f_J1_indexOfChar_4cfef_201_L7 (F + 1) σ (nI 4) (nI c) (nI 4) = some (σ, -1) := by
    rw [f_J1_indexOfChar_4cfef_201_L7, if_pos (by rw [le_n (by omega) (by omega)]; omega)]
  have e4 : (4 : Int32) >>> ((0 : Int32) &&& 31) = nI 4 := by decide
  have lp : f_J1_indexOfChar_4cfef_201 σ (nI c) (nI 0) (nI 4) = some (σ, kiC (kiN 80 84 66 76 c)) := by
    unfold f_J1_indexOfChar_4cfef_201
    simp only [cr_let]
    rw [i8_n c hc, hF, st (F + 4) 0 80 (by omega) s0 (by omega), st (F + 3) 1 84 (by omega) s1 (by omega), st (F + 2) 2 66 (by omega) s2 (by omega), st (F + 1) 3 76 (by omega) s3 (by omega), en]
    unfold kiN
    by_cases z0 : c = 80
    · rw [if_pos z0.symm, if_pos z0]; rfl
    · rw [if_neg (fun q => z0 q.symm), if_neg z0]
      by_cases z1 : c = 84
      · rw [if_pos z1.symm, if_pos z1]; rfl
      · rw [if_neg (fun q => z1 q.symm), if_neg z1]
        by_cases z2 : c = 66
        · rw [if_pos z2.symm, if_pos z2]; rfl
        · rw [if_neg (fun q => z2 q.symm), if_neg z2]
          by_cases z3 : c = 76
          · rw [if_pos z3.symm, if_pos z3]; rfl
          · rw [if_neg (fun q => z3 q.symm), if_neg z3]; rfl
  have ce : f_J1_canEncode_9a6ad σ (nI c) = some (σ, 1) := by
    unfold f_J1_canEncode_9a6ad
    rw [if_neg (nl_0 (by omega)), show (255 : Int32) = nI 255 from rfl, if_neg (by rw [lt_n (by omega) (by omega)]; omega)]
  unfold f_J0_indexOf_0f7a4_101 f_J0_indexOf_7cf53_101 f_J0_isLatin1_aae02_101 f_J0_length_8abf5_101 f_J0_coder_7d493_101
  simp only [Option.bind_some]
  rw [if_neg (by decide), e4]
  unfold f_J1_indexOf_4cfef_201
  rw [ce]
  simp only [Option.bind_some, cr_let]
  have e0 : (if (0 : Int32) < 0 then (0 : Int32) else 0) = nI 0 := by decide
  have e5 : (if (4 : Int32) < nI 4 then (4 : Int32) else nI 4) = nI 4 := by decide
  have n10 : ¬ (1 : Int32) = 0 := by decide
  rw [if_neg n10, e0, e5, if_pos (show nI 0 < nI 4 by decide), lp]
  simp only [Option.bind_some]
theorem C_kind_101 {σ : cr_S} {nt a : Nat} {ch : Nat → Nat} (ht : tpC σ nt ch) (h6 : σ.1 55 6 = nI a) (ha : a ≤ nt) : ∃ σ', f_X7_kindRead_55_101 σ = some (σ', kiC (kiN 80 84 66 76 (hrN ch nt (skN ch nt (nt - a) a)))) ∧ atC σ σ' (skN ch nt (nt - a) a + (if (kiN 80 84 66 76 (hrN ch nt (skN ch nt (nt - a) a))).isSome then 1 else 0)) := by
  have hh := hr_in (a := skN ch nt (nt - a) a) (fun k hk => ⟨(ht.2.2 k hk).1, (ht.2.2 k hk).2.1⟩)
  obtain ⟨σ1, u1, u2, u3, u4, u5⟩ := C_here ht h6 ha
  unfold f_X7_kindRead_55_101
  rw [u1]
  simp only [Option.bind_some]
  rw [C_ix_101 (by omega)]
  simp only [Option.bind_some, cr_let]
  unfold f_X7_kindRead_55_101_B23
  simp only [cr_let]
  rw [show rF σ1 55 6 = _ from u5]
  cases y : kiN 80 84 66 76 (hrN ch nt (skN ch nt (nt - a) a)) with
  | none =>
    refine ⟨sF σ1 55 6 (nI (skN ch nt (nt - a) a + 0)), ?_, u2, fun o ho => by rw [sF_o ho, u3 o ho], fun j hj => by rw [sF_k hj, u4 j hj], sF_s⟩
    rw [if_neg (show ¬ 0 ≤ kiC none by decide), n_0, nI_add]
  | some j =>
    have hj := ki_in y
    refine ⟨sF σ1 55 6 (nI (skN ch nt (nt - a) a + 1)), ?_, u2, fun o ho => by rw [sF_o ho, u3 o ho], fun j hj => by rw [sF_k hj, u4 j hj], sF_s⟩
    rw [if_pos (show 0 ≤ kiC (some j) from ge_0 (by omega)), nI_1]

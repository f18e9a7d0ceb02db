def sC (σ : cr_S) (a b : Nat) (sp dp n : Int32) : cr_S := (σ.1, σ.2.1, va_up σ.2.2 b (va_cpy (σ.2.2 a) (σ.2.2 b) sp.toNatClampNeg dp.toNatClampNeg n.toNatClampNeg))
def cpOk (sp dp n : Int32) (n0 n1 : Nat) : Bool := decide ((¬ sp < 0 ∧ ¬ dp < 0 ∧ ¬ n < 0) ∧ sp.toNatClampNeg + n.toNatClampNeg ≤ n0 ∧ dp.toNatClampNeg + n.toNatClampNeg ≤ n1)
theorem m_nat : Cond.native arraycopyName ∈ cr_T := cr_T_mem (List.mem_of_getElem? (i := 935) (by decide +kernel)) (by decide +kernel)
theorem m_sta : Cond.static arraycopyName ∈ cr_T := cr_T_mem (List.mem_of_getElem? (i := 934) (by decide +kernel)) (by decide +kernel)
theorem mm_X10_319 : Cond.methodLink RX10 319 arraycopyName ∈ cr_T := cr_T_mem (List.mem_of_getElem? (i := 933) (by decide +kernel)) (by decide +kernel)
section
variable {p : Program} {l : Launch} {e : Env} {R : Room} {s : State} {m : MethodId} {args : Array Value} {below : List Frame} {meth : Method} {c : Code} {sf : Nat → cr_Sh} {N base : Nat} {D : va_G} {cA : Nat → ClassId} {cc : ByteArray} {nL : Nat} {own : String} {Q : State → Prop} {σ : cr_S} {pc pc' : Nat} {lv lv' : List (Nat × Value)} {st : List Value}
theorem cr_E_sC {a b : Nat} {sp dp n : Int32} (j : Nat) (h : j ≠ b) (x : cr_Sh) : cr_E base cA (sC σ a b sp dp n) j x = cr_E base cA σ j x := by
  rcases x with q | q | q | q
  · rfl
  · rfl
  · simp only [cr_E, sC, va_up_ne _ _ h]
  · rfl
theorem g_copyl (C : cr_C p l e R s m args below meth c sf N base D cA cc nL own) {σ' : cr_S} {index a b n0 n1 : Nat} {sp dp n : Int32} (hl : Cond.methodLink own index arraycopyName ∈ cr_T) (ha : a < N) (hsa : sf a = .inr (.inr (.inl n0))) (hb : b < N) (hsb : sf b = .inr (.inr (.inl n1))) (ho : cpOk sp dp n n0 n1 = true) (hR : 1 ≤ R.frames ∧ 60 ≤ R.locals) (hd : decode cc pc = .ok (.invokestatic index, 3)) (hp : pc + 3 = pc') (hσ : σ' = sC σ a b sp dp n) (k : cr_W p l e R s m args below meth c sf N base D cA nL Q σ' pc' lv []) : cr_W p l e R s m args below meth c sf N base D cA nL Q σ pc lv [.int n, .int dp, .ref (base + b), .int sp, .ref (base + a)] := by
  subst hp
  subst hσ
  intro H locs ls hP hS h9
  have ho := of_decide_eq_true ho
  have hea := cr_L_at (sf := sf) (base := base) (cA := cA) (σ := σ) ha
  rw [hsa] at hea
  have heb := cr_L_at (sf := sf) (base := base) (cA := cA) (σ := σ) hb
  rw [hsb] at heb
  refine va_copyl (D := D) (ty := .long) C.1 C.2.1 (C.2.2.1.trans h9.1.symm) C.2.2.2.1 (C.2.2.2.2.1 _ hl) (C.2.2.2.2.1 _ m_nat) (C.2.2.2.2.1 _ m_sta) (C.2.2.2.2.1 _ mi_J10) C.2.2.2.2.2.2.1 hP cr_L_D hS a b 2 2 hea heb rfl rfl rfl ho.1.1 ho.1.2.1 ho.1.2.2 ho.2.1 ho.2.2 (fun _ _ => rfl) hR.1 (Nat.le_trans (by decide) hR.2) hd (fun H1 locs1 hP1 _ hS1 => ?_)
  rw [cr_L_set (σ' := sC σ a b sp dp n) hb (by
    rw [hsb]
    simp only [cr_E, sC, va_up_self]) (fun j hj x => cr_E_sC j hj x)] at hP1
  exact k H1 locs1 ls hP1 hS1 h9
theorem g_aaldA (C : cr_C p l e R s m args below meth c sf N base D cA cc nL own) {o n : Nat} {r : Nat → Nat} {i : Int32} (ho : o < N) (hs : sf o = .inr (.inr (.inr (7, n, r)))) (hi : vp_in i n) (hd : decode cc pc = .ok (.aaload, 1)) (hp : pc + 1 = pc') (k : cr_W p l e R s m args below meth c sf N base D cA nL Q σ pc' lv (.ref (base + r i.toNatClampNeg) :: st)) : cr_W p l e R s m args below meth c sf N base D cA nL Q σ pc lv (.int i :: .ref (base + o) :: st) := by
  subst hp
  intro H locs ls hP hS hl
  have he := cr_L_at (sf := sf) (base := base) (cA := cA) (σ := σ) ho
  rw [hs] at he
  have hlt : i.toNatClampNeg < n := Nat.not_le.mp fun q => hi (Or.inr q)
  exact W.aald (v := va_rf (some (base + r i.toNatClampNeg))) (ty := .array .int) C.1 C.2.1 (hP o _ he) ((C.2.2.2.2.2.2.1.2 7 (cA 7, .array .int) rfl).1 n (fun j => va_rf (some (base + r j)))) rfl (fun q => by cases q) (by show ¬ (i < 0 ∨ (arrV _ _ _).slots.size ≤ _); rw [arrV_size]; exact hi) (by show (arrV _ _ _).slots[_]? = _; rw [arrV_read _ _ hlt]) rfl rfl hd (k H locs ls hP hS hl)
theorem g_lookup (C : cr_C p l e R s m args below meth c sf N base D cA cc nL own) {dflt : Int} {ps : Array (Int × Int)} {len : Nat} {x : Int32} {off : Int} {tgt : Nat} (hd : decode cc pc = .ok (.lookupswitch dflt ps, len)) (hq : (ps.toList.zip (ps.toList.drop 1)).all (fun (a, next) => a.1 < next.1) = true) (ho : Op.lookupswitch.offset ps.toList dflt x.toInt = off) (ht : (pc : Int) + off = (tgt : Int)) (k : cr_W p l e R s m args below meth c sf N base D cA nL Q σ tgt lv st) : cr_W p l e R s m args below meth c sf N base D cA nL Q σ pc lv (.int x :: st) := by
  intro H locs ls hP hS hl
  exact lv_lookup C.1 C.2.1 hd hq ho ht (k H locs ls hP hS hl)
theorem e_max : Lib.Math.max.name = yJ9_max_7cf53 ∧ Lib.Math.max.code = cJ9_max_7cf53 := ⟨by decide +kernel, by decide +kernel⟩
theorem g_mmax (C : cr_C p l e R s m args below meth c sf N base D cA cc nL own) {index : Nat} {x y : Int32} (hl : Cond.methodLink own index yJ9_max_7cf53 ∈ cr_T) (hR : 1 ≤ R.frames ∧ 21 ≤ R.locals) (hm : (st.map fun v => v.category).sum ≤ 8) (hd : decode cc pc = .ok (.invokestatic index, 3)) (hp : pc + 3 = pc') (k : cr_W p l e R s m args below meth c sf N base D cA nL Q σ pc' lv (.int (if x < y then y else x) :: st)) : cr_W p l e R s m args below meth c sf N base D cA nL Q σ pc lv (.int y :: .int x :: st) := by
  subst hp
  intro H locs ls hP hS h9
  exact va_mmax C.1 C.2.1 (C.2.2.1.trans h9.1.symm) C.2.2.2.1 (by rw [e_max.1]; exact C.2.2.2.2.1 _ hl) (by rw [e_max.1]; exact C.2.2.2.2.1 _ mv_J9_max_7cf53) (C.2.2.2.2.1 _ mi_J9) (by rw [e_max.1, e_max.2]; exact C.2.2.2.2.1 _ mc_J9_max_7cf53) hR.1 (by omega) (Nat.zero_le _) (Nat.zero_le _) hd (k H locs ls hP hS h9)
theorem e_min : Lib.Math.min.name = yJ9_min_7cf53 ∧ Lib.Math.min.code = cJ9_min_7cf53 := ⟨by decide +kernel, by decide +kernel⟩
theorem g_mmin (C : cr_C p l e R s m args below meth c sf N base D cA cc nL own) {index : Nat} {x y : Int32} (hl : Cond.methodLink own index yJ9_min_7cf53 ∈ cr_T) (hR : 1 ≤ R.frames ∧ 21 ≤ R.locals) (hm : (st.map fun v => v.category).sum ≤ 8) (hd : decode cc pc = .ok (.invokestatic index, 3)) (hp : pc + 3 = pc') (k : cr_W p l e R s m args below meth c sf N base D cA nL Q σ pc' lv (.int (if y < x then y else x) :: st)) : cr_W p l e R s m args below meth c sf N base D cA nL Q σ pc lv (.int y :: .int x :: st) := by
  subst hp
  intro H locs ls hP hS h9
  exact va_mmin C.1 C.2.1 (C.2.2.1.trans h9.1.symm) C.2.2.2.1 (by rw [e_min.1]; exact C.2.2.2.2.1 _ hl) (by rw [e_min.1]; exact C.2.2.2.2.1 _ mv_J9_min_7cf53) (C.2.2.2.2.1 _ mi_J9) (by rw [e_min.1, e_min.2]; exact C.2.2.2.2.1 _ mc_J9_min_7cf53) hR.1 (by omega) (Nat.zero_le _) (Nat.zero_le _) hd (k H locs ls hP hS h9)
end

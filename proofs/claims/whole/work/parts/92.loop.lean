def R_law : String := "ClashRocksLaw"
def lw_P (b : Addr) (xs : List Int32) (args : Array Value) (s : State) : Prop := args = #[.ref b] ∧ s.IntsAt b xs ∧ xs.length ≤ 448 ∧ (Jvm.Cond.and given_1 narrow_1).before args s = true
def lw_Q (_ : Array Value) (s : State) (o : Outcome) (t : State) : Prop := o = .returned (some (.int 1)) ∧ Framed s o t [] 600000 7302250
def lw_Z (below : List Frame) (a : Array Value) (s : State) : State → Prop := fun t => ∃ o, t.status = .running ∧ Ended t below o ∧ lw_Q a s o t
/-- the law's own end, with 1 on the stack, nothing written that was there before, its room as the claim has it -/
theorem lw_ret {p : Program} {l : Launch} {e : Env} {s : State} {m : MethodId} {below : List Frame} {meth : Method} {c : Code} {b : Nat} (hx : p.tables.exec = Jvm.exec) (hb : c.code = code) (hr : meth.sig.returnType = ret) (hlocks : meth.locks = false) {pc : Nat} {H : Heap} {ls : Array Slot} (hdg : decode code pc = .ok (.ireturn, 1)) : W p l e room_1 s m #[Value.ref b] below meth c H [] 600000 7302250 (lw_Z below #[Value.ref b] s) (F0 m pc ls [.int 1]) := by
  intro T hT X
  obtain ⟨fs, hret, hrun, hended, hW, hframe⟩ := X.leave (v := some (.int 1)) (hlocks := hlocks) (fun h => by rw [hr] at h; cases h)
  have hmeth' : T.vm.method? m = some meth := X.method'
  refine ⟨T.setFrames fs, ?_, .returned (some (.int 1)), hrun, hended, rfl, ⟨_, rfl⟩, hW, hframe⟩
  jvm_step X.here [X.here.top, hx, hb, hdg, hmeth', hr, ret, narrow_b1]
  (try refine ⟨rfl, ?_⟩); (try refine ⟨rfl, ?_⟩)
  first | (intro acts; rw [hret _ acts rfl rfl rfl]) | rw [hret _ _ rfl rfl rfl]
  exact Steps.refl _
/-- what holds at the law's entry: the machine, the code, the tables' words (any of lw_tbl by 'hts w (by decide +kernel)'), the script of L ints xs at the cell b, what the Statement gives of the start (any of its parts by flat_of_before) -/
def lw_At (p : Program) (s : State) (m : MethodId) (meth : Method) (c : Code) (b L : Nat) (xs : Nat → Int32) : Prop :=
  p.tables.exec = Jvm.exec ∧ c.code = code ∧ meth.sig.returnType = ret ∧ c.maxLocals = 4 ∧ s.vm.findClass R_law = some m.cls ∧ (∀ w ∈ lw_tbl, w.before #[Value.ref b] s = true) ∧ va_X b L xs s s.heap ∧ b < s.heap.size ∧ meth.locks = false ∧ (Jvm.Cond.and given_1 narrow_1).before #[Value.ref b] s = true
theorem L_gt {i L : Nat} (hi : i ≤ 1000) (hL : L ≤ 448) (h : ¬ Int32.ofNat L - 7 < nI i) : i + 7 ≤ L := by
  have h1 := Int32.le_iff_toInt_le.mp (Int32.not_lt.mp h)
  have e1 : (Int32.ofNat L - 7).toInt = (L : Int) - 7 := by
    show (nI L - nI 7).toInt = _
    rw [pk_sub_toInt (by omega) (by omega)]
    rfl
  rw [e1, nI_toInt (by omega)] at h1
  omega
set_option maxRecDepth 100000 in
set_option maxHeartbeats 4000000 in
theorem law_loop {p : Program} {l : Launch} {e : Env} {s : State} {m : MethodId} {b L : Nat} {xs : Nat → Int32} {below : List Frame} {meth : Method} {c : Code} {D : va_G} {cA : Nat → ClassId} (C : ly_C p s m b L xs meth c D cA) (hr : meth.sig.returnType = ret) : ∀ (n i : Nat) (σ τ : cr_S), i ≤ L + 7 → L + 7 - i < n → Inv σ τ → ly_W p l e s m b below meth c D cA (lw_Z below #[Value.ref b] s) σ τ 18 [(3, .int (nI i)), (2, .ref (s.heap.size + 97 + 0)), (1, .ref (s.heap.size + 0)), (0, .ref b)] []
  | 0, _, _, _, _, h0, _ => absurd h0 (by omega)
  | n + 1, i, σ, τ, hi, hn, hI => by
    have hL : L ≤ 448 := C.2.2.2.2.2.2.2.2.2.2.2
    refine y_iload_n (pc' := 19) C dL_law_18 0 rfl rfl ?_
    refine y_aload_n (pc' := 20) C dL_law_19 3 rfl rfl ?_
    refine y_slen (pc' := 21) C dL_law_20 rfl ?_
    refine y_bipush (pc' := 23) (v := 7) C dL_law_21 (by decide) rfl ?_
    refine y_isub (pc' := 24) C dL_law_23 rfl ?_
    refine y_icmp_gt (pc' := 27) (tgt := 1438) C dL_law_24 (by decide) rfl (fun _ => ?_) (fun hq => ?_)
    · refine y_iconst (pc' := 1439) (v := 1) C dL_law_1438 (by decide) rfl ?_
      intro H locs ls hP hP2 hS hl
      refine va_forget (fun q hq => hS.2.2 q hq) ?_
      refine W.widen (k := 600000) (n := 7302250) (by omega) (by omega) ?_
      exact lw_ret C.1 C.2.1 hr C.2.2.2.2.2.2.2.1 dL_law_1439
    · have h7 := L_gt (by omega) hL hq
      have back : ∀ σ1 τ1, Inv σ1 τ1 → ly_W p l e s m b below meth c D cA (lw_Z below #[Value.ref b] s) σ1 τ1 1432 [(3, .int (nI i)), (2, .ref (s.heap.size + 97 + 0)), (1, .ref (s.heap.size + 0)), (0, .ref b)] [] := fun σ1 τ1 h1 => by
        refine y_iinc (pc' := 1435) (v := nI (i + 7)) (lv' := [(3, .int (nI (i + 7))), (2, .ref (s.heap.size + 97 + 0)), (1, .ref (s.heap.size + 0)), (0, .ref b)]) C dL_law_1432 0 rfl (by rw [show Int32.ofInt 7 = nI 7 from rfl, nI_add]) (by decide) rfl rfl ?_
        refine y_goto (tgt := 18) C dL_law_1435 (by decide) ?_
        exact law_loop C hr n (i + 7) σ1 τ1 (by omega) (by omega) h1
      refine y_aload_n (pc' := 28) C dL_law_27 3 rfl rfl ?_
      refine y_iload_n (pc' := 29) C dL_law_28 0 rfl rfl ?_
      refine y_sld (pc' := 30) C (vp_in_nI (by omega) (by omega)) dL_law_29 rfl ?_
      refine y_bipush (pc' := 32) (v := 63) C dL_law_30 (by decide) rfl ?_
      refine y_iand (pc' := 33) C dL_law_32 rfl ?_
      generalize xs (nI i).toNatClampNeg &&& 63 = x
      by_cases ho : x.toInt < 0 ∨ 35 < x.toInt
      · refine y_tableOut (tgt := 1432) C dL_law_33 ho (by decide) ?_
        exact back σ τ hI
      · have o1 : ¬ x.toInt < 0 := fun q => ho (Or.inl q)
        have o2 : ¬ 35 < x.toInt := fun q => ho (Or.inr q)
        obtain ⟨j, hj⟩ : ∃ j : Nat, x.toInt = (j : Int) := ⟨x.toInt.toNat, by omega⟩
        rcases (show j = 0 ∨ j = 1 ∨ j = 2 ∨ j = 3 ∨ j = 4 ∨ j = 5 ∨ j = 6 ∨ j = 7 ∨ j = 8 ∨ j = 9 ∨ j = 10 ∨ j = 11 ∨ j = 12 ∨ j = 13 ∨ j = 14 ∨ j = 15 ∨ j = 16 ∨ j = 17 ∨ j = 18 ∨ j = 19 ∨ j = 20 ∨ j = 21 ∨ j = 22 ∨ j = 23 ∨ j = 24 ∨ j = 25 ∨ j = 26 ∨ j = 27 ∨ j = 28 ∨ j = 29 ∨ j = 30 ∨ j = 31 ∨ j = 32 ∨ j = 33 ∨ j = 34 ∨ j = 35 by omega) with rfl | rfl | rfl | rfl | rfl | rfl | rfl | rfl | rfl | rfl | rfl | rfl | rfl | rfl | rfl | rfl | rfl | rfl | rfl | rfl | rfl | rfl | rfl | rfl | rfl | rfl | rfl | rfl | rfl | rfl | rfl | rfl | rfl | rfl | rfl | rfl
        · exact y_tableIn (off := 159) (tgt := 192) C dL_law_33 o1 o2 (by rw [hj]; rfl) (by decide) (k_0 C h7 hI back)
        · exact y_tableIn (off := 212) (tgt := 245) C dL_law_33 o1 o2 (by rw [hj]; rfl) (by decide) (k_1 C h7 hI back)
        · exact y_tableIn (off := 245) (tgt := 278) C dL_law_33 o1 o2 (by rw [hj]; rfl) (by decide) (k_2 C h7 hI back)
        · exact y_tableIn (off := 288) (tgt := 321) C dL_law_33 o1 o2 (by rw [hj]; rfl) (by decide) (k_3 C h7 hI back)
        · exact y_tableIn (off := 321) (tgt := 354) C dL_law_33 o1 o2 (by rw [hj]; rfl) (by decide) (k_4 C h7 hI back)
        · exact y_tableIn (off := 354) (tgt := 387) C dL_law_33 o1 o2 (by rw [hj]; rfl) (by decide) (k_5 C h7 hI back)
        · exact y_tableIn (off := 387) (tgt := 420) C dL_law_33 o1 o2 (by rw [hj]; rfl) (by decide) (k_6 C h7 hI back)
        · exact y_tableIn (off := 410) (tgt := 443) C dL_law_33 o1 o2 (by rw [hj]; rfl) (by decide) (k_7 C h7 hI back)
        · exact y_tableIn (off := 423) (tgt := 456) C dL_law_33 o1 o2 (by rw [hj]; rfl) (by decide) (k_8 C h7 hI back)
        · exact y_tableIn (off := 446) (tgt := 479) C dL_law_33 o1 o2 (by rw [hj]; rfl) (by decide) (k_9 C h7 hI back)
        · exact y_tableIn (off := 469) (tgt := 502) C dL_law_33 o1 o2 (by rw [hj]; rfl) (by decide) (k_10 C h7 hI back)
        · exact y_tableIn (off := 492) (tgt := 525) C dL_law_33 o1 o2 (by rw [hj]; rfl) (by decide) (k_11 C h7 hI back)
        · exact y_tableIn (off := 515) (tgt := 548) C dL_law_33 o1 o2 (by rw [hj]; rfl) (by decide) (k_12 C h7 hI back)
        · exact y_tableIn (off := 528) (tgt := 561) C dL_law_33 o1 o2 (by rw [hj]; rfl) (by decide) (k_13 C h7 hI back)
        · exact y_tableIn (off := 551) (tgt := 584) C dL_law_33 o1 o2 (by rw [hj]; rfl) (by decide) (k_14 C h7 hI back)
        · exact y_tableIn (off := 584) (tgt := 617) C dL_law_33 o1 o2 (by rw [hj]; rfl) (by decide) (k_15 C h7 hI back)
        · exact y_tableIn (off := 627) (tgt := 660) C dL_law_33 o1 o2 (by rw [hj]; rfl) (by decide) (k_16 C h7 hI back)
        · exact y_tableIn (off := 670) (tgt := 703) C dL_law_33 o1 o2 (by rw [hj]; rfl) (by decide) (k_17 C h7 hI back)
        · exact y_tableIn (off := 713) (tgt := 746) C dL_law_33 o1 o2 (by rw [hj]; rfl) (by decide) (k_18 C h7 hI back)
        · exact y_tableIn (off := 746) (tgt := 779) C dL_law_33 o1 o2 (by rw [hj]; rfl) (by decide) (k_19 C h7 hI back)
        · exact y_tableIn (off := 789) (tgt := 822) C dL_law_33 o1 o2 (by rw [hj]; rfl) (by decide) (k_20 C h7 hI back)
        · exact y_tableIn (off := 832) (tgt := 865) C dL_law_33 o1 o2 (by rw [hj]; rfl) (by decide) (k_21 C h7 hI back)
        · exact y_tableIn (off := 875) (tgt := 908) C dL_law_33 o1 o2 (by rw [hj]; rfl) (by decide) (k_22 C h7 hI back)
        · exact y_tableIn (off := 908) (tgt := 941) C dL_law_33 o1 o2 (by rw [hj]; rfl) (by decide) (k_23 C h7 hI back)
        · exact y_tableIn (off := 941) (tgt := 974) C dL_law_33 o1 o2 (by rw [hj]; rfl) (by decide) (k_24 C h7 hI back)
        · exact y_tableIn (off := 954) (tgt := 987) C dL_law_33 o1 o2 (by rw [hj]; rfl) (by decide) (k_25 C h7 hI back)
        · exact y_tableIn (off := 977) (tgt := 1010) C dL_law_33 o1 o2 (by rw [hj]; rfl) (by decide) (k_26 C h7 hI back)
        · exact y_tableIn (off := 1000) (tgt := 1033) C dL_law_33 o1 o2 (by rw [hj]; rfl) (by decide) (k_27 C h7 hI back)
        · exact y_tableIn (off := 1033) (tgt := 1066) C dL_law_33 o1 o2 (by rw [hj]; rfl) (by decide) (k_28 C h7 hI back)
        · exact y_tableIn (off := 1046) (tgt := 1079) C dL_law_33 o1 o2 (by rw [hj]; rfl) (by decide) (k_29 C h7 hI back)
        · exact y_tableIn (off := 1059) (tgt := 1092) C dL_law_33 o1 o2 (by rw [hj]; rfl) (by decide) (k_30 C h7 hI back)
        · exact y_tableIn (off := 1134) (tgt := 1167) C dL_law_33 o1 o2 (by rw [hj]; rfl) (by decide) (k_31 C h7 hI back)
        · exact y_tableIn (off := 1187) (tgt := 1220) C dL_law_33 o1 o2 (by rw [hj]; rfl) (by decide) (k_32 C h7 hI back)
        · exact y_tableIn (off := 1230) (tgt := 1263) C dL_law_33 o1 o2 (by rw [hj]; rfl) (by decide) (k_33 C h7 hI back)
        · exact y_tableIn (off := 1253) (tgt := 1286) C dL_law_33 o1 o2 (by rw [hj]; rfl) (by decide) (k_34 C h7 hI back)
        · exact y_tableIn (off := 1336) (tgt := 1369) C dL_law_33 o1 o2 (by rw [hj]; rfl) (by decide) (k_35 C h7 hI back)

theorem ml_9 : Cond.methodLink "ClashRocksLaw" 9 yX10_init ∈ cr_T := cr_T_mem (List.mem_of_getElem? (i := 79) (by decide +kernel)) (by decide +kernel)
theorem ml_13 : Cond.methodLink "ClashRocksLaw" 13 yX10_pair ∈ cr_T := cr_T_mem (List.mem_of_getElem? (i := 402) (by decide +kernel)) (by decide +kernel)
theorem ml_18 : Cond.methodLink "ClashRocksLaw" 18 yX10_phase ∈ cr_T := cr_T_mem (List.mem_of_getElem? (i := 413) (by decide +kernel)) (by decide +kernel)
theorem ml_23 : Cond.methodLink "ClashRocksLaw" 23 yX10_ship ∈ cr_T := cr_T_mem (List.mem_of_getElem? (i := 421) (by decide +kernel)) (by decide +kernel)
theorem ml_28 : Cond.methodLink "ClashRocksLaw" 28 yX10_of ∈ cr_T := cr_T_mem (List.mem_of_getElem? (i := 429) (by decide +kernel)) (by decide +kernel)
theorem ml_32 : Cond.methodLink "ClashRocksLaw" 32 yX10_told ∈ cr_T := cr_T_mem (List.mem_of_getElem? (i := 433) (by decide +kernel)) (by decide +kernel)
theorem ml_36 : Cond.methodLink "ClashRocksLaw" 36 yX10_open ∈ cr_T := cr_T_mem (List.mem_of_getElem? (i := 454) (by decide +kernel)) (by decide +kernel)
theorem ml_40 : Cond.methodLink "ClashRocksLaw" 40 yX10_type ∈ cr_T := cr_T_mem (List.mem_of_getElem? (i := 474) (by decide +kernel)) (by decide +kernel)
theorem ml_45 : Cond.methodLink "ClashRocksLaw" 45 yX10_strait ∈ cr_T := cr_T_mem (List.mem_of_getElem? (i := 482) (by decide +kernel)) (by decide +kernel)
theorem ml_50 : Cond.methodLink "ClashRocksLaw" 50 yX10_count ∈ cr_T := cr_T_mem (List.mem_of_getElem? (i := 637) (by decide +kernel)) (by decide +kernel)
theorem ml_54 : Cond.methodLink "ClashRocksLaw" 54 yX10_setOut ∈ cr_T := cr_T_mem (List.mem_of_getElem? (i := 641) (by decide +kernel)) (by decide +kernel)
theorem ml_58 : Cond.methodLink "ClashRocksLaw" 58 yX10_idle ∈ cr_T := cr_T_mem (List.mem_of_getElem? (i := 654) (by decide +kernel)) (by decide +kernel)
theorem ml_62 : Cond.methodLink "ClashRocksLaw" 62 yX10_pass ∈ cr_T := cr_T_mem (List.mem_of_getElem? (i := 658) (by decide +kernel)) (by decide +kernel)
theorem ml_66 : Cond.methodLink "ClashRocksLaw" 66 yX10_undo ∈ cr_T := cr_T_mem (List.mem_of_getElem? (i := 674) (by decide +kernel)) (by decide +kernel)
theorem ml_70 : Cond.methodLink "ClashRocksLaw" 70 yX10_seed ∈ cr_T := cr_T_mem (List.mem_of_getElem? (i := 682) (by decide +kernel)) (by decide +kernel)
theorem ml_74 : Cond.methodLink "ClashRocksLaw" 74 yX10_lots ∈ cr_T := cr_T_mem (List.mem_of_getElem? (i := 686) (by decide +kernel)) (by decide +kernel)
theorem ml_78 : Cond.methodLink "ClashRocksLaw" 78 yX10_soonest ∈ cr_T := cr_T_mem (List.mem_of_getElem? (i := 713) (by decide +kernel)) (by decide +kernel)
theorem ml_82 : Cond.methodLink "ClashRocksLaw" 82 yX10_full ∈ cr_T := cr_T_mem (List.mem_of_getElem? (i := 753) (by decide +kernel)) (by decide +kernel)
theorem ml_86 : Cond.methodLink "ClashRocksLaw" 86 yX10_fog ∈ cr_T := cr_T_mem (List.mem_of_getElem? (i := 761) (by decide +kernel)) (by decide +kernel)
theorem ml_90 : Cond.methodLink "ClashRocksLaw" 90 yX10_sure ∈ cr_T := cr_T_mem (List.mem_of_getElem? (i := 787) (by decide +kernel)) (by decide +kernel)
theorem ml_94 : Cond.methodLink "ClashRocksLaw" 94 yX10_stones ∈ cr_T := cr_T_mem (List.mem_of_getElem? (i := 791) (by decide +kernel)) (by decide +kernel)
theorem ml_98 : Cond.methodLink "ClashRocksLaw" 98 yX10_convoy ∈ cr_T := cr_T_mem (List.mem_of_getElem? (i := 799) (by decide +kernel)) (by decide +kernel)
theorem ml_102 : Cond.methodLink "ClashRocksLaw" 102 yX10_rudder ∈ cr_T := cr_T_mem (List.mem_of_getElem? (i := 815) (by decide +kernel)) (by decide +kernel)
theorem ml_106 : Cond.methodLink "ClashRocksLaw" 106 yX10_worth ∈ cr_T := cr_T_mem (List.mem_of_getElem? (i := 819) (by decide +kernel)) (by decide +kernel)
theorem ml_110 : Cond.methodLink "ClashRocksLaw" 110 yX10_look ∈ cr_T := cr_T_mem (List.mem_of_getElem? (i := 828) (by decide +kernel)) (by decide +kernel)
theorem ml_114 : Cond.methodLink "ClashRocksLaw" 114 yX10_forget ∈ cr_T := cr_T_mem (List.mem_of_getElem? (i := 836) (by decide +kernel)) (by decide +kernel)
theorem ml_118 : Cond.methodLink "ClashRocksLaw" 118 yX10_fits ∈ cr_T := cr_T_mem (List.mem_of_getElem? (i := 840) (by decide +kernel)) (by decide +kernel)
theorem ml_122 : Cond.methodLink "ClashRocksLaw" 122 yX10_foretell ∈ cr_T := cr_T_mem (List.mem_of_getElem? (i := 857) (by decide +kernel)) (by decide +kernel)
theorem ml_126 : Cond.methodLink "ClashRocksLaw" 126 yX10_next ∈ cr_T := cr_T_mem (List.mem_of_getElem? (i := 861) (by decide +kernel)) (by decide +kernel)
theorem ml_130 : Cond.methodLink "ClashRocksLaw" 130 yX10_image ∈ cr_T := cr_T_mem (List.mem_of_getElem? (i := 870) (by decide +kernel)) (by decide +kernel)
theorem ml_134 : Cond.methodLink "ClashRocksLaw" 134 yX10_restore ∈ cr_T := cr_T_mem (List.mem_of_getElem? (i := 882) (by decide +kernel)) (by decide +kernel)
theorem ml_138 : Cond.methodLink "ClashRocksLaw" 138 yX10_judged ∈ cr_T := cr_T_mem (List.mem_of_getElem? (i := 886) (by decide +kernel)) (by decide +kernel)
theorem ml_143 : Cond.methodLink "ClashRocksLaw" 143 yX10_film ∈ cr_T := cr_T_mem (List.mem_of_getElem? (i := 902) (by decide +kernel)) (by decide +kernel)
theorem ml_147 : Cond.methodLink "ClashRocksLaw" 147 yX10_sheet ∈ cr_T := cr_T_mem (List.mem_of_getElem? (i := 906) (by decide +kernel)) (by decide +kernel)
theorem ml_151 : Cond.methodLink "ClashRocksLaw" 151 yX10_drop ∈ cr_T := cr_T_mem (List.mem_of_getElem? (i := 917) (by decide +kernel)) (by decide +kernel)
theorem ml_157 : Cond.methodLink "ClashRocksLaw" 157 yX10_item ∈ cr_T := cr_T_mem (List.mem_of_getElem? (i := 921) (by decide +kernel)) (by decide +kernel)
theorem ml_162 : Cond.methodLink "ClashRocksLaw" 162 yX10_copy ∈ cr_T := cr_T_mem (List.mem_of_getElem? (i := 928) (by decide +kernel)) (by decide +kernel)
theorem ml_12 : Cond.methodLink "ClashRocksLaw" 12 yX11_init ∈ cr_T := cr_T_mem (List.mem_of_getElem? (i := 938) (by decide +kernel)) (by decide +kernel)
theorem ml_17 : Cond.methodLink "ClashRocksLaw" 17 yX11_pair ∈ cr_T := cr_T_mem (List.mem_of_getElem? (i := 1045) (by decide +kernel)) (by decide +kernel)
theorem ml_22 : Cond.methodLink "ClashRocksLaw" 22 yX11_phase ∈ cr_T := cr_T_mem (List.mem_of_getElem? (i := 1060) (by decide +kernel)) (by decide +kernel)
theorem ml_27 : Cond.methodLink "ClashRocksLaw" 27 yX11_ship ∈ cr_T := cr_T_mem (List.mem_of_getElem? (i := 1068) (by decide +kernel)) (by decide +kernel)
theorem ml_31 : Cond.methodLink "ClashRocksLaw" 31 yX11_of ∈ cr_T := cr_T_mem (List.mem_of_getElem? (i := 1078) (by decide +kernel)) (by decide +kernel)
theorem ml_35 : Cond.methodLink "ClashRocksLaw" 35 yX11_told ∈ cr_T := cr_T_mem (List.mem_of_getElem? (i := 1083) (by decide +kernel)) (by decide +kernel)
theorem ml_39 : Cond.methodLink "ClashRocksLaw" 39 yX11_open ∈ cr_T := cr_T_mem (List.mem_of_getElem? (i := 1103) (by decide +kernel)) (by decide +kernel)
theorem ml_44 : Cond.methodLink "ClashRocksLaw" 44 yX11_type ∈ cr_T := cr_T_mem (List.mem_of_getElem? (i := 1116) (by decide +kernel)) (by decide +kernel)
theorem ml_49 : Cond.methodLink "ClashRocksLaw" 49 yX11_strait ∈ cr_T := cr_T_mem (List.mem_of_getElem? (i := 1122) (by decide +kernel)) (by decide +kernel)
theorem ml_53 : Cond.methodLink "ClashRocksLaw" 53 yX11_count ∈ cr_T := cr_T_mem (List.mem_of_getElem? (i := 1160) (by decide +kernel)) (by decide +kernel)
theorem ml_57 : Cond.methodLink "ClashRocksLaw" 57 yX11_setOut ∈ cr_T := cr_T_mem (List.mem_of_getElem? (i := 1164) (by decide +kernel)) (by decide +kernel)
theorem ml_61 : Cond.methodLink "ClashRocksLaw" 61 yX11_idle ∈ cr_T := cr_T_mem (List.mem_of_getElem? (i := 1172) (by decide +kernel)) (by decide +kernel)
theorem ml_65 : Cond.methodLink "ClashRocksLaw" 65 yX11_pass ∈ cr_T := cr_T_mem (List.mem_of_getElem? (i := 1177) (by decide +kernel)) (by decide +kernel)
theorem ml_69 : Cond.methodLink "ClashRocksLaw" 69 yX11_undo ∈ cr_T := cr_T_mem (List.mem_of_getElem? (i := 1188) (by decide +kernel)) (by decide +kernel)
theorem ml_73 : Cond.methodLink "ClashRocksLaw" 73 yX11_seed ∈ cr_T := cr_T_mem (List.mem_of_getElem? (i := 1192) (by decide +kernel)) (by decide +kernel)
theorem ml_77 : Cond.methodLink "ClashRocksLaw" 77 yX11_lots ∈ cr_T := cr_T_mem (List.mem_of_getElem? (i := 1196) (by decide +kernel)) (by decide +kernel)
theorem ml_81 : Cond.methodLink "ClashRocksLaw" 81 yX11_soonest ∈ cr_T := cr_T_mem (List.mem_of_getElem? (i := 1211) (by decide +kernel)) (by decide +kernel)
theorem ml_85 : Cond.methodLink "ClashRocksLaw" 85 yX11_full ∈ cr_T := cr_T_mem (List.mem_of_getElem? (i := 1233) (by decide +kernel)) (by decide +kernel)
theorem ml_89 : Cond.methodLink "ClashRocksLaw" 89 yX11_fog ∈ cr_T := cr_T_mem (List.mem_of_getElem? (i := 1237) (by decide +kernel)) (by decide +kernel)
theorem ml_93 : Cond.methodLink "ClashRocksLaw" 93 yX11_sure ∈ cr_T := cr_T_mem (List.mem_of_getElem? (i := 1248) (by decide +kernel)) (by decide +kernel)
theorem ml_97 : Cond.methodLink "ClashRocksLaw" 97 yX11_stones ∈ cr_T := cr_T_mem (List.mem_of_getElem? (i := 1252) (by decide +kernel)) (by decide +kernel)
theorem ml_101 : Cond.methodLink "ClashRocksLaw" 101 yX11_convoy ∈ cr_T := cr_T_mem (List.mem_of_getElem? (i := 1257) (by decide +kernel)) (by decide +kernel)
theorem ml_105 : Cond.methodLink "ClashRocksLaw" 105 yX11_rudder ∈ cr_T := cr_T_mem (List.mem_of_getElem? (i := 1264) (by decide +kernel)) (by decide +kernel)
theorem ml_109 : Cond.methodLink "ClashRocksLaw" 109 yX11_worth ∈ cr_T := cr_T_mem (List.mem_of_getElem? (i := 1269) (by decide +kernel)) (by decide +kernel)
theorem ml_113 : Cond.methodLink "ClashRocksLaw" 113 yX11_look ∈ cr_T := cr_T_mem (List.mem_of_getElem? (i := 1277) (by decide +kernel)) (by decide +kernel)
theorem ml_117 : Cond.methodLink "ClashRocksLaw" 117 yX11_forget ∈ cr_T := cr_T_mem (List.mem_of_getElem? (i := 1281) (by decide +kernel)) (by decide +kernel)
theorem ml_121 : Cond.methodLink "ClashRocksLaw" 121 yX11_fits ∈ cr_T := cr_T_mem (List.mem_of_getElem? (i := 1285) (by decide +kernel)) (by decide +kernel)
theorem ml_125 : Cond.methodLink "ClashRocksLaw" 125 yX11_foretell ∈ cr_T := cr_T_mem (List.mem_of_getElem? (i := 1296) (by decide +kernel)) (by decide +kernel)
theorem ml_129 : Cond.methodLink "ClashRocksLaw" 129 yX11_next ∈ cr_T := cr_T_mem (List.mem_of_getElem? (i := 1300) (by decide +kernel)) (by decide +kernel)
theorem ml_133 : Cond.methodLink "ClashRocksLaw" 133 yX11_image ∈ cr_T := cr_T_mem (List.mem_of_getElem? (i := 1304) (by decide +kernel)) (by decide +kernel)
theorem ml_137 : Cond.methodLink "ClashRocksLaw" 137 yX11_restore ∈ cr_T := cr_T_mem (List.mem_of_getElem? (i := 1312) (by decide +kernel)) (by decide +kernel)
theorem ml_142 : Cond.methodLink "ClashRocksLaw" 142 yX11_judged ∈ cr_T := cr_T_mem (List.mem_of_getElem? (i := 1320) (by decide +kernel)) (by decide +kernel)
theorem ml_146 : Cond.methodLink "ClashRocksLaw" 146 yX11_film ∈ cr_T := cr_T_mem (List.mem_of_getElem? (i := 1334) (by decide +kernel)) (by decide +kernel)
theorem ml_150 : Cond.methodLink "ClashRocksLaw" 150 yX11_sheet ∈ cr_T := cr_T_mem (List.mem_of_getElem? (i := 1343) (by decide +kernel)) (by decide +kernel)
theorem ml_154 : Cond.methodLink "ClashRocksLaw" 154 yX11_drop ∈ cr_T := cr_T_mem (List.mem_of_getElem? (i := 1347) (by decide +kernel)) (by decide +kernel)
theorem ml_161 : Cond.methodLink "ClashRocksLaw" 161 yX11_item ∈ cr_T := cr_T_mem (List.mem_of_getElem? (i := 1351) (by decide +kernel)) (by decide +kernel)
theorem ml_166 : Cond.methodLink "ClashRocksLaw" 166 yX11_copy ∈ cr_T := cr_T_mem (List.mem_of_getElem? (i := 1355) (by decide +kernel)) (by decide +kernel)
theorem mk_155 : Cond.constantLong "ClashRocksLaw" 155 (4294967295) ∈ cr_T := cr_T_mem (List.mem_of_getElem? (i := 1359) (by decide +kernel)) (by decide +kernel)
theorem vin {i L k : Nat} {x : Int32} (hx : x = nI k) (h : i + k < L) (hL : L ≤ 448) : vp_in (nI i + x) L := by
  rw [hx, nI_add]
  exact vp_in_nI h (by omega)
section
variable {p : Program} {l : Launch} {e : Env} {s : State} {m : MethodId} {b L : Nat} {xs : Nat → Int32} {below : List Frame} {meth : Method} {c : Code} {D : va_G} {cA : Nat → ClassId} {Q : State → Prop} {σ τ : cr_S} {i : Nat}
set_option maxRecDepth 100000 in
theorem k_0 (C : ly_C p s m b L xs meth c D cA) (hi : i + 7 ≤ L) (h : Inv σ τ) (back : ∀ σ1 τ1, Inv σ1 τ1 → ly_W p l e s m b below meth c D cA Q σ1 τ1 1432 [(3, .int (nI i)), (2, .ref (s.heap.size + 97 + 0)), (1, .ref (s.heap.size + 0)), (0, .ref b)] []) : ly_W p l e s m b below meth c D cA Q σ τ 192 [(3, .int (nI i)), (2, .ref (s.heap.size + 97 + 0)), (1, .ref (s.heap.size + 0)), (0, .ref b)] [] := by
  obtain ⟨σ1, τ1, r, hC, hM, hI⟩ := S_pair (a := xs (nI i + 1).toNatClampNeg) (b := xs (nI i + 2).toNatClampNeg) (c := xs (nI i + 3).toNatClampNeg) (d := xs (nI i + 4).toNatClampNeg) h
  refine y_aload_n (pc' := 193) C dL_law_192 2 rfl rfl ?_
  refine y_aload_n (pc' := 194) C dL_law_193 3 rfl rfl ?_
  refine y_iload_n (pc' := 195) C dL_law_194 0 rfl rfl ?_
  refine y_iconst (pc' := 196) (v := 1) C dL_law_195 (by decide) rfl ?_
  refine y_iadd (pc' := 197) C dL_law_196 rfl ?_
  refine y_sld (pc' := 198) C (vin (k := 1) rfl (by omega) C.2.2.2.2.2.2.2.2.2.2.2) dL_law_197 rfl ?_
  refine y_aload_n (pc' := 199) C dL_law_198 3 rfl rfl ?_
  refine y_iload_n (pc' := 200) C dL_law_199 0 rfl rfl ?_
  refine y_iconst (pc' := 201) (v := 2) C dL_law_200 (by decide) rfl ?_
  refine y_iadd (pc' := 202) C dL_law_201 rfl ?_
  refine y_sld (pc' := 203) C (vin (k := 2) rfl (by omega) C.2.2.2.2.2.2.2.2.2.2.2) dL_law_202 rfl ?_
  refine y_aload_n (pc' := 204) C dL_law_203 3 rfl rfl ?_
  refine y_iload_n (pc' := 205) C dL_law_204 0 rfl rfl ?_
  refine y_iconst (pc' := 206) (v := 3) C dL_law_205 (by decide) rfl ?_
  refine y_iadd (pc' := 207) C dL_law_206 rfl ?_
  refine y_sld (pc' := 208) C (vin (k := 3) rfl (by omega) C.2.2.2.2.2.2.2.2.2.2.2) dL_law_207 rfl ?_
  refine y_aload_n (pc' := 209) C dL_law_208 3 rfl rfl ?_
  refine y_iload_n (pc' := 210) C dL_law_209 0 rfl rfl ?_
  refine y_iconst (pc' := 211) (v := 4) C dL_law_210 (by decide) rfl ?_
  refine y_iadd (pc' := 212) C dL_law_211 rfl ?_
  refine y_sld (pc' := 213) C (vin (k := 4) rfl (by omega) C.2.2.2.2.2.2.2.2.2.2.2) dL_law_212 rfl ?_
  refine y_callC (pc' := 216) (res := (σ1, r)) C [.int (xs (nI i + 1).toNatClampNeg), .int (xs (nI i + 2).toNatClampNeg), .int (xs (nI i + 3).toNatClampNeg), .int (xs (nI i + 4).toNatClampNeg)] cY_X10_pair mv_X10_pair ml_13 ⟨Nat.le_of_ble_eq_true rfl, Nat.le_of_ble_eq_true rfl⟩ rfl (Nat.le_of_ble_eq_true rfl) rfl dL_law_213 (c_X10_pair l s.heap.size D cA σ (xs (nI i + 1).toNatClampNeg) (xs (nI i + 2).toNatClampNeg) (xs (nI i + 3).toNatClampNeg) (xs (nI i + 4).toNatClampNeg) (σ1, r) hC) rfl ?_
  refine y_aload_n (pc' := 217) C dL_law_216 1 rfl rfl ?_
  refine y_aload_n (pc' := 218) C dL_law_217 3 rfl rfl ?_
  refine y_iload_n (pc' := 219) C dL_law_218 0 rfl rfl ?_
  refine y_iconst (pc' := 220) (v := 1) C dL_law_219 (by decide) rfl ?_
  refine y_iadd (pc' := 221) C dL_law_220 rfl ?_
  refine y_sld (pc' := 222) C (vin (k := 1) rfl (by omega) C.2.2.2.2.2.2.2.2.2.2.2) dL_law_221 rfl ?_
  refine y_aload_n (pc' := 223) C dL_law_222 3 rfl rfl ?_
  refine y_iload_n (pc' := 224) C dL_law_223 0 rfl rfl ?_
  refine y_iconst (pc' := 225) (v := 2) C dL_law_224 (by decide) rfl ?_
  refine y_iadd (pc' := 226) C dL_law_225 rfl ?_
  refine y_sld (pc' := 227) C (vin (k := 2) rfl (by omega) C.2.2.2.2.2.2.2.2.2.2.2) dL_law_226 rfl ?_
  refine y_aload_n (pc' := 228) C dL_law_227 3 rfl rfl ?_
  refine y_iload_n (pc' := 229) C dL_law_228 0 rfl rfl ?_
  refine y_iconst (pc' := 230) (v := 3) C dL_law_229 (by decide) rfl ?_
  refine y_iadd (pc' := 231) C dL_law_230 rfl ?_
  refine y_sld (pc' := 232) C (vin (k := 3) rfl (by omega) C.2.2.2.2.2.2.2.2.2.2.2) dL_law_231 rfl ?_
  refine y_aload_n (pc' := 233) C dL_law_232 3 rfl rfl ?_
  refine y_iload_n (pc' := 234) C dL_law_233 0 rfl rfl ?_
  refine y_iconst (pc' := 235) (v := 4) C dL_law_234 (by decide) rfl ?_
  refine y_iadd (pc' := 236) C dL_law_235 rfl ?_
  refine y_sld (pc' := 237) C (vin (k := 4) rfl (by omega) C.2.2.2.2.2.2.2.2.2.2.2) dL_law_236 rfl ?_
  refine y_callM (pc' := 240) (res := (τ1, r)) C [.int (xs (nI i + 1).toNatClampNeg), .int (xs (nI i + 2).toNatClampNeg), .int (xs (nI i + 3).toNatClampNeg), .int (xs (nI i + 4).toNatClampNeg)] cY_X11_pair mv_X11_pair ml_17 ⟨Nat.le_of_ble_eq_true rfl, Nat.le_of_ble_eq_true rfl⟩ rfl (Nat.le_of_ble_eq_true rfl) rfl dL_law_237 (c_X11_pair l (s.heap.size + 97) D cA τ (xs (nI i + 1).toNatClampNeg) (xs (nI i + 2).toNatClampNeg) (xs (nI i + 3).toNatClampNeg) (xs (nI i + 4).toNatClampNeg) (τ1, r) hM) rfl ?_
  refine y_icmp_eq (pc' := 243) (tgt := 1432) C dL_law_240 (by decide) rfl (fun _ => ?_) (fun q => absurd rfl q)
  exact back σ1 τ1 hI
set_option maxRecDepth 100000 in
theorem k_1 (C : ly_C p s m b L xs meth c D cA) (hi : i + 7 ≤ L) (h : Inv σ τ) (back : ∀ σ1 τ1, Inv σ1 τ1 → ly_W p l e s m b below meth c D cA Q σ1 τ1 1432 [(3, .int (nI i)), (2, .ref (s.heap.size + 97 + 0)), (1, .ref (s.heap.size + 0)), (0, .ref b)] []) : ly_W p l e s m b below meth c D cA Q σ τ 245 [(3, .int (nI i)), (2, .ref (s.heap.size + 97 + 0)), (1, .ref (s.heap.size + 0)), (0, .ref b)] [] := by
  obtain ⟨σ1, τ1, r, hC, hM, hI⟩ := S_phase (a := xs (nI i + 1).toNatClampNeg) (b := xs (nI i + 2).toNatClampNeg) h
  refine y_aload_n (pc' := 246) C dL_law_245 2 rfl rfl ?_
  refine y_aload_n (pc' := 247) C dL_law_246 3 rfl rfl ?_
  refine y_iload_n (pc' := 248) C dL_law_247 0 rfl rfl ?_
  refine y_iconst (pc' := 249) (v := 1) C dL_law_248 (by decide) rfl ?_
  refine y_iadd (pc' := 250) C dL_law_249 rfl ?_
  refine y_sld (pc' := 251) C (vin (k := 1) rfl (by omega) C.2.2.2.2.2.2.2.2.2.2.2) dL_law_250 rfl ?_
  refine y_aload_n (pc' := 252) C dL_law_251 3 rfl rfl ?_
  refine y_iload_n (pc' := 253) C dL_law_252 0 rfl rfl ?_
  refine y_iconst (pc' := 254) (v := 2) C dL_law_253 (by decide) rfl ?_
  refine y_iadd (pc' := 255) C dL_law_254 rfl ?_
  refine y_sld (pc' := 256) C (vin (k := 2) rfl (by omega) C.2.2.2.2.2.2.2.2.2.2.2) dL_law_255 rfl ?_
  refine y_callC (pc' := 259) (res := (σ1, r)) C [.int (xs (nI i + 1).toNatClampNeg), .int (xs (nI i + 2).toNatClampNeg)] cY_X10_phase mv_X10_phase ml_18 ⟨Nat.le_of_ble_eq_true rfl, Nat.le_of_ble_eq_true rfl⟩ rfl (Nat.le_of_ble_eq_true rfl) rfl dL_law_256 (c_X10_phase l s.heap.size D cA σ (xs (nI i + 1).toNatClampNeg) (xs (nI i + 2).toNatClampNeg) (σ1, r) hC) rfl ?_
  refine y_aload_n (pc' := 260) C dL_law_259 1 rfl rfl ?_
  refine y_aload_n (pc' := 261) C dL_law_260 3 rfl rfl ?_
  refine y_iload_n (pc' := 262) C dL_law_261 0 rfl rfl ?_
  refine y_iconst (pc' := 263) (v := 1) C dL_law_262 (by decide) rfl ?_
  refine y_iadd (pc' := 264) C dL_law_263 rfl ?_
  refine y_sld (pc' := 265) C (vin (k := 1) rfl (by omega) C.2.2.2.2.2.2.2.2.2.2.2) dL_law_264 rfl ?_
  refine y_aload_n (pc' := 266) C dL_law_265 3 rfl rfl ?_
  refine y_iload_n (pc' := 267) C dL_law_266 0 rfl rfl ?_
  refine y_iconst (pc' := 268) (v := 2) C dL_law_267 (by decide) rfl ?_
  refine y_iadd (pc' := 269) C dL_law_268 rfl ?_
  refine y_sld (pc' := 270) C (vin (k := 2) rfl (by omega) C.2.2.2.2.2.2.2.2.2.2.2) dL_law_269 rfl ?_
  refine y_callM (pc' := 273) (res := (τ1, r)) C [.int (xs (nI i + 1).toNatClampNeg), .int (xs (nI i + 2).toNatClampNeg)] cY_X11_phase mv_X11_phase ml_22 ⟨Nat.le_of_ble_eq_true rfl, Nat.le_of_ble_eq_true rfl⟩ rfl (Nat.le_of_ble_eq_true rfl) rfl dL_law_270 (c_X11_phase l (s.heap.size + 97) D cA τ (xs (nI i + 1).toNatClampNeg) (xs (nI i + 2).toNatClampNeg) (τ1, r) hM) rfl ?_
  refine y_icmp_eq (pc' := 276) (tgt := 1432) C dL_law_273 (by decide) rfl (fun _ => ?_) (fun q => absurd rfl q)
  exact back σ1 τ1 hI
set_option maxRecDepth 100000 in
theorem k_2 (C : ly_C p s m b L xs meth c D cA) (hi : i + 7 ≤ L) (h : Inv σ τ) (back : ∀ σ1 τ1, Inv σ1 τ1 → ly_W p l e s m b below meth c D cA Q σ1 τ1 1432 [(3, .int (nI i)), (2, .ref (s.heap.size + 97 + 0)), (1, .ref (s.heap.size + 0)), (0, .ref b)] []) : ly_W p l e s m b below meth c D cA Q σ τ 278 [(3, .int (nI i)), (2, .ref (s.heap.size + 97 + 0)), (1, .ref (s.heap.size + 0)), (0, .ref b)] [] := by
  obtain ⟨σ1, τ1, r, hC, hM, hI⟩ := S_ship (a := xs (nI i + 1).toNatClampNeg) (b := xs (nI i + 2).toNatClampNeg) (c := xs (nI i + 3).toNatClampNeg) h
  refine y_aload_n (pc' := 279) C dL_law_278 2 rfl rfl ?_
  refine y_aload_n (pc' := 280) C dL_law_279 3 rfl rfl ?_
  refine y_iload_n (pc' := 281) C dL_law_280 0 rfl rfl ?_
  refine y_iconst (pc' := 282) (v := 1) C dL_law_281 (by decide) rfl ?_
  refine y_iadd (pc' := 283) C dL_law_282 rfl ?_
  refine y_sld (pc' := 284) C (vin (k := 1) rfl (by omega) C.2.2.2.2.2.2.2.2.2.2.2) dL_law_283 rfl ?_
  refine y_aload_n (pc' := 285) C dL_law_284 3 rfl rfl ?_
  refine y_iload_n (pc' := 286) C dL_law_285 0 rfl rfl ?_
  refine y_iconst (pc' := 287) (v := 2) C dL_law_286 (by decide) rfl ?_
  refine y_iadd (pc' := 288) C dL_law_287 rfl ?_
  refine y_sld (pc' := 289) C (vin (k := 2) rfl (by omega) C.2.2.2.2.2.2.2.2.2.2.2) dL_law_288 rfl ?_
  refine y_aload_n (pc' := 290) C dL_law_289 3 rfl rfl ?_
  refine y_iload_n (pc' := 291) C dL_law_290 0 rfl rfl ?_
  refine y_iconst (pc' := 292) (v := 3) C dL_law_291 (by decide) rfl ?_
  refine y_iadd (pc' := 293) C dL_law_292 rfl ?_
  refine y_sld (pc' := 294) C (vin (k := 3) rfl (by omega) C.2.2.2.2.2.2.2.2.2.2.2) dL_law_293 rfl ?_
  refine y_callC (pc' := 297) (res := (σ1, r)) C [.int (xs (nI i + 1).toNatClampNeg), .int (xs (nI i + 2).toNatClampNeg), .int (xs (nI i + 3).toNatClampNeg)] cY_X10_ship mv_X10_ship ml_23 ⟨Nat.le_of_ble_eq_true rfl, Nat.le_of_ble_eq_true rfl⟩ rfl (Nat.le_of_ble_eq_true rfl) rfl dL_law_294 (c_X10_ship l s.heap.size D cA σ (xs (nI i + 1).toNatClampNeg) (xs (nI i + 2).toNatClampNeg) (xs (nI i + 3).toNatClampNeg) (σ1, r) hC) rfl ?_
  refine y_aload_n (pc' := 298) C dL_law_297 1 rfl rfl ?_
  refine y_aload_n (pc' := 299) C dL_law_298 3 rfl rfl ?_
  refine y_iload_n (pc' := 300) C dL_law_299 0 rfl rfl ?_
  refine y_iconst (pc' := 301) (v := 1) C dL_law_300 (by decide) rfl ?_
  refine y_iadd (pc' := 302) C dL_law_301 rfl ?_
  refine y_sld (pc' := 303) C (vin (k := 1) rfl (by omega) C.2.2.2.2.2.2.2.2.2.2.2) dL_law_302 rfl ?_
  refine y_aload_n (pc' := 304) C dL_law_303 3 rfl rfl ?_
  refine y_iload_n (pc' := 305) C dL_law_304 0 rfl rfl ?_
  refine y_iconst (pc' := 306) (v := 2) C dL_law_305 (by decide) rfl ?_
  refine y_iadd (pc' := 307) C dL_law_306 rfl ?_
  refine y_sld (pc' := 308) C (vin (k := 2) rfl (by omega) C.2.2.2.2.2.2.2.2.2.2.2) dL_law_307 rfl ?_
  refine y_aload_n (pc' := 309) C dL_law_308 3 rfl rfl ?_
  refine y_iload_n (pc' := 310) C dL_law_309 0 rfl rfl ?_
  refine y_iconst (pc' := 311) (v := 3) C dL_law_310 (by decide) rfl ?_
  refine y_iadd (pc' := 312) C dL_law_311 rfl ?_
  refine y_sld (pc' := 313) C (vin (k := 3) rfl (by omega) C.2.2.2.2.2.2.2.2.2.2.2) dL_law_312 rfl ?_
  refine y_callM (pc' := 316) (res := (τ1, r)) C [.int (xs (nI i + 1).toNatClampNeg), .int (xs (nI i + 2).toNatClampNeg), .int (xs (nI i + 3).toNatClampNeg)] cY_X11_ship mv_X11_ship ml_27 ⟨Nat.le_of_ble_eq_true rfl, Nat.le_of_ble_eq_true rfl⟩ rfl (Nat.le_of_ble_eq_true rfl) rfl dL_law_313 (c_X11_ship l (s.heap.size + 97) D cA τ (xs (nI i + 1).toNatClampNeg) (xs (nI i + 2).toNatClampNeg) (xs (nI i + 3).toNatClampNeg) (τ1, r) hM) rfl ?_
  refine y_icmp_eq (pc' := 319) (tgt := 1432) C dL_law_316 (by decide) rfl (fun _ => ?_) (fun q => absurd rfl q)
  exact back σ1 τ1 hI
set_option maxRecDepth 100000 in
theorem k_3 (C : ly_C p s m b L xs meth c D cA) (hi : i + 7 ≤ L) (h : Inv σ τ) (back : ∀ σ1 τ1, Inv σ1 τ1 → ly_W p l e s m b below meth c D cA Q σ1 τ1 1432 [(3, .int (nI i)), (2, .ref (s.heap.size + 97 + 0)), (1, .ref (s.heap.size + 0)), (0, .ref b)] []) : ly_W p l e s m b below meth c D cA Q σ τ 321 [(3, .int (nI i)), (2, .ref (s.heap.size + 97 + 0)), (1, .ref (s.heap.size + 0)), (0, .ref b)] [] := by
  obtain ⟨σ1, τ1, r, hC, hM, hI⟩ := S_of (a := xs (nI i + 1).toNatClampNeg) (b := xs (nI i + 2).toNatClampNeg) h
  refine y_aload_n (pc' := 322) C dL_law_321 2 rfl rfl ?_
  refine y_aload_n (pc' := 323) C dL_law_322 3 rfl rfl ?_
  refine y_iload_n (pc' := 324) C dL_law_323 0 rfl rfl ?_
  refine y_iconst (pc' := 325) (v := 1) C dL_law_324 (by decide) rfl ?_
  refine y_iadd (pc' := 326) C dL_law_325 rfl ?_
  refine y_sld (pc' := 327) C (vin (k := 1) rfl (by omega) C.2.2.2.2.2.2.2.2.2.2.2) dL_law_326 rfl ?_
  refine y_aload_n (pc' := 328) C dL_law_327 3 rfl rfl ?_
  refine y_iload_n (pc' := 329) C dL_law_328 0 rfl rfl ?_
  refine y_iconst (pc' := 330) (v := 2) C dL_law_329 (by decide) rfl ?_
  refine y_iadd (pc' := 331) C dL_law_330 rfl ?_
  refine y_sld (pc' := 332) C (vin (k := 2) rfl (by omega) C.2.2.2.2.2.2.2.2.2.2.2) dL_law_331 rfl ?_
  refine y_callC (pc' := 335) (res := (σ1, r)) C [.int (xs (nI i + 1).toNatClampNeg), .int (xs (nI i + 2).toNatClampNeg)] cY_X10_of mv_X10_of ml_28 ⟨Nat.le_of_ble_eq_true rfl, Nat.le_of_ble_eq_true rfl⟩ rfl (Nat.le_of_ble_eq_true rfl) rfl dL_law_332 (c_X10_of l s.heap.size D cA σ (xs (nI i + 1).toNatClampNeg) (xs (nI i + 2).toNatClampNeg) (σ1, r) hC) rfl ?_
  refine y_aload_n (pc' := 336) C dL_law_335 1 rfl rfl ?_
  refine y_aload_n (pc' := 337) C dL_law_336 3 rfl rfl ?_
  refine y_iload_n (pc' := 338) C dL_law_337 0 rfl rfl ?_
  refine y_iconst (pc' := 339) (v := 1) C dL_law_338 (by decide) rfl ?_
  refine y_iadd (pc' := 340) C dL_law_339 rfl ?_
  refine y_sld (pc' := 341) C (vin (k := 1) rfl (by omega) C.2.2.2.2.2.2.2.2.2.2.2) dL_law_340 rfl ?_
  refine y_aload_n (pc' := 342) C dL_law_341 3 rfl rfl ?_
  refine y_iload_n (pc' := 343) C dL_law_342 0 rfl rfl ?_
  refine y_iconst (pc' := 344) (v := 2) C dL_law_343 (by decide) rfl ?_
  refine y_iadd (pc' := 345) C dL_law_344 rfl ?_
  refine y_sld (pc' := 346) C (vin (k := 2) rfl (by omega) C.2.2.2.2.2.2.2.2.2.2.2) dL_law_345 rfl ?_
  refine y_callM (pc' := 349) (res := (τ1, r)) C [.int (xs (nI i + 1).toNatClampNeg), .int (xs (nI i + 2).toNatClampNeg)] cY_X11_of mv_X11_of ml_31 ⟨Nat.le_of_ble_eq_true rfl, Nat.le_of_ble_eq_true rfl⟩ rfl (Nat.le_of_ble_eq_true rfl) rfl dL_law_346 (c_X11_of l (s.heap.size + 97) D cA τ (xs (nI i + 1).toNatClampNeg) (xs (nI i + 2).toNatClampNeg) (τ1, r) hM) rfl ?_
  refine y_icmp_eq (pc' := 352) (tgt := 1432) C dL_law_349 (by decide) rfl (fun _ => ?_) (fun q => absurd rfl q)
  exact back σ1 τ1 hI
set_option maxRecDepth 100000 in
theorem k_4 (C : ly_C p s m b L xs meth c D cA) (hi : i + 7 ≤ L) (h : Inv σ τ) (back : ∀ σ1 τ1, Inv σ1 τ1 → ly_W p l e s m b below meth c D cA Q σ1 τ1 1432 [(3, .int (nI i)), (2, .ref (s.heap.size + 97 + 0)), (1, .ref (s.heap.size + 0)), (0, .ref b)] []) : ly_W p l e s m b below meth c D cA Q σ τ 354 [(3, .int (nI i)), (2, .ref (s.heap.size + 97 + 0)), (1, .ref (s.heap.size + 0)), (0, .ref b)] [] := by
  obtain ⟨σ1, τ1, r, hC, hM, hI⟩ := S_told (a := xs (nI i + 1).toNatClampNeg) (b := xs (nI i + 2).toNatClampNeg) h
  refine y_aload_n (pc' := 355) C dL_law_354 2 rfl rfl ?_
  refine y_aload_n (pc' := 356) C dL_law_355 3 rfl rfl ?_
  refine y_iload_n (pc' := 357) C dL_law_356 0 rfl rfl ?_
  refine y_iconst (pc' := 358) (v := 1) C dL_law_357 (by decide) rfl ?_
  refine y_iadd (pc' := 359) C dL_law_358 rfl ?_
  refine y_sld (pc' := 360) C (vin (k := 1) rfl (by omega) C.2.2.2.2.2.2.2.2.2.2.2) dL_law_359 rfl ?_
  refine y_aload_n (pc' := 361) C dL_law_360 3 rfl rfl ?_
  refine y_iload_n (pc' := 362) C dL_law_361 0 rfl rfl ?_
  refine y_iconst (pc' := 363) (v := 2) C dL_law_362 (by decide) rfl ?_
  refine y_iadd (pc' := 364) C dL_law_363 rfl ?_
  refine y_sld (pc' := 365) C (vin (k := 2) rfl (by omega) C.2.2.2.2.2.2.2.2.2.2.2) dL_law_364 rfl ?_
  refine y_callC (pc' := 368) (res := (σ1, r)) C [.int (xs (nI i + 1).toNatClampNeg), .int (xs (nI i + 2).toNatClampNeg)] cY_X10_told mv_X10_told ml_32 ⟨Nat.le_of_ble_eq_true rfl, Nat.le_of_ble_eq_true rfl⟩ rfl (Nat.le_of_ble_eq_true rfl) rfl dL_law_365 (c_X10_told l s.heap.size D cA σ (xs (nI i + 1).toNatClampNeg) (xs (nI i + 2).toNatClampNeg) (σ1, r) hC) rfl ?_
  refine y_aload_n (pc' := 369) C dL_law_368 1 rfl rfl ?_
  refine y_aload_n (pc' := 370) C dL_law_369 3 rfl rfl ?_
  refine y_iload_n (pc' := 371) C dL_law_370 0 rfl rfl ?_
  refine y_iconst (pc' := 372) (v := 1) C dL_law_371 (by decide) rfl ?_
  refine y_iadd (pc' := 373) C dL_law_372 rfl ?_
  refine y_sld (pc' := 374) C (vin (k := 1) rfl (by omega) C.2.2.2.2.2.2.2.2.2.2.2) dL_law_373 rfl ?_
  refine y_aload_n (pc' := 375) C dL_law_374 3 rfl rfl ?_
  refine y_iload_n (pc' := 376) C dL_law_375 0 rfl rfl ?_
  refine y_iconst (pc' := 377) (v := 2) C dL_law_376 (by decide) rfl ?_
  refine y_iadd (pc' := 378) C dL_law_377 rfl ?_
  refine y_sld (pc' := 379) C (vin (k := 2) rfl (by omega) C.2.2.2.2.2.2.2.2.2.2.2) dL_law_378 rfl ?_
  refine y_callM (pc' := 382) (res := (τ1, r)) C [.int (xs (nI i + 1).toNatClampNeg), .int (xs (nI i + 2).toNatClampNeg)] cY_X11_told mv_X11_told ml_35 ⟨Nat.le_of_ble_eq_true rfl, Nat.le_of_ble_eq_true rfl⟩ rfl (Nat.le_of_ble_eq_true rfl) rfl dL_law_379 (c_X11_told l (s.heap.size + 97) D cA τ (xs (nI i + 1).toNatClampNeg) (xs (nI i + 2).toNatClampNeg) (τ1, r) hM) rfl ?_
  refine y_icmp_eq (pc' := 385) (tgt := 1432) C dL_law_382 (by decide) rfl (fun _ => ?_) (fun q => absurd rfl q)
  exact back σ1 τ1 hI
set_option maxRecDepth 100000 in
theorem k_5 (C : ly_C p s m b L xs meth c D cA) (hi : i + 7 ≤ L) (h : Inv σ τ) (back : ∀ σ1 τ1, Inv σ1 τ1 → ly_W p l e s m b below meth c D cA Q σ1 τ1 1432 [(3, .int (nI i)), (2, .ref (s.heap.size + 97 + 0)), (1, .ref (s.heap.size + 0)), (0, .ref b)] []) : ly_W p l e s m b below meth c D cA Q σ τ 387 [(3, .int (nI i)), (2, .ref (s.heap.size + 97 + 0)), (1, .ref (s.heap.size + 0)), (0, .ref b)] [] := by
  obtain ⟨σ1, τ1, r, hC, hM, hI⟩ := S_open (a := xs (nI i + 1).toNatClampNeg) (b := xs (nI i + 2).toNatClampNeg) h
  refine y_aload_n (pc' := 388) C dL_law_387 2 rfl rfl ?_
  refine y_aload_n (pc' := 389) C dL_law_388 3 rfl rfl ?_
  refine y_iload_n (pc' := 390) C dL_law_389 0 rfl rfl ?_
  refine y_iconst (pc' := 391) (v := 1) C dL_law_390 (by decide) rfl ?_
  refine y_iadd (pc' := 392) C dL_law_391 rfl ?_
  refine y_sld (pc' := 393) C (vin (k := 1) rfl (by omega) C.2.2.2.2.2.2.2.2.2.2.2) dL_law_392 rfl ?_
  refine y_aload_n (pc' := 394) C dL_law_393 3 rfl rfl ?_
  refine y_iload_n (pc' := 395) C dL_law_394 0 rfl rfl ?_
  refine y_iconst (pc' := 396) (v := 2) C dL_law_395 (by decide) rfl ?_
  refine y_iadd (pc' := 397) C dL_law_396 rfl ?_
  refine y_sld (pc' := 398) C (vin (k := 2) rfl (by omega) C.2.2.2.2.2.2.2.2.2.2.2) dL_law_397 rfl ?_
  refine y_callC (pc' := 401) (res := (σ1, r)) C [.int (xs (nI i + 1).toNatClampNeg), .int (xs (nI i + 2).toNatClampNeg)] cY_X10_open mv_X10_open ml_36 ⟨Nat.le_of_ble_eq_true rfl, Nat.le_of_ble_eq_true rfl⟩ rfl (Nat.le_of_ble_eq_true rfl) rfl dL_law_398 (c_X10_open l s.heap.size D cA σ (xs (nI i + 1).toNatClampNeg) (xs (nI i + 2).toNatClampNeg) (σ1, r) hC) rfl ?_
  refine y_aload_n (pc' := 402) C dL_law_401 1 rfl rfl ?_
  refine y_aload_n (pc' := 403) C dL_law_402 3 rfl rfl ?_
  refine y_iload_n (pc' := 404) C dL_law_403 0 rfl rfl ?_
  refine y_iconst (pc' := 405) (v := 1) C dL_law_404 (by decide) rfl ?_
  refine y_iadd (pc' := 406) C dL_law_405 rfl ?_
  refine y_sld (pc' := 407) C (vin (k := 1) rfl (by omega) C.2.2.2.2.2.2.2.2.2.2.2) dL_law_406 rfl ?_
  refine y_aload_n (pc' := 408) C dL_law_407 3 rfl rfl ?_
  refine y_iload_n (pc' := 409) C dL_law_408 0 rfl rfl ?_
  refine y_iconst (pc' := 410) (v := 2) C dL_law_409 (by decide) rfl ?_
  refine y_iadd (pc' := 411) C dL_law_410 rfl ?_
  refine y_sld (pc' := 412) C (vin (k := 2) rfl (by omega) C.2.2.2.2.2.2.2.2.2.2.2) dL_law_411 rfl ?_
  refine y_callM (pc' := 415) (res := (τ1, r)) C [.int (xs (nI i + 1).toNatClampNeg), .int (xs (nI i + 2).toNatClampNeg)] cY_X11_open mv_X11_open ml_39 ⟨Nat.le_of_ble_eq_true rfl, Nat.le_of_ble_eq_true rfl⟩ rfl (Nat.le_of_ble_eq_true rfl) rfl dL_law_412 (c_X11_open l (s.heap.size + 97) D cA τ (xs (nI i + 1).toNatClampNeg) (xs (nI i + 2).toNatClampNeg) (τ1, r) hM) rfl ?_
  refine y_icmp_eq (pc' := 418) (tgt := 1432) C dL_law_415 (by decide) rfl (fun _ => ?_) (fun q => absurd rfl q)
  exact back σ1 τ1 hI
set_option maxRecDepth 100000 in
theorem k_6 (C : ly_C p s m b L xs meth c D cA) (hi : i + 7 ≤ L) (h : Inv σ τ) (back : ∀ σ1 τ1, Inv σ1 τ1 → ly_W p l e s m b below meth c D cA Q σ1 τ1 1432 [(3, .int (nI i)), (2, .ref (s.heap.size + 97 + 0)), (1, .ref (s.heap.size + 0)), (0, .ref b)] []) : ly_W p l e s m b below meth c D cA Q σ τ 420 [(3, .int (nI i)), (2, .ref (s.heap.size + 97 + 0)), (1, .ref (s.heap.size + 0)), (0, .ref b)] [] := by
  obtain ⟨σ1, τ1, r, hC, hM, hI⟩ := S_type (a := xs (nI i + 1).toNatClampNeg) h
  refine y_aload_n (pc' := 421) C dL_law_420 2 rfl rfl ?_
  refine y_aload_n (pc' := 422) C dL_law_421 3 rfl rfl ?_
  refine y_iload_n (pc' := 423) C dL_law_422 0 rfl rfl ?_
  refine y_iconst (pc' := 424) (v := 1) C dL_law_423 (by decide) rfl ?_
  refine y_iadd (pc' := 425) C dL_law_424 rfl ?_
  refine y_sld (pc' := 426) C (vin (k := 1) rfl (by omega) C.2.2.2.2.2.2.2.2.2.2.2) dL_law_425 rfl ?_
  refine y_callC (pc' := 429) (res := (σ1, r)) C [.int (xs (nI i + 1).toNatClampNeg)] cY_X10_type mv_X10_type ml_40 ⟨Nat.le_of_ble_eq_true rfl, Nat.le_of_ble_eq_true rfl⟩ rfl (Nat.le_of_ble_eq_true rfl) rfl dL_law_426 (c_X10_type l s.heap.size D cA σ (xs (nI i + 1).toNatClampNeg) (σ1, r) hC) rfl ?_
  refine y_aload_n (pc' := 430) C dL_law_429 1 rfl rfl ?_
  refine y_aload_n (pc' := 431) C dL_law_430 3 rfl rfl ?_
  refine y_iload_n (pc' := 432) C dL_law_431 0 rfl rfl ?_
  refine y_iconst (pc' := 433) (v := 1) C dL_law_432 (by decide) rfl ?_
  refine y_iadd (pc' := 434) C dL_law_433 rfl ?_
  refine y_sld (pc' := 435) C (vin (k := 1) rfl (by omega) C.2.2.2.2.2.2.2.2.2.2.2) dL_law_434 rfl ?_
  refine y_callM (pc' := 438) (res := (τ1, r)) C [.int (xs (nI i + 1).toNatClampNeg)] cY_X11_type mv_X11_type ml_44 ⟨Nat.le_of_ble_eq_true rfl, Nat.le_of_ble_eq_true rfl⟩ rfl (Nat.le_of_ble_eq_true rfl) rfl dL_law_435 (c_X11_type l (s.heap.size + 97) D cA τ (xs (nI i + 1).toNatClampNeg) (τ1, r) hM) rfl ?_
  refine y_icmp_eq (pc' := 441) (tgt := 1432) C dL_law_438 (by decide) rfl (fun _ => ?_) (fun q => absurd rfl q)
  exact back σ1 τ1 hI
set_option maxRecDepth 100000 in
theorem k_7 (C : ly_C p s m b L xs meth c D cA) (hi : i + 7 ≤ L) (h : Inv σ τ) (back : ∀ σ1 τ1, Inv σ1 τ1 → ly_W p l e s m b below meth c D cA Q σ1 τ1 1432 [(3, .int (nI i)), (2, .ref (s.heap.size + 97 + 0)), (1, .ref (s.heap.size + 0)), (0, .ref b)] []) : ly_W p l e s m b below meth c D cA Q σ τ 443 [(3, .int (nI i)), (2, .ref (s.heap.size + 97 + 0)), (1, .ref (s.heap.size + 0)), (0, .ref b)] [] := by
  obtain ⟨σ1, τ1, r, hC, hM, hI⟩ := S_strait  h
  refine y_aload_n (pc' := 444) C dL_law_443 2 rfl rfl ?_
  refine y_callC (pc' := 447) (res := (σ1, r)) C [] cY_X10_strait mv_X10_strait ml_45 ⟨Nat.le_of_ble_eq_true rfl, Nat.le_of_ble_eq_true rfl⟩ rfl (Nat.le_of_ble_eq_true rfl) rfl dL_law_444 (c_X10_strait l s.heap.size D cA σ  (σ1, r) hC) rfl ?_
  refine y_aload_n (pc' := 448) C dL_law_447 1 rfl rfl ?_
  refine y_callM (pc' := 451) (res := (τ1, r)) C [] cY_X11_strait mv_X11_strait ml_49 ⟨Nat.le_of_ble_eq_true rfl, Nat.le_of_ble_eq_true rfl⟩ rfl (Nat.le_of_ble_eq_true rfl) rfl dL_law_448 (c_X11_strait l (s.heap.size + 97) D cA τ  (τ1, r) hM) rfl ?_
  refine y_icmp_eq (pc' := 454) (tgt := 1432) C dL_law_451 (by decide) rfl (fun _ => ?_) (fun q => absurd rfl q)
  exact back σ1 τ1 hI
set_option maxRecDepth 100000 in
theorem k_8 (C : ly_C p s m b L xs meth c D cA) (hi : i + 7 ≤ L) (h : Inv σ τ) (back : ∀ σ1 τ1, Inv σ1 τ1 → ly_W p l e s m b below meth c D cA Q σ1 τ1 1432 [(3, .int (nI i)), (2, .ref (s.heap.size + 97 + 0)), (1, .ref (s.heap.size + 0)), (0, .ref b)] []) : ly_W p l e s m b below meth c D cA Q σ τ 456 [(3, .int (nI i)), (2, .ref (s.heap.size + 97 + 0)), (1, .ref (s.heap.size + 0)), (0, .ref b)] [] := by
  obtain ⟨σ1, τ1, r, hC, hM, hI⟩ := S_count (a := xs (nI i + 1).toNatClampNeg) h
  refine y_aload_n (pc' := 457) C dL_law_456 2 rfl rfl ?_
  refine y_aload_n (pc' := 458) C dL_law_457 3 rfl rfl ?_
  refine y_iload_n (pc' := 459) C dL_law_458 0 rfl rfl ?_
  refine y_iconst (pc' := 460) (v := 1) C dL_law_459 (by decide) rfl ?_
  refine y_iadd (pc' := 461) C dL_law_460 rfl ?_
  refine y_sld (pc' := 462) C (vin (k := 1) rfl (by omega) C.2.2.2.2.2.2.2.2.2.2.2) dL_law_461 rfl ?_
  refine y_callC (pc' := 465) (res := (σ1, r)) C [.int (xs (nI i + 1).toNatClampNeg)] cY_X10_count mv_X10_count ml_50 ⟨Nat.le_of_ble_eq_true rfl, Nat.le_of_ble_eq_true rfl⟩ rfl (Nat.le_of_ble_eq_true rfl) rfl dL_law_462 (c_X10_count l s.heap.size D cA σ (xs (nI i + 1).toNatClampNeg) (σ1, r) hC) rfl ?_
  refine y_aload_n (pc' := 466) C dL_law_465 1 rfl rfl ?_
  refine y_aload_n (pc' := 467) C dL_law_466 3 rfl rfl ?_
  refine y_iload_n (pc' := 468) C dL_law_467 0 rfl rfl ?_
  refine y_iconst (pc' := 469) (v := 1) C dL_law_468 (by decide) rfl ?_
  refine y_iadd (pc' := 470) C dL_law_469 rfl ?_
  refine y_sld (pc' := 471) C (vin (k := 1) rfl (by omega) C.2.2.2.2.2.2.2.2.2.2.2) dL_law_470 rfl ?_
  refine y_callM (pc' := 474) (res := (τ1, r)) C [.int (xs (nI i + 1).toNatClampNeg)] cY_X11_count mv_X11_count ml_53 ⟨Nat.le_of_ble_eq_true rfl, Nat.le_of_ble_eq_true rfl⟩ rfl (Nat.le_of_ble_eq_true rfl) rfl dL_law_471 (c_X11_count l (s.heap.size + 97) D cA τ (xs (nI i + 1).toNatClampNeg) (τ1, r) hM) rfl ?_
  refine y_icmp_eq (pc' := 477) (tgt := 1432) C dL_law_474 (by decide) rfl (fun _ => ?_) (fun q => absurd rfl q)
  exact back σ1 τ1 hI
set_option maxRecDepth 100000 in
theorem k_9 (C : ly_C p s m b L xs meth c D cA) (hi : i + 7 ≤ L) (h : Inv σ τ) (back : ∀ σ1 τ1, Inv σ1 τ1 → ly_W p l e s m b below meth c D cA Q σ1 τ1 1432 [(3, .int (nI i)), (2, .ref (s.heap.size + 97 + 0)), (1, .ref (s.heap.size + 0)), (0, .ref b)] []) : ly_W p l e s m b below meth c D cA Q σ τ 479 [(3, .int (nI i)), (2, .ref (s.heap.size + 97 + 0)), (1, .ref (s.heap.size + 0)), (0, .ref b)] [] := by
  obtain ⟨σ1, τ1, r, hC, hM, hI⟩ := S_setOut (a := xs (nI i + 1).toNatClampNeg) h
  refine y_aload_n (pc' := 480) C dL_law_479 2 rfl rfl ?_
  refine y_aload_n (pc' := 481) C dL_law_480 3 rfl rfl ?_
  refine y_iload_n (pc' := 482) C dL_law_481 0 rfl rfl ?_
  refine y_iconst (pc' := 483) (v := 1) C dL_law_482 (by decide) rfl ?_
  refine y_iadd (pc' := 484) C dL_law_483 rfl ?_
  refine y_sld (pc' := 485) C (vin (k := 1) rfl (by omega) C.2.2.2.2.2.2.2.2.2.2.2) dL_law_484 rfl ?_
  refine y_callC (pc' := 488) (res := (σ1, r)) C [.int (xs (nI i + 1).toNatClampNeg)] cY_X10_setOut mv_X10_setOut ml_54 ⟨Nat.le_of_ble_eq_true rfl, Nat.le_of_ble_eq_true rfl⟩ rfl (Nat.le_of_ble_eq_true rfl) rfl dL_law_485 (c_X10_setOut l s.heap.size D cA σ (xs (nI i + 1).toNatClampNeg) (σ1, r) hC) rfl ?_
  refine y_aload_n (pc' := 489) C dL_law_488 1 rfl rfl ?_
  refine y_aload_n (pc' := 490) C dL_law_489 3 rfl rfl ?_
  refine y_iload_n (pc' := 491) C dL_law_490 0 rfl rfl ?_
  refine y_iconst (pc' := 492) (v := 1) C dL_law_491 (by decide) rfl ?_
  refine y_iadd (pc' := 493) C dL_law_492 rfl ?_
  refine y_sld (pc' := 494) C (vin (k := 1) rfl (by omega) C.2.2.2.2.2.2.2.2.2.2.2) dL_law_493 rfl ?_
  refine y_callM (pc' := 497) (res := (τ1, r)) C [.int (xs (nI i + 1).toNatClampNeg)] cY_X11_setOut mv_X11_setOut ml_57 ⟨Nat.le_of_ble_eq_true rfl, Nat.le_of_ble_eq_true rfl⟩ rfl (Nat.le_of_ble_eq_true rfl) rfl dL_law_494 (c_X11_setOut l (s.heap.size + 97) D cA τ (xs (nI i + 1).toNatClampNeg) (τ1, r) hM) rfl ?_
  refine y_icmp_eq (pc' := 500) (tgt := 1432) C dL_law_497 (by decide) rfl (fun _ => ?_) (fun q => absurd rfl q)
  exact back σ1 τ1 hI
set_option maxRecDepth 100000 in
theorem k_10 (C : ly_C p s m b L xs meth c D cA) (hi : i + 7 ≤ L) (h : Inv σ τ) (back : ∀ σ1 τ1, Inv σ1 τ1 → ly_W p l e s m b below meth c D cA Q σ1 τ1 1432 [(3, .int (nI i)), (2, .ref (s.heap.size + 97 + 0)), (1, .ref (s.heap.size + 0)), (0, .ref b)] []) : ly_W p l e s m b below meth c D cA Q σ τ 502 [(3, .int (nI i)), (2, .ref (s.heap.size + 97 + 0)), (1, .ref (s.heap.size + 0)), (0, .ref b)] [] := by
  obtain ⟨σ1, τ1, r, hC, hM, hI⟩ := S_idle (a := xs (nI i + 1).toNatClampNeg) h
  refine y_aload_n (pc' := 503) C dL_law_502 2 rfl rfl ?_
  refine y_aload_n (pc' := 504) C dL_law_503 3 rfl rfl ?_
  refine y_iload_n (pc' := 505) C dL_law_504 0 rfl rfl ?_
  refine y_iconst (pc' := 506) (v := 1) C dL_law_505 (by decide) rfl ?_
  refine y_iadd (pc' := 507) C dL_law_506 rfl ?_
  refine y_sld (pc' := 508) C (vin (k := 1) rfl (by omega) C.2.2.2.2.2.2.2.2.2.2.2) dL_law_507 rfl ?_
  refine y_callC (pc' := 511) (res := (σ1, r)) C [.int (xs (nI i + 1).toNatClampNeg)] cY_X10_idle mv_X10_idle ml_58 ⟨Nat.le_of_ble_eq_true rfl, Nat.le_of_ble_eq_true rfl⟩ rfl (Nat.le_of_ble_eq_true rfl) rfl dL_law_508 (c_X10_idle l s.heap.size D cA σ (xs (nI i + 1).toNatClampNeg) (σ1, r) hC) rfl ?_
  refine y_aload_n (pc' := 512) C dL_law_511 1 rfl rfl ?_
  refine y_aload_n (pc' := 513) C dL_law_512 3 rfl rfl ?_
  refine y_iload_n (pc' := 514) C dL_law_513 0 rfl rfl ?_
  refine y_iconst (pc' := 515) (v := 1) C dL_law_514 (by decide) rfl ?_
  refine y_iadd (pc' := 516) C dL_law_515 rfl ?_
  refine y_sld (pc' := 517) C (vin (k := 1) rfl (by omega) C.2.2.2.2.2.2.2.2.2.2.2) dL_law_516 rfl ?_
  refine y_callM (pc' := 520) (res := (τ1, r)) C [.int (xs (nI i + 1).toNatClampNeg)] cY_X11_idle mv_X11_idle ml_61 ⟨Nat.le_of_ble_eq_true rfl, Nat.le_of_ble_eq_true rfl⟩ rfl (Nat.le_of_ble_eq_true rfl) rfl dL_law_517 (c_X11_idle l (s.heap.size + 97) D cA τ (xs (nI i + 1).toNatClampNeg) (τ1, r) hM) rfl ?_
  refine y_icmp_eq (pc' := 523) (tgt := 1432) C dL_law_520 (by decide) rfl (fun _ => ?_) (fun q => absurd rfl q)
  exact back σ1 τ1 hI
set_option maxRecDepth 100000 in
theorem k_11 (C : ly_C p s m b L xs meth c D cA) (hi : i + 7 ≤ L) (h : Inv σ τ) (back : ∀ σ1 τ1, Inv σ1 τ1 → ly_W p l e s m b below meth c D cA Q σ1 τ1 1432 [(3, .int (nI i)), (2, .ref (s.heap.size + 97 + 0)), (1, .ref (s.heap.size + 0)), (0, .ref b)] []) : ly_W p l e s m b below meth c D cA Q σ τ 525 [(3, .int (nI i)), (2, .ref (s.heap.size + 97 + 0)), (1, .ref (s.heap.size + 0)), (0, .ref b)] [] := by
  obtain ⟨σ1, τ1, r, hC, hM, hI⟩ := S_pass (a := xs (nI i + 1).toNatClampNeg) h
  refine y_aload_n (pc' := 526) C dL_law_525 2 rfl rfl ?_
  refine y_aload_n (pc' := 527) C dL_law_526 3 rfl rfl ?_
  refine y_iload_n (pc' := 528) C dL_law_527 0 rfl rfl ?_
  refine y_iconst (pc' := 529) (v := 1) C dL_law_528 (by decide) rfl ?_
  refine y_iadd (pc' := 530) C dL_law_529 rfl ?_
  refine y_sld (pc' := 531) C (vin (k := 1) rfl (by omega) C.2.2.2.2.2.2.2.2.2.2.2) dL_law_530 rfl ?_
  refine y_callC (pc' := 534) (res := (σ1, r)) C [.int (xs (nI i + 1).toNatClampNeg)] cY_X10_pass mv_X10_pass ml_62 ⟨Nat.le_of_ble_eq_true rfl, Nat.le_of_ble_eq_true rfl⟩ rfl (Nat.le_of_ble_eq_true rfl) rfl dL_law_531 (c_X10_pass l s.heap.size D cA σ (xs (nI i + 1).toNatClampNeg) (σ1, r) hC) rfl ?_
  refine y_aload_n (pc' := 535) C dL_law_534 1 rfl rfl ?_
  refine y_aload_n (pc' := 536) C dL_law_535 3 rfl rfl ?_
  refine y_iload_n (pc' := 537) C dL_law_536 0 rfl rfl ?_
  refine y_iconst (pc' := 538) (v := 1) C dL_law_537 (by decide) rfl ?_
  refine y_iadd (pc' := 539) C dL_law_538 rfl ?_
  refine y_sld (pc' := 540) C (vin (k := 1) rfl (by omega) C.2.2.2.2.2.2.2.2.2.2.2) dL_law_539 rfl ?_
  refine y_callM (pc' := 543) (res := (τ1, r)) C [.int (xs (nI i + 1).toNatClampNeg)] cY_X11_pass mv_X11_pass ml_65 ⟨Nat.le_of_ble_eq_true rfl, Nat.le_of_ble_eq_true rfl⟩ rfl (Nat.le_of_ble_eq_true rfl) rfl dL_law_540 (c_X11_pass l (s.heap.size + 97) D cA τ (xs (nI i + 1).toNatClampNeg) (τ1, r) hM) rfl ?_
  refine y_icmp_eq (pc' := 546) (tgt := 1432) C dL_law_543 (by decide) rfl (fun _ => ?_) (fun q => absurd rfl q)
  exact back σ1 τ1 hI
set_option maxRecDepth 100000 in
theorem k_12 (C : ly_C p s m b L xs meth c D cA) (hi : i + 7 ≤ L) (h : Inv σ τ) (back : ∀ σ1 τ1, Inv σ1 τ1 → ly_W p l e s m b below meth c D cA Q σ1 τ1 1432 [(3, .int (nI i)), (2, .ref (s.heap.size + 97 + 0)), (1, .ref (s.heap.size + 0)), (0, .ref b)] []) : ly_W p l e s m b below meth c D cA Q σ τ 548 [(3, .int (nI i)), (2, .ref (s.heap.size + 97 + 0)), (1, .ref (s.heap.size + 0)), (0, .ref b)] [] := by
  obtain ⟨σ1, τ1, r, hC, hM, hI⟩ := S_undo  h
  refine y_aload_n (pc' := 549) C dL_law_548 2 rfl rfl ?_
  refine y_callC (pc' := 552) (res := (σ1, r)) C [] cY_X10_undo mv_X10_undo ml_66 ⟨Nat.le_of_ble_eq_true rfl, Nat.le_of_ble_eq_true rfl⟩ rfl (Nat.le_of_ble_eq_true rfl) rfl dL_law_549 (c_X10_undo l s.heap.size D cA σ  (σ1, r) hC) rfl ?_
  refine y_aload_n (pc' := 553) C dL_law_552 1 rfl rfl ?_
  refine y_callM (pc' := 556) (res := (τ1, r)) C [] cY_X11_undo mv_X11_undo ml_69 ⟨Nat.le_of_ble_eq_true rfl, Nat.le_of_ble_eq_true rfl⟩ rfl (Nat.le_of_ble_eq_true rfl) rfl dL_law_553 (c_X11_undo l (s.heap.size + 97) D cA τ  (τ1, r) hM) rfl ?_
  refine y_icmp_eq (pc' := 559) (tgt := 1432) C dL_law_556 (by decide) rfl (fun _ => ?_) (fun q => absurd rfl q)
  exact back σ1 τ1 hI
set_option maxRecDepth 100000 in
theorem k_13 (C : ly_C p s m b L xs meth c D cA) (hi : i + 7 ≤ L) (h : Inv σ τ) (back : ∀ σ1 τ1, Inv σ1 τ1 → ly_W p l e s m b below meth c D cA Q σ1 τ1 1432 [(3, .int (nI i)), (2, .ref (s.heap.size + 97 + 0)), (1, .ref (s.heap.size + 0)), (0, .ref b)] []) : ly_W p l e s m b below meth c D cA Q σ τ 561 [(3, .int (nI i)), (2, .ref (s.heap.size + 97 + 0)), (1, .ref (s.heap.size + 0)), (0, .ref b)] [] := by
  obtain ⟨σ1, τ1, r, hC, hM, hI⟩ := S_seed (a := xs (nI i + 1).toNatClampNeg) h
  refine y_aload_n (pc' := 562) C dL_law_561 2 rfl rfl ?_
  refine y_aload_n (pc' := 563) C dL_law_562 3 rfl rfl ?_
  refine y_iload_n (pc' := 564) C dL_law_563 0 rfl rfl ?_
  refine y_iconst (pc' := 565) (v := 1) C dL_law_564 (by decide) rfl ?_
  refine y_iadd (pc' := 566) C dL_law_565 rfl ?_
  refine y_sld (pc' := 567) C (vin (k := 1) rfl (by omega) C.2.2.2.2.2.2.2.2.2.2.2) dL_law_566 rfl ?_
  refine y_callC (pc' := 570) (res := (σ1, r)) C [.int (xs (nI i + 1).toNatClampNeg)] cY_X10_seed mv_X10_seed ml_70 ⟨Nat.le_of_ble_eq_true rfl, Nat.le_of_ble_eq_true rfl⟩ rfl (Nat.le_of_ble_eq_true rfl) rfl dL_law_567 (c_X10_seed l s.heap.size D cA σ (xs (nI i + 1).toNatClampNeg) (σ1, r) hC) rfl ?_
  refine y_aload_n (pc' := 571) C dL_law_570 1 rfl rfl ?_
  refine y_aload_n (pc' := 572) C dL_law_571 3 rfl rfl ?_
  refine y_iload_n (pc' := 573) C dL_law_572 0 rfl rfl ?_
  refine y_iconst (pc' := 574) (v := 1) C dL_law_573 (by decide) rfl ?_
  refine y_iadd (pc' := 575) C dL_law_574 rfl ?_
  refine y_sld (pc' := 576) C (vin (k := 1) rfl (by omega) C.2.2.2.2.2.2.2.2.2.2.2) dL_law_575 rfl ?_
  refine y_callM (pc' := 579) (res := (τ1, r)) C [.int (xs (nI i + 1).toNatClampNeg)] cY_X11_seed mv_X11_seed ml_73 ⟨Nat.le_of_ble_eq_true rfl, Nat.le_of_ble_eq_true rfl⟩ rfl (Nat.le_of_ble_eq_true rfl) rfl dL_law_576 (c_X11_seed l (s.heap.size + 97) D cA τ (xs (nI i + 1).toNatClampNeg) (τ1, r) hM) rfl ?_
  refine y_icmp_eq (pc' := 582) (tgt := 1432) C dL_law_579 (by decide) rfl (fun _ => ?_) (fun q => absurd rfl q)
  exact back σ1 τ1 hI
set_option maxRecDepth 100000 in
theorem k_14 (C : ly_C p s m b L xs meth c D cA) (hi : i + 7 ≤ L) (h : Inv σ τ) (back : ∀ σ1 τ1, Inv σ1 τ1 → ly_W p l e s m b below meth c D cA Q σ1 τ1 1432 [(3, .int (nI i)), (2, .ref (s.heap.size + 97 + 0)), (1, .ref (s.heap.size + 0)), (0, .ref b)] []) : ly_W p l e s m b below meth c D cA Q σ τ 584 [(3, .int (nI i)), (2, .ref (s.heap.size + 97 + 0)), (1, .ref (s.heap.size + 0)), (0, .ref b)] [] := by
  obtain ⟨σ1, τ1, r, hC, hM, hI⟩ := S_lots (a := xs (nI i + 1).toNatClampNeg) (b := xs (nI i + 2).toNatClampNeg) h
  refine y_aload_n (pc' := 585) C dL_law_584 2 rfl rfl ?_
  refine y_aload_n (pc' := 586) C dL_law_585 3 rfl rfl ?_
  refine y_iload_n (pc' := 587) C dL_law_586 0 rfl rfl ?_
  refine y_iconst (pc' := 588) (v := 1) C dL_law_587 (by decide) rfl ?_
  refine y_iadd (pc' := 589) C dL_law_588 rfl ?_
  refine y_sld (pc' := 590) C (vin (k := 1) rfl (by omega) C.2.2.2.2.2.2.2.2.2.2.2) dL_law_589 rfl ?_
  refine y_aload_n (pc' := 591) C dL_law_590 3 rfl rfl ?_
  refine y_iload_n (pc' := 592) C dL_law_591 0 rfl rfl ?_
  refine y_iconst (pc' := 593) (v := 2) C dL_law_592 (by decide) rfl ?_
  refine y_iadd (pc' := 594) C dL_law_593 rfl ?_
  refine y_sld (pc' := 595) C (vin (k := 2) rfl (by omega) C.2.2.2.2.2.2.2.2.2.2.2) dL_law_594 rfl ?_
  refine y_callC (pc' := 598) (res := (σ1, r)) C [.int (xs (nI i + 1).toNatClampNeg), .int (xs (nI i + 2).toNatClampNeg)] cY_X10_lots mv_X10_lots ml_74 ⟨Nat.le_of_ble_eq_true rfl, Nat.le_of_ble_eq_true rfl⟩ rfl (Nat.le_of_ble_eq_true rfl) rfl dL_law_595 (c_X10_lots l s.heap.size D cA σ (xs (nI i + 1).toNatClampNeg) (xs (nI i + 2).toNatClampNeg) (σ1, r) hC) rfl ?_
  refine y_aload_n (pc' := 599) C dL_law_598 1 rfl rfl ?_
  refine y_aload_n (pc' := 600) C dL_law_599 3 rfl rfl ?_
  refine y_iload_n (pc' := 601) C dL_law_600 0 rfl rfl ?_
  refine y_iconst (pc' := 602) (v := 1) C dL_law_601 (by decide) rfl ?_
  refine y_iadd (pc' := 603) C dL_law_602 rfl ?_
  refine y_sld (pc' := 604) C (vin (k := 1) rfl (by omega) C.2.2.2.2.2.2.2.2.2.2.2) dL_law_603 rfl ?_
  refine y_aload_n (pc' := 605) C dL_law_604 3 rfl rfl ?_
  refine y_iload_n (pc' := 606) C dL_law_605 0 rfl rfl ?_
  refine y_iconst (pc' := 607) (v := 2) C dL_law_606 (by decide) rfl ?_
  refine y_iadd (pc' := 608) C dL_law_607 rfl ?_
  refine y_sld (pc' := 609) C (vin (k := 2) rfl (by omega) C.2.2.2.2.2.2.2.2.2.2.2) dL_law_608 rfl ?_
  refine y_callM (pc' := 612) (res := (τ1, r)) C [.int (xs (nI i + 1).toNatClampNeg), .int (xs (nI i + 2).toNatClampNeg)] cY_X11_lots mv_X11_lots ml_77 ⟨Nat.le_of_ble_eq_true rfl, Nat.le_of_ble_eq_true rfl⟩ rfl (Nat.le_of_ble_eq_true rfl) rfl dL_law_609 (c_X11_lots l (s.heap.size + 97) D cA τ (xs (nI i + 1).toNatClampNeg) (xs (nI i + 2).toNatClampNeg) (τ1, r) hM) rfl ?_
  refine y_icmp_eq (pc' := 615) (tgt := 1432) C dL_law_612 (by decide) rfl (fun _ => ?_) (fun q => absurd rfl q)
  exact back σ1 τ1 hI
set_option maxRecDepth 100000 in
theorem k_15 (C : ly_C p s m b L xs meth c D cA) (hi : i + 7 ≤ L) (h : Inv σ τ) (back : ∀ σ1 τ1, Inv σ1 τ1 → ly_W p l e s m b below meth c D cA Q σ1 τ1 1432 [(3, .int (nI i)), (2, .ref (s.heap.size + 97 + 0)), (1, .ref (s.heap.size + 0)), (0, .ref b)] []) : ly_W p l e s m b below meth c D cA Q σ τ 617 [(3, .int (nI i)), (2, .ref (s.heap.size + 97 + 0)), (1, .ref (s.heap.size + 0)), (0, .ref b)] [] := by
  obtain ⟨σ1, τ1, r, hC, hM, hI⟩ := S_soonest (a := xs (nI i + 1).toNatClampNeg) (c := xs (nI i + 2).toNatClampNeg) (e := xs (nI i + 3).toNatClampNeg) h
  refine y_aload_n (pc' := 618) C dL_law_617 2 rfl rfl ?_
  refine y_aload_n (pc' := 619) C dL_law_618 3 rfl rfl ?_
  refine y_iload_n (pc' := 620) C dL_law_619 0 rfl rfl ?_
  refine y_iconst (pc' := 621) (v := 1) C dL_law_620 (by decide) rfl ?_
  refine y_iadd (pc' := 622) C dL_law_621 rfl ?_
  refine y_sld (pc' := 623) C (vin (k := 1) rfl (by omega) C.2.2.2.2.2.2.2.2.2.2.2) dL_law_622 rfl ?_
  refine y_aload_n (pc' := 624) C dL_law_623 3 rfl rfl ?_
  refine y_iload_n (pc' := 625) C dL_law_624 0 rfl rfl ?_
  refine y_iconst (pc' := 626) (v := 2) C dL_law_625 (by decide) rfl ?_
  refine y_iadd (pc' := 627) C dL_law_626 rfl ?_
  refine y_sld (pc' := 628) C (vin (k := 2) rfl (by omega) C.2.2.2.2.2.2.2.2.2.2.2) dL_law_627 rfl ?_
  refine y_aload_n (pc' := 629) C dL_law_628 3 rfl rfl ?_
  refine y_iload_n (pc' := 630) C dL_law_629 0 rfl rfl ?_
  refine y_iconst (pc' := 631) (v := 3) C dL_law_630 (by decide) rfl ?_
  refine y_iadd (pc' := 632) C dL_law_631 rfl ?_
  refine y_sld (pc' := 633) C (vin (k := 3) rfl (by omega) C.2.2.2.2.2.2.2.2.2.2.2) dL_law_632 rfl ?_
  refine y_callC (pc' := 636) (res := (σ1, r)) C [.int (xs (nI i + 1).toNatClampNeg), .int (xs (nI i + 2).toNatClampNeg), .int (xs (nI i + 3).toNatClampNeg)] cY_X10_soonest mv_X10_soonest ml_78 ⟨Nat.le_of_ble_eq_true rfl, Nat.le_of_ble_eq_true rfl⟩ rfl (Nat.le_of_ble_eq_true rfl) rfl dL_law_633 (c_X10_soonest l s.heap.size D cA σ (xs (nI i + 1).toNatClampNeg) (xs (nI i + 2).toNatClampNeg) (xs (nI i + 3).toNatClampNeg) (σ1, r) hC) rfl ?_
  refine y_aload_n (pc' := 637) C dL_law_636 1 rfl rfl ?_
  refine y_aload_n (pc' := 638) C dL_law_637 3 rfl rfl ?_
  refine y_iload_n (pc' := 639) C dL_law_638 0 rfl rfl ?_
  refine y_iconst (pc' := 640) (v := 1) C dL_law_639 (by decide) rfl ?_
  refine y_iadd (pc' := 641) C dL_law_640 rfl ?_
  refine y_sld (pc' := 642) C (vin (k := 1) rfl (by omega) C.2.2.2.2.2.2.2.2.2.2.2) dL_law_641 rfl ?_
  refine y_aload_n (pc' := 643) C dL_law_642 3 rfl rfl ?_
  refine y_iload_n (pc' := 644) C dL_law_643 0 rfl rfl ?_
  refine y_iconst (pc' := 645) (v := 2) C dL_law_644 (by decide) rfl ?_
  refine y_iadd (pc' := 646) C dL_law_645 rfl ?_
  refine y_sld (pc' := 647) C (vin (k := 2) rfl (by omega) C.2.2.2.2.2.2.2.2.2.2.2) dL_law_646 rfl ?_
  refine y_aload_n (pc' := 648) C dL_law_647 3 rfl rfl ?_
  refine y_iload_n (pc' := 649) C dL_law_648 0 rfl rfl ?_
  refine y_iconst (pc' := 650) (v := 3) C dL_law_649 (by decide) rfl ?_
  refine y_iadd (pc' := 651) C dL_law_650 rfl ?_
  refine y_sld (pc' := 652) C (vin (k := 3) rfl (by omega) C.2.2.2.2.2.2.2.2.2.2.2) dL_law_651 rfl ?_
  refine y_callM (pc' := 655) (res := (τ1, r)) C [.int (xs (nI i + 1).toNatClampNeg), .int (xs (nI i + 2).toNatClampNeg), .int (xs (nI i + 3).toNatClampNeg)] cY_X11_soonest mv_X11_soonest ml_81 ⟨Nat.le_of_ble_eq_true rfl, Nat.le_of_ble_eq_true rfl⟩ rfl (Nat.le_of_ble_eq_true rfl) rfl dL_law_652 (c_X11_soonest l (s.heap.size + 97) D cA τ (xs (nI i + 1).toNatClampNeg) (xs (nI i + 2).toNatClampNeg) (xs (nI i + 3).toNatClampNeg) (τ1, r) hM) rfl ?_
  refine y_icmp_eq (pc' := 658) (tgt := 1432) C dL_law_655 (by decide) rfl (fun _ => ?_) (fun q => absurd rfl q)
  exact back σ1 τ1 hI
set_option maxRecDepth 100000 in
theorem k_16 (C : ly_C p s m b L xs meth c D cA) (hi : i + 7 ≤ L) (h : Inv σ τ) (back : ∀ σ1 τ1, Inv σ1 τ1 → ly_W p l e s m b below meth c D cA Q σ1 τ1 1432 [(3, .int (nI i)), (2, .ref (s.heap.size + 97 + 0)), (1, .ref (s.heap.size + 0)), (0, .ref b)] []) : ly_W p l e s m b below meth c D cA Q σ τ 660 [(3, .int (nI i)), (2, .ref (s.heap.size + 97 + 0)), (1, .ref (s.heap.size + 0)), (0, .ref b)] [] := by
  obtain ⟨σ1, τ1, r, hC, hM, hI⟩ := S_full (a := xs (nI i + 1).toNatClampNeg) (b := xs (nI i + 2).toNatClampNeg) (c := xs (nI i + 3).toNatClampNeg) h
  refine y_aload_n (pc' := 661) C dL_law_660 2 rfl rfl ?_
  refine y_aload_n (pc' := 662) C dL_law_661 3 rfl rfl ?_
  refine y_iload_n (pc' := 663) C dL_law_662 0 rfl rfl ?_
  refine y_iconst (pc' := 664) (v := 1) C dL_law_663 (by decide) rfl ?_
  refine y_iadd (pc' := 665) C dL_law_664 rfl ?_
  refine y_sld (pc' := 666) C (vin (k := 1) rfl (by omega) C.2.2.2.2.2.2.2.2.2.2.2) dL_law_665 rfl ?_
  refine y_aload_n (pc' := 667) C dL_law_666 3 rfl rfl ?_
  refine y_iload_n (pc' := 668) C dL_law_667 0 rfl rfl ?_
  refine y_iconst (pc' := 669) (v := 2) C dL_law_668 (by decide) rfl ?_
  refine y_iadd (pc' := 670) C dL_law_669 rfl ?_
  refine y_sld (pc' := 671) C (vin (k := 2) rfl (by omega) C.2.2.2.2.2.2.2.2.2.2.2) dL_law_670 rfl ?_
  refine y_aload_n (pc' := 672) C dL_law_671 3 rfl rfl ?_
  refine y_iload_n (pc' := 673) C dL_law_672 0 rfl rfl ?_
  refine y_iconst (pc' := 674) (v := 3) C dL_law_673 (by decide) rfl ?_
  refine y_iadd (pc' := 675) C dL_law_674 rfl ?_
  refine y_sld (pc' := 676) C (vin (k := 3) rfl (by omega) C.2.2.2.2.2.2.2.2.2.2.2) dL_law_675 rfl ?_
  refine y_callC (pc' := 679) (res := (σ1, r)) C [.int (xs (nI i + 1).toNatClampNeg), .int (xs (nI i + 2).toNatClampNeg), .int (xs (nI i + 3).toNatClampNeg)] cY_X10_full mv_X10_full ml_82 ⟨Nat.le_of_ble_eq_true rfl, Nat.le_of_ble_eq_true rfl⟩ rfl (Nat.le_of_ble_eq_true rfl) rfl dL_law_676 (c_X10_full l s.heap.size D cA σ (xs (nI i + 1).toNatClampNeg) (xs (nI i + 2).toNatClampNeg) (xs (nI i + 3).toNatClampNeg) (σ1, r) hC) rfl ?_
  refine y_aload_n (pc' := 680) C dL_law_679 1 rfl rfl ?_
  refine y_aload_n (pc' := 681) C dL_law_680 3 rfl rfl ?_
  refine y_iload_n (pc' := 682) C dL_law_681 0 rfl rfl ?_
  refine y_iconst (pc' := 683) (v := 1) C dL_law_682 (by decide) rfl ?_
  refine y_iadd (pc' := 684) C dL_law_683 rfl ?_
  refine y_sld (pc' := 685) C (vin (k := 1) rfl (by omega) C.2.2.2.2.2.2.2.2.2.2.2) dL_law_684 rfl ?_
  refine y_aload_n (pc' := 686) C dL_law_685 3 rfl rfl ?_
  refine y_iload_n (pc' := 687) C dL_law_686 0 rfl rfl ?_
  refine y_iconst (pc' := 688) (v := 2) C dL_law_687 (by decide) rfl ?_
  refine y_iadd (pc' := 689) C dL_law_688 rfl ?_
  refine y_sld (pc' := 690) C (vin (k := 2) rfl (by omega) C.2.2.2.2.2.2.2.2.2.2.2) dL_law_689 rfl ?_
  refine y_aload_n (pc' := 691) C dL_law_690 3 rfl rfl ?_
  refine y_iload_n (pc' := 692) C dL_law_691 0 rfl rfl ?_
  refine y_iconst (pc' := 693) (v := 3) C dL_law_692 (by decide) rfl ?_
  refine y_iadd (pc' := 694) C dL_law_693 rfl ?_
  refine y_sld (pc' := 695) C (vin (k := 3) rfl (by omega) C.2.2.2.2.2.2.2.2.2.2.2) dL_law_694 rfl ?_
  refine y_callM (pc' := 698) (res := (τ1, r)) C [.int (xs (nI i + 1).toNatClampNeg), .int (xs (nI i + 2).toNatClampNeg), .int (xs (nI i + 3).toNatClampNeg)] cY_X11_full mv_X11_full ml_85 ⟨Nat.le_of_ble_eq_true rfl, Nat.le_of_ble_eq_true rfl⟩ rfl (Nat.le_of_ble_eq_true rfl) rfl dL_law_695 (c_X11_full l (s.heap.size + 97) D cA τ (xs (nI i + 1).toNatClampNeg) (xs (nI i + 2).toNatClampNeg) (xs (nI i + 3).toNatClampNeg) (τ1, r) hM) rfl ?_
  refine y_icmp_eq (pc' := 701) (tgt := 1432) C dL_law_698 (by decide) rfl (fun _ => ?_) (fun q => absurd rfl q)
  exact back σ1 τ1 hI
set_option maxRecDepth 100000 in
theorem k_17 (C : ly_C p s m b L xs meth c D cA) (hi : i + 7 ≤ L) (h : Inv σ τ) (back : ∀ σ1 τ1, Inv σ1 τ1 → ly_W p l e s m b below meth c D cA Q σ1 τ1 1432 [(3, .int (nI i)), (2, .ref (s.heap.size + 97 + 0)), (1, .ref (s.heap.size + 0)), (0, .ref b)] []) : ly_W p l e s m b below meth c D cA Q σ τ 703 [(3, .int (nI i)), (2, .ref (s.heap.size + 97 + 0)), (1, .ref (s.heap.size + 0)), (0, .ref b)] [] := by
  obtain ⟨σ1, τ1, r, hC, hM, hI⟩ := S_fog (a := xs (nI i + 1).toNatClampNeg) (b := xs (nI i + 2).toNatClampNeg) (c := xs (nI i + 3).toNatClampNeg) h
  refine y_aload_n (pc' := 704) C dL_law_703 2 rfl rfl ?_
  refine y_aload_n (pc' := 705) C dL_law_704 3 rfl rfl ?_
  refine y_iload_n (pc' := 706) C dL_law_705 0 rfl rfl ?_
  refine y_iconst (pc' := 707) (v := 1) C dL_law_706 (by decide) rfl ?_
  refine y_iadd (pc' := 708) C dL_law_707 rfl ?_
  refine y_sld (pc' := 709) C (vin (k := 1) rfl (by omega) C.2.2.2.2.2.2.2.2.2.2.2) dL_law_708 rfl ?_
  refine y_aload_n (pc' := 710) C dL_law_709 3 rfl rfl ?_
  refine y_iload_n (pc' := 711) C dL_law_710 0 rfl rfl ?_
  refine y_iconst (pc' := 712) (v := 2) C dL_law_711 (by decide) rfl ?_
  refine y_iadd (pc' := 713) C dL_law_712 rfl ?_
  refine y_sld (pc' := 714) C (vin (k := 2) rfl (by omega) C.2.2.2.2.2.2.2.2.2.2.2) dL_law_713 rfl ?_
  refine y_aload_n (pc' := 715) C dL_law_714 3 rfl rfl ?_
  refine y_iload_n (pc' := 716) C dL_law_715 0 rfl rfl ?_
  refine y_iconst (pc' := 717) (v := 3) C dL_law_716 (by decide) rfl ?_
  refine y_iadd (pc' := 718) C dL_law_717 rfl ?_
  refine y_sld (pc' := 719) C (vin (k := 3) rfl (by omega) C.2.2.2.2.2.2.2.2.2.2.2) dL_law_718 rfl ?_
  refine y_callC (pc' := 722) (res := (σ1, r)) C [.int (xs (nI i + 1).toNatClampNeg), .int (xs (nI i + 2).toNatClampNeg), .int (xs (nI i + 3).toNatClampNeg)] cY_X10_fog mv_X10_fog ml_86 ⟨Nat.le_of_ble_eq_true rfl, Nat.le_of_ble_eq_true rfl⟩ rfl (Nat.le_of_ble_eq_true rfl) rfl dL_law_719 (c_X10_fog l s.heap.size D cA σ (xs (nI i + 1).toNatClampNeg) (xs (nI i + 2).toNatClampNeg) (xs (nI i + 3).toNatClampNeg) (σ1, r) hC) rfl ?_
  refine y_aload_n (pc' := 723) C dL_law_722 1 rfl rfl ?_
  refine y_aload_n (pc' := 724) C dL_law_723 3 rfl rfl ?_
  refine y_iload_n (pc' := 725) C dL_law_724 0 rfl rfl ?_
  refine y_iconst (pc' := 726) (v := 1) C dL_law_725 (by decide) rfl ?_
  refine y_iadd (pc' := 727) C dL_law_726 rfl ?_
  refine y_sld (pc' := 728) C (vin (k := 1) rfl (by omega) C.2.2.2.2.2.2.2.2.2.2.2) dL_law_727 rfl ?_
  refine y_aload_n (pc' := 729) C dL_law_728 3 rfl rfl ?_
  refine y_iload_n (pc' := 730) C dL_law_729 0 rfl rfl ?_
  refine y_iconst (pc' := 731) (v := 2) C dL_law_730 (by decide) rfl ?_
  refine y_iadd (pc' := 732) C dL_law_731 rfl ?_
  refine y_sld (pc' := 733) C (vin (k := 2) rfl (by omega) C.2.2.2.2.2.2.2.2.2.2.2) dL_law_732 rfl ?_
  refine y_aload_n (pc' := 734) C dL_law_733 3 rfl rfl ?_
  refine y_iload_n (pc' := 735) C dL_law_734 0 rfl rfl ?_
  refine y_iconst (pc' := 736) (v := 3) C dL_law_735 (by decide) rfl ?_
  refine y_iadd (pc' := 737) C dL_law_736 rfl ?_
  refine y_sld (pc' := 738) C (vin (k := 3) rfl (by omega) C.2.2.2.2.2.2.2.2.2.2.2) dL_law_737 rfl ?_
  refine y_callM (pc' := 741) (res := (τ1, r)) C [.int (xs (nI i + 1).toNatClampNeg), .int (xs (nI i + 2).toNatClampNeg), .int (xs (nI i + 3).toNatClampNeg)] cY_X11_fog mv_X11_fog ml_89 ⟨Nat.le_of_ble_eq_true rfl, Nat.le_of_ble_eq_true rfl⟩ rfl (Nat.le_of_ble_eq_true rfl) rfl dL_law_738 (c_X11_fog l (s.heap.size + 97) D cA τ (xs (nI i + 1).toNatClampNeg) (xs (nI i + 2).toNatClampNeg) (xs (nI i + 3).toNatClampNeg) (τ1, r) hM) rfl ?_
  refine y_icmp_eq (pc' := 744) (tgt := 1432) C dL_law_741 (by decide) rfl (fun _ => ?_) (fun q => absurd rfl q)
  exact back σ1 τ1 hI
set_option maxRecDepth 100000 in
theorem k_18 (C : ly_C p s m b L xs meth c D cA) (hi : i + 7 ≤ L) (h : Inv σ τ) (back : ∀ σ1 τ1, Inv σ1 τ1 → ly_W p l e s m b below meth c D cA Q σ1 τ1 1432 [(3, .int (nI i)), (2, .ref (s.heap.size + 97 + 0)), (1, .ref (s.heap.size + 0)), (0, .ref b)] []) : ly_W p l e s m b below meth c D cA Q σ τ 746 [(3, .int (nI i)), (2, .ref (s.heap.size + 97 + 0)), (1, .ref (s.heap.size + 0)), (0, .ref b)] [] := by
  obtain ⟨σ1, τ1, r, hC, hM, hI⟩ := S_sure (a := xs (nI i + 1).toNatClampNeg) (b := xs (nI i + 2).toNatClampNeg) h
  refine y_aload_n (pc' := 747) C dL_law_746 2 rfl rfl ?_
  refine y_aload_n (pc' := 748) C dL_law_747 3 rfl rfl ?_
  refine y_iload_n (pc' := 749) C dL_law_748 0 rfl rfl ?_
  refine y_iconst (pc' := 750) (v := 1) C dL_law_749 (by decide) rfl ?_
  refine y_iadd (pc' := 751) C dL_law_750 rfl ?_
  refine y_sld (pc' := 752) C (vin (k := 1) rfl (by omega) C.2.2.2.2.2.2.2.2.2.2.2) dL_law_751 rfl ?_
  refine y_aload_n (pc' := 753) C dL_law_752 3 rfl rfl ?_
  refine y_iload_n (pc' := 754) C dL_law_753 0 rfl rfl ?_
  refine y_iconst (pc' := 755) (v := 2) C dL_law_754 (by decide) rfl ?_
  refine y_iadd (pc' := 756) C dL_law_755 rfl ?_
  refine y_sld (pc' := 757) C (vin (k := 2) rfl (by omega) C.2.2.2.2.2.2.2.2.2.2.2) dL_law_756 rfl ?_
  refine y_callC (pc' := 760) (res := (σ1, r)) C [.int (xs (nI i + 1).toNatClampNeg), .int (xs (nI i + 2).toNatClampNeg)] cY_X10_sure mv_X10_sure ml_90 ⟨Nat.le_of_ble_eq_true rfl, Nat.le_of_ble_eq_true rfl⟩ rfl (Nat.le_of_ble_eq_true rfl) rfl dL_law_757 (c_X10_sure l s.heap.size D cA σ (xs (nI i + 1).toNatClampNeg) (xs (nI i + 2).toNatClampNeg) (σ1, r) hC) rfl ?_
  refine y_aload_n (pc' := 761) C dL_law_760 1 rfl rfl ?_
  refine y_aload_n (pc' := 762) C dL_law_761 3 rfl rfl ?_
  refine y_iload_n (pc' := 763) C dL_law_762 0 rfl rfl ?_
  refine y_iconst (pc' := 764) (v := 1) C dL_law_763 (by decide) rfl ?_
  refine y_iadd (pc' := 765) C dL_law_764 rfl ?_
  refine y_sld (pc' := 766) C (vin (k := 1) rfl (by omega) C.2.2.2.2.2.2.2.2.2.2.2) dL_law_765 rfl ?_
  refine y_aload_n (pc' := 767) C dL_law_766 3 rfl rfl ?_
  refine y_iload_n (pc' := 768) C dL_law_767 0 rfl rfl ?_
  refine y_iconst (pc' := 769) (v := 2) C dL_law_768 (by decide) rfl ?_
  refine y_iadd (pc' := 770) C dL_law_769 rfl ?_
  refine y_sld (pc' := 771) C (vin (k := 2) rfl (by omega) C.2.2.2.2.2.2.2.2.2.2.2) dL_law_770 rfl ?_
  refine y_callM (pc' := 774) (res := (τ1, r)) C [.int (xs (nI i + 1).toNatClampNeg), .int (xs (nI i + 2).toNatClampNeg)] cY_X11_sure mv_X11_sure ml_93 ⟨Nat.le_of_ble_eq_true rfl, Nat.le_of_ble_eq_true rfl⟩ rfl (Nat.le_of_ble_eq_true rfl) rfl dL_law_771 (c_X11_sure l (s.heap.size + 97) D cA τ (xs (nI i + 1).toNatClampNeg) (xs (nI i + 2).toNatClampNeg) (τ1, r) hM) rfl ?_
  refine y_icmp_eq (pc' := 777) (tgt := 1432) C dL_law_774 (by decide) rfl (fun _ => ?_) (fun q => absurd rfl q)
  exact back σ1 τ1 hI
set_option maxRecDepth 100000 in
theorem k_19 (C : ly_C p s m b L xs meth c D cA) (hi : i + 7 ≤ L) (h : Inv σ τ) (back : ∀ σ1 τ1, Inv σ1 τ1 → ly_W p l e s m b below meth c D cA Q σ1 τ1 1432 [(3, .int (nI i)), (2, .ref (s.heap.size + 97 + 0)), (1, .ref (s.heap.size + 0)), (0, .ref b)] []) : ly_W p l e s m b below meth c D cA Q σ τ 779 [(3, .int (nI i)), (2, .ref (s.heap.size + 97 + 0)), (1, .ref (s.heap.size + 0)), (0, .ref b)] [] := by
  obtain ⟨σ1, τ1, r, hC, hM, hI⟩ := S_stones (a := xs (nI i + 1).toNatClampNeg) (b := xs (nI i + 2).toNatClampNeg) (c := xs (nI i + 3).toNatClampNeg) h
  refine y_aload_n (pc' := 780) C dL_law_779 2 rfl rfl ?_
  refine y_aload_n (pc' := 781) C dL_law_780 3 rfl rfl ?_
  refine y_iload_n (pc' := 782) C dL_law_781 0 rfl rfl ?_
  refine y_iconst (pc' := 783) (v := 1) C dL_law_782 (by decide) rfl ?_
  refine y_iadd (pc' := 784) C dL_law_783 rfl ?_
  refine y_sld (pc' := 785) C (vin (k := 1) rfl (by omega) C.2.2.2.2.2.2.2.2.2.2.2) dL_law_784 rfl ?_
  refine y_aload_n (pc' := 786) C dL_law_785 3 rfl rfl ?_
  refine y_iload_n (pc' := 787) C dL_law_786 0 rfl rfl ?_
  refine y_iconst (pc' := 788) (v := 2) C dL_law_787 (by decide) rfl ?_
  refine y_iadd (pc' := 789) C dL_law_788 rfl ?_
  refine y_sld (pc' := 790) C (vin (k := 2) rfl (by omega) C.2.2.2.2.2.2.2.2.2.2.2) dL_law_789 rfl ?_
  refine y_aload_n (pc' := 791) C dL_law_790 3 rfl rfl ?_
  refine y_iload_n (pc' := 792) C dL_law_791 0 rfl rfl ?_
  refine y_iconst (pc' := 793) (v := 3) C dL_law_792 (by decide) rfl ?_
  refine y_iadd (pc' := 794) C dL_law_793 rfl ?_
  refine y_sld (pc' := 795) C (vin (k := 3) rfl (by omega) C.2.2.2.2.2.2.2.2.2.2.2) dL_law_794 rfl ?_
  refine y_callC (pc' := 798) (res := (σ1, r)) C [.int (xs (nI i + 1).toNatClampNeg), .int (xs (nI i + 2).toNatClampNeg), .int (xs (nI i + 3).toNatClampNeg)] cY_X10_stones mv_X10_stones ml_94 ⟨Nat.le_of_ble_eq_true rfl, Nat.le_of_ble_eq_true rfl⟩ rfl (Nat.le_of_ble_eq_true rfl) rfl dL_law_795 (c_X10_stones l s.heap.size D cA σ (xs (nI i + 1).toNatClampNeg) (xs (nI i + 2).toNatClampNeg) (xs (nI i + 3).toNatClampNeg) (σ1, r) hC) rfl ?_
  refine y_aload_n (pc' := 799) C dL_law_798 1 rfl rfl ?_
  refine y_aload_n (pc' := 800) C dL_law_799 3 rfl rfl ?_
  refine y_iload_n (pc' := 801) C dL_law_800 0 rfl rfl ?_
  refine y_iconst (pc' := 802) (v := 1) C dL_law_801 (by decide) rfl ?_
  refine y_iadd (pc' := 803) C dL_law_802 rfl ?_
  refine y_sld (pc' := 804) C (vin (k := 1) rfl (by omega) C.2.2.2.2.2.2.2.2.2.2.2) dL_law_803 rfl ?_
  refine y_aload_n (pc' := 805) C dL_law_804 3 rfl rfl ?_
  refine y_iload_n (pc' := 806) C dL_law_805 0 rfl rfl ?_
  refine y_iconst (pc' := 807) (v := 2) C dL_law_806 (by decide) rfl ?_
  refine y_iadd (pc' := 808) C dL_law_807 rfl ?_
  refine y_sld (pc' := 809) C (vin (k := 2) rfl (by omega) C.2.2.2.2.2.2.2.2.2.2.2) dL_law_808 rfl ?_
  refine y_aload_n (pc' := 810) C dL_law_809 3 rfl rfl ?_
  refine y_iload_n (pc' := 811) C dL_law_810 0 rfl rfl ?_
  refine y_iconst (pc' := 812) (v := 3) C dL_law_811 (by decide) rfl ?_
  refine y_iadd (pc' := 813) C dL_law_812 rfl ?_
  refine y_sld (pc' := 814) C (vin (k := 3) rfl (by omega) C.2.2.2.2.2.2.2.2.2.2.2) dL_law_813 rfl ?_
  refine y_callM (pc' := 817) (res := (τ1, r)) C [.int (xs (nI i + 1).toNatClampNeg), .int (xs (nI i + 2).toNatClampNeg), .int (xs (nI i + 3).toNatClampNeg)] cY_X11_stones mv_X11_stones ml_97 ⟨Nat.le_of_ble_eq_true rfl, Nat.le_of_ble_eq_true rfl⟩ rfl (Nat.le_of_ble_eq_true rfl) rfl dL_law_814 (c_X11_stones l (s.heap.size + 97) D cA τ (xs (nI i + 1).toNatClampNeg) (xs (nI i + 2).toNatClampNeg) (xs (nI i + 3).toNatClampNeg) (τ1, r) hM) rfl ?_
  refine y_icmp_eq (pc' := 820) (tgt := 1432) C dL_law_817 (by decide) rfl (fun _ => ?_) (fun q => absurd rfl q)
  exact back σ1 τ1 hI
set_option maxRecDepth 100000 in
theorem k_20 (C : ly_C p s m b L xs meth c D cA) (hi : i + 7 ≤ L) (h : Inv σ τ) (back : ∀ σ1 τ1, Inv σ1 τ1 → ly_W p l e s m b below meth c D cA Q σ1 τ1 1432 [(3, .int (nI i)), (2, .ref (s.heap.size + 97 + 0)), (1, .ref (s.heap.size + 0)), (0, .ref b)] []) : ly_W p l e s m b below meth c D cA Q σ τ 822 [(3, .int (nI i)), (2, .ref (s.heap.size + 97 + 0)), (1, .ref (s.heap.size + 0)), (0, .ref b)] [] := by
  obtain ⟨σ1, τ1, r, hC, hM, hI⟩ := S_convoy (a := xs (nI i + 1).toNatClampNeg) (b := xs (nI i + 2).toNatClampNeg) (c := xs (nI i + 3).toNatClampNeg) h
  refine y_aload_n (pc' := 823) C dL_law_822 2 rfl rfl ?_
  refine y_aload_n (pc' := 824) C dL_law_823 3 rfl rfl ?_
  refine y_iload_n (pc' := 825) C dL_law_824 0 rfl rfl ?_
  refine y_iconst (pc' := 826) (v := 1) C dL_law_825 (by decide) rfl ?_
  refine y_iadd (pc' := 827) C dL_law_826 rfl ?_
  refine y_sld (pc' := 828) C (vin (k := 1) rfl (by omega) C.2.2.2.2.2.2.2.2.2.2.2) dL_law_827 rfl ?_
  refine y_aload_n (pc' := 829) C dL_law_828 3 rfl rfl ?_
  refine y_iload_n (pc' := 830) C dL_law_829 0 rfl rfl ?_
  refine y_iconst (pc' := 831) (v := 2) C dL_law_830 (by decide) rfl ?_
  refine y_iadd (pc' := 832) C dL_law_831 rfl ?_
  refine y_sld (pc' := 833) C (vin (k := 2) rfl (by omega) C.2.2.2.2.2.2.2.2.2.2.2) dL_law_832 rfl ?_
  refine y_aload_n (pc' := 834) C dL_law_833 3 rfl rfl ?_
  refine y_iload_n (pc' := 835) C dL_law_834 0 rfl rfl ?_
  refine y_iconst (pc' := 836) (v := 3) C dL_law_835 (by decide) rfl ?_
  refine y_iadd (pc' := 837) C dL_law_836 rfl ?_
  refine y_sld (pc' := 838) C (vin (k := 3) rfl (by omega) C.2.2.2.2.2.2.2.2.2.2.2) dL_law_837 rfl ?_
  refine y_callC (pc' := 841) (res := (σ1, r)) C [.int (xs (nI i + 1).toNatClampNeg), .int (xs (nI i + 2).toNatClampNeg), .int (xs (nI i + 3).toNatClampNeg)] cY_X10_convoy mv_X10_convoy ml_98 ⟨Nat.le_of_ble_eq_true rfl, Nat.le_of_ble_eq_true rfl⟩ rfl (Nat.le_of_ble_eq_true rfl) rfl dL_law_838 (c_X10_convoy l s.heap.size D cA σ (xs (nI i + 1).toNatClampNeg) (xs (nI i + 2).toNatClampNeg) (xs (nI i + 3).toNatClampNeg) (σ1, r) hC) rfl ?_
  refine y_aload_n (pc' := 842) C dL_law_841 1 rfl rfl ?_
  refine y_aload_n (pc' := 843) C dL_law_842 3 rfl rfl ?_
  refine y_iload_n (pc' := 844) C dL_law_843 0 rfl rfl ?_
  refine y_iconst (pc' := 845) (v := 1) C dL_law_844 (by decide) rfl ?_
  refine y_iadd (pc' := 846) C dL_law_845 rfl ?_
  refine y_sld (pc' := 847) C (vin (k := 1) rfl (by omega) C.2.2.2.2.2.2.2.2.2.2.2) dL_law_846 rfl ?_
  refine y_aload_n (pc' := 848) C dL_law_847 3 rfl rfl ?_
  refine y_iload_n (pc' := 849) C dL_law_848 0 rfl rfl ?_
  refine y_iconst (pc' := 850) (v := 2) C dL_law_849 (by decide) rfl ?_
  refine y_iadd (pc' := 851) C dL_law_850 rfl ?_
  refine y_sld (pc' := 852) C (vin (k := 2) rfl (by omega) C.2.2.2.2.2.2.2.2.2.2.2) dL_law_851 rfl ?_
  refine y_aload_n (pc' := 853) C dL_law_852 3 rfl rfl ?_
  refine y_iload_n (pc' := 854) C dL_law_853 0 rfl rfl ?_
  refine y_iconst (pc' := 855) (v := 3) C dL_law_854 (by decide) rfl ?_
  refine y_iadd (pc' := 856) C dL_law_855 rfl ?_
  refine y_sld (pc' := 857) C (vin (k := 3) rfl (by omega) C.2.2.2.2.2.2.2.2.2.2.2) dL_law_856 rfl ?_
  refine y_callM (pc' := 860) (res := (τ1, r)) C [.int (xs (nI i + 1).toNatClampNeg), .int (xs (nI i + 2).toNatClampNeg), .int (xs (nI i + 3).toNatClampNeg)] cY_X11_convoy mv_X11_convoy ml_101 ⟨Nat.le_of_ble_eq_true rfl, Nat.le_of_ble_eq_true rfl⟩ rfl (Nat.le_of_ble_eq_true rfl) rfl dL_law_857 (c_X11_convoy l (s.heap.size + 97) D cA τ (xs (nI i + 1).toNatClampNeg) (xs (nI i + 2).toNatClampNeg) (xs (nI i + 3).toNatClampNeg) (τ1, r) hM) rfl ?_
  refine y_icmp_eq (pc' := 863) (tgt := 1432) C dL_law_860 (by decide) rfl (fun _ => ?_) (fun q => absurd rfl q)
  exact back σ1 τ1 hI
set_option maxRecDepth 100000 in
theorem k_21 (C : ly_C p s m b L xs meth c D cA) (hi : i + 7 ≤ L) (h : Inv σ τ) (back : ∀ σ1 τ1, Inv σ1 τ1 → ly_W p l e s m b below meth c D cA Q σ1 τ1 1432 [(3, .int (nI i)), (2, .ref (s.heap.size + 97 + 0)), (1, .ref (s.heap.size + 0)), (0, .ref b)] []) : ly_W p l e s m b below meth c D cA Q σ τ 865 [(3, .int (nI i)), (2, .ref (s.heap.size + 97 + 0)), (1, .ref (s.heap.size + 0)), (0, .ref b)] [] := by
  obtain ⟨σ1, τ1, r, hC, hM, hI⟩ := S_rudder (a := xs (nI i + 1).toNatClampNeg) (b := xs (nI i + 2).toNatClampNeg) (c := xs (nI i + 3).toNatClampNeg) h
  refine y_aload_n (pc' := 866) C dL_law_865 2 rfl rfl ?_
  refine y_aload_n (pc' := 867) C dL_law_866 3 rfl rfl ?_
  refine y_iload_n (pc' := 868) C dL_law_867 0 rfl rfl ?_
  refine y_iconst (pc' := 869) (v := 1) C dL_law_868 (by decide) rfl ?_
  refine y_iadd (pc' := 870) C dL_law_869 rfl ?_
  refine y_sld (pc' := 871) C (vin (k := 1) rfl (by omega) C.2.2.2.2.2.2.2.2.2.2.2) dL_law_870 rfl ?_
  refine y_aload_n (pc' := 872) C dL_law_871 3 rfl rfl ?_
  refine y_iload_n (pc' := 873) C dL_law_872 0 rfl rfl ?_
  refine y_iconst (pc' := 874) (v := 2) C dL_law_873 (by decide) rfl ?_
  refine y_iadd (pc' := 875) C dL_law_874 rfl ?_
  refine y_sld (pc' := 876) C (vin (k := 2) rfl (by omega) C.2.2.2.2.2.2.2.2.2.2.2) dL_law_875 rfl ?_
  refine y_aload_n (pc' := 877) C dL_law_876 3 rfl rfl ?_
  refine y_iload_n (pc' := 878) C dL_law_877 0 rfl rfl ?_
  refine y_iconst (pc' := 879) (v := 3) C dL_law_878 (by decide) rfl ?_
  refine y_iadd (pc' := 880) C dL_law_879 rfl ?_
  refine y_sld (pc' := 881) C (vin (k := 3) rfl (by omega) C.2.2.2.2.2.2.2.2.2.2.2) dL_law_880 rfl ?_
  refine y_callC (pc' := 884) (res := (σ1, r)) C [.int (xs (nI i + 1).toNatClampNeg), .int (xs (nI i + 2).toNatClampNeg), .int (xs (nI i + 3).toNatClampNeg)] cY_X10_rudder mv_X10_rudder ml_102 ⟨Nat.le_of_ble_eq_true rfl, Nat.le_of_ble_eq_true rfl⟩ rfl (Nat.le_of_ble_eq_true rfl) rfl dL_law_881 (c_X10_rudder l s.heap.size D cA σ (xs (nI i + 1).toNatClampNeg) (xs (nI i + 2).toNatClampNeg) (xs (nI i + 3).toNatClampNeg) (σ1, r) hC) rfl ?_
  refine y_aload_n (pc' := 885) C dL_law_884 1 rfl rfl ?_
  refine y_aload_n (pc' := 886) C dL_law_885 3 rfl rfl ?_
  refine y_iload_n (pc' := 887) C dL_law_886 0 rfl rfl ?_
  refine y_iconst (pc' := 888) (v := 1) C dL_law_887 (by decide) rfl ?_
  refine y_iadd (pc' := 889) C dL_law_888 rfl ?_
  refine y_sld (pc' := 890) C (vin (k := 1) rfl (by omega) C.2.2.2.2.2.2.2.2.2.2.2) dL_law_889 rfl ?_
  refine y_aload_n (pc' := 891) C dL_law_890 3 rfl rfl ?_
  refine y_iload_n (pc' := 892) C dL_law_891 0 rfl rfl ?_
  refine y_iconst (pc' := 893) (v := 2) C dL_law_892 (by decide) rfl ?_
  refine y_iadd (pc' := 894) C dL_law_893 rfl ?_
  refine y_sld (pc' := 895) C (vin (k := 2) rfl (by omega) C.2.2.2.2.2.2.2.2.2.2.2) dL_law_894 rfl ?_
  refine y_aload_n (pc' := 896) C dL_law_895 3 rfl rfl ?_
  refine y_iload_n (pc' := 897) C dL_law_896 0 rfl rfl ?_
  refine y_iconst (pc' := 898) (v := 3) C dL_law_897 (by decide) rfl ?_
  refine y_iadd (pc' := 899) C dL_law_898 rfl ?_
  refine y_sld (pc' := 900) C (vin (k := 3) rfl (by omega) C.2.2.2.2.2.2.2.2.2.2.2) dL_law_899 rfl ?_
  refine y_callM (pc' := 903) (res := (τ1, r)) C [.int (xs (nI i + 1).toNatClampNeg), .int (xs (nI i + 2).toNatClampNeg), .int (xs (nI i + 3).toNatClampNeg)] cY_X11_rudder mv_X11_rudder ml_105 ⟨Nat.le_of_ble_eq_true rfl, Nat.le_of_ble_eq_true rfl⟩ rfl (Nat.le_of_ble_eq_true rfl) rfl dL_law_900 (c_X11_rudder l (s.heap.size + 97) D cA τ (xs (nI i + 1).toNatClampNeg) (xs (nI i + 2).toNatClampNeg) (xs (nI i + 3).toNatClampNeg) (τ1, r) hM) rfl ?_
  refine y_icmp_eq (pc' := 906) (tgt := 1432) C dL_law_903 (by decide) rfl (fun _ => ?_) (fun q => absurd rfl q)
  exact back σ1 τ1 hI
set_option maxRecDepth 100000 in
theorem k_22 (C : ly_C p s m b L xs meth c D cA) (hi : i + 7 ≤ L) (h : Inv σ τ) (back : ∀ σ1 τ1, Inv σ1 τ1 → ly_W p l e s m b below meth c D cA Q σ1 τ1 1432 [(3, .int (nI i)), (2, .ref (s.heap.size + 97 + 0)), (1, .ref (s.heap.size + 0)), (0, .ref b)] []) : ly_W p l e s m b below meth c D cA Q σ τ 908 [(3, .int (nI i)), (2, .ref (s.heap.size + 97 + 0)), (1, .ref (s.heap.size + 0)), (0, .ref b)] [] := by
  obtain ⟨σ1, τ1, r, hC, hM, hI⟩ := S_worth (a := xs (nI i + 1).toNatClampNeg) (b := xs (nI i + 2).toNatClampNeg) h
  refine y_aload_n (pc' := 909) C dL_law_908 2 rfl rfl ?_
  refine y_aload_n (pc' := 910) C dL_law_909 3 rfl rfl ?_
  refine y_iload_n (pc' := 911) C dL_law_910 0 rfl rfl ?_
  refine y_iconst (pc' := 912) (v := 1) C dL_law_911 (by decide) rfl ?_
  refine y_iadd (pc' := 913) C dL_law_912 rfl ?_
  refine y_sld (pc' := 914) C (vin (k := 1) rfl (by omega) C.2.2.2.2.2.2.2.2.2.2.2) dL_law_913 rfl ?_
  refine y_aload_n (pc' := 915) C dL_law_914 3 rfl rfl ?_
  refine y_iload_n (pc' := 916) C dL_law_915 0 rfl rfl ?_
  refine y_iconst (pc' := 917) (v := 2) C dL_law_916 (by decide) rfl ?_
  refine y_iadd (pc' := 918) C dL_law_917 rfl ?_
  refine y_sld (pc' := 919) C (vin (k := 2) rfl (by omega) C.2.2.2.2.2.2.2.2.2.2.2) dL_law_918 rfl ?_
  refine y_callC (pc' := 922) (res := (σ1, r)) C [.int (xs (nI i + 1).toNatClampNeg), .int (xs (nI i + 2).toNatClampNeg)] cY_X10_worth mv_X10_worth ml_106 ⟨Nat.le_of_ble_eq_true rfl, Nat.le_of_ble_eq_true rfl⟩ rfl (Nat.le_of_ble_eq_true rfl) rfl dL_law_919 (c_X10_worth l s.heap.size D cA σ (xs (nI i + 1).toNatClampNeg) (xs (nI i + 2).toNatClampNeg) (σ1, r) hC) rfl ?_
  refine y_aload_n (pc' := 923) C dL_law_922 1 rfl rfl ?_
  refine y_aload_n (pc' := 924) C dL_law_923 3 rfl rfl ?_
  refine y_iload_n (pc' := 925) C dL_law_924 0 rfl rfl ?_
  refine y_iconst (pc' := 926) (v := 1) C dL_law_925 (by decide) rfl ?_
  refine y_iadd (pc' := 927) C dL_law_926 rfl ?_
  refine y_sld (pc' := 928) C (vin (k := 1) rfl (by omega) C.2.2.2.2.2.2.2.2.2.2.2) dL_law_927 rfl ?_
  refine y_aload_n (pc' := 929) C dL_law_928 3 rfl rfl ?_
  refine y_iload_n (pc' := 930) C dL_law_929 0 rfl rfl ?_
  refine y_iconst (pc' := 931) (v := 2) C dL_law_930 (by decide) rfl ?_
  refine y_iadd (pc' := 932) C dL_law_931 rfl ?_
  refine y_sld (pc' := 933) C (vin (k := 2) rfl (by omega) C.2.2.2.2.2.2.2.2.2.2.2) dL_law_932 rfl ?_
  refine y_callM (pc' := 936) (res := (τ1, r)) C [.int (xs (nI i + 1).toNatClampNeg), .int (xs (nI i + 2).toNatClampNeg)] cY_X11_worth mv_X11_worth ml_109 ⟨Nat.le_of_ble_eq_true rfl, Nat.le_of_ble_eq_true rfl⟩ rfl (Nat.le_of_ble_eq_true rfl) rfl dL_law_933 (c_X11_worth l (s.heap.size + 97) D cA τ (xs (nI i + 1).toNatClampNeg) (xs (nI i + 2).toNatClampNeg) (τ1, r) hM) rfl ?_
  refine y_icmp_eq (pc' := 939) (tgt := 1432) C dL_law_936 (by decide) rfl (fun _ => ?_) (fun q => absurd rfl q)
  exact back σ1 τ1 hI
set_option maxRecDepth 100000 in
theorem k_23 (C : ly_C p s m b L xs meth c D cA) (hi : i + 7 ≤ L) (h : Inv σ τ) (back : ∀ σ1 τ1, Inv σ1 τ1 → ly_W p l e s m b below meth c D cA Q σ1 τ1 1432 [(3, .int (nI i)), (2, .ref (s.heap.size + 97 + 0)), (1, .ref (s.heap.size + 0)), (0, .ref b)] []) : ly_W p l e s m b below meth c D cA Q σ τ 941 [(3, .int (nI i)), (2, .ref (s.heap.size + 97 + 0)), (1, .ref (s.heap.size + 0)), (0, .ref b)] [] := by
  obtain ⟨σ1, τ1, r, hC, hM, hI⟩ := S_look (a := xs (nI i + 1).toNatClampNeg) (b := xs (nI i + 2).toNatClampNeg) h
  refine y_aload_n (pc' := 942) C dL_law_941 2 rfl rfl ?_
  refine y_aload_n (pc' := 943) C dL_law_942 3 rfl rfl ?_
  refine y_iload_n (pc' := 944) C dL_law_943 0 rfl rfl ?_
  refine y_iconst (pc' := 945) (v := 1) C dL_law_944 (by decide) rfl ?_
  refine y_iadd (pc' := 946) C dL_law_945 rfl ?_
  refine y_sld (pc' := 947) C (vin (k := 1) rfl (by omega) C.2.2.2.2.2.2.2.2.2.2.2) dL_law_946 rfl ?_
  refine y_aload_n (pc' := 948) C dL_law_947 3 rfl rfl ?_
  refine y_iload_n (pc' := 949) C dL_law_948 0 rfl rfl ?_
  refine y_iconst (pc' := 950) (v := 2) C dL_law_949 (by decide) rfl ?_
  refine y_iadd (pc' := 951) C dL_law_950 rfl ?_
  refine y_sld (pc' := 952) C (vin (k := 2) rfl (by omega) C.2.2.2.2.2.2.2.2.2.2.2) dL_law_951 rfl ?_
  refine y_callC (pc' := 955) (res := (σ1, r)) C [.int (xs (nI i + 1).toNatClampNeg), .int (xs (nI i + 2).toNatClampNeg)] cY_X10_look mv_X10_look ml_110 ⟨Nat.le_of_ble_eq_true rfl, Nat.le_of_ble_eq_true rfl⟩ rfl (Nat.le_of_ble_eq_true rfl) rfl dL_law_952 (c_X10_look l s.heap.size D cA σ (xs (nI i + 1).toNatClampNeg) (xs (nI i + 2).toNatClampNeg) (σ1, r) hC) rfl ?_
  refine y_aload_n (pc' := 956) C dL_law_955 1 rfl rfl ?_
  refine y_aload_n (pc' := 957) C dL_law_956 3 rfl rfl ?_
  refine y_iload_n (pc' := 958) C dL_law_957 0 rfl rfl ?_
  refine y_iconst (pc' := 959) (v := 1) C dL_law_958 (by decide) rfl ?_
  refine y_iadd (pc' := 960) C dL_law_959 rfl ?_
  refine y_sld (pc' := 961) C (vin (k := 1) rfl (by omega) C.2.2.2.2.2.2.2.2.2.2.2) dL_law_960 rfl ?_
  refine y_aload_n (pc' := 962) C dL_law_961 3 rfl rfl ?_
  refine y_iload_n (pc' := 963) C dL_law_962 0 rfl rfl ?_
  refine y_iconst (pc' := 964) (v := 2) C dL_law_963 (by decide) rfl ?_
  refine y_iadd (pc' := 965) C dL_law_964 rfl ?_
  refine y_sld (pc' := 966) C (vin (k := 2) rfl (by omega) C.2.2.2.2.2.2.2.2.2.2.2) dL_law_965 rfl ?_
  refine y_callM (pc' := 969) (res := (τ1, r)) C [.int (xs (nI i + 1).toNatClampNeg), .int (xs (nI i + 2).toNatClampNeg)] cY_X11_look mv_X11_look ml_113 ⟨Nat.le_of_ble_eq_true rfl, Nat.le_of_ble_eq_true rfl⟩ rfl (Nat.le_of_ble_eq_true rfl) rfl dL_law_966 (c_X11_look l (s.heap.size + 97) D cA τ (xs (nI i + 1).toNatClampNeg) (xs (nI i + 2).toNatClampNeg) (τ1, r) hM) rfl ?_
  refine y_icmp_eq (pc' := 972) (tgt := 1432) C dL_law_969 (by decide) rfl (fun _ => ?_) (fun q => absurd rfl q)
  exact back σ1 τ1 hI
set_option maxRecDepth 100000 in
theorem k_24 (C : ly_C p s m b L xs meth c D cA) (hi : i + 7 ≤ L) (h : Inv σ τ) (back : ∀ σ1 τ1, Inv σ1 τ1 → ly_W p l e s m b below meth c D cA Q σ1 τ1 1432 [(3, .int (nI i)), (2, .ref (s.heap.size + 97 + 0)), (1, .ref (s.heap.size + 0)), (0, .ref b)] []) : ly_W p l e s m b below meth c D cA Q σ τ 974 [(3, .int (nI i)), (2, .ref (s.heap.size + 97 + 0)), (1, .ref (s.heap.size + 0)), (0, .ref b)] [] := by
  obtain ⟨σ1, τ1, r, hC, hM, hI⟩ := S_forget  h
  refine y_aload_n (pc' := 975) C dL_law_974 2 rfl rfl ?_
  refine y_callC (pc' := 978) (res := (σ1, r)) C [] cY_X10_forget mv_X10_forget ml_114 ⟨Nat.le_of_ble_eq_true rfl, Nat.le_of_ble_eq_true rfl⟩ rfl (Nat.le_of_ble_eq_true rfl) rfl dL_law_975 (c_X10_forget l s.heap.size D cA σ  (σ1, r) hC) rfl ?_
  refine y_aload_n (pc' := 979) C dL_law_978 1 rfl rfl ?_
  refine y_callM (pc' := 982) (res := (τ1, r)) C [] cY_X11_forget mv_X11_forget ml_117 ⟨Nat.le_of_ble_eq_true rfl, Nat.le_of_ble_eq_true rfl⟩ rfl (Nat.le_of_ble_eq_true rfl) rfl dL_law_979 (c_X11_forget l (s.heap.size + 97) D cA τ  (τ1, r) hM) rfl ?_
  refine y_icmp_eq (pc' := 985) (tgt := 1432) C dL_law_982 (by decide) rfl (fun _ => ?_) (fun q => absurd rfl q)
  exact back σ1 τ1 hI
set_option maxRecDepth 100000 in
theorem k_25 (C : ly_C p s m b L xs meth c D cA) (hi : i + 7 ≤ L) (h : Inv σ τ) (back : ∀ σ1 τ1, Inv σ1 τ1 → ly_W p l e s m b below meth c D cA Q σ1 τ1 1432 [(3, .int (nI i)), (2, .ref (s.heap.size + 97 + 0)), (1, .ref (s.heap.size + 0)), (0, .ref b)] []) : ly_W p l e s m b below meth c D cA Q σ τ 987 [(3, .int (nI i)), (2, .ref (s.heap.size + 97 + 0)), (1, .ref (s.heap.size + 0)), (0, .ref b)] [] := by
  obtain ⟨σ1, τ1, r, hC, hM, hI⟩ := S_fits (a := xs (nI i + 1).toNatClampNeg) h
  refine y_aload_n (pc' := 988) C dL_law_987 2 rfl rfl ?_
  refine y_aload_n (pc' := 989) C dL_law_988 3 rfl rfl ?_
  refine y_iload_n (pc' := 990) C dL_law_989 0 rfl rfl ?_
  refine y_iconst (pc' := 991) (v := 1) C dL_law_990 (by decide) rfl ?_
  refine y_iadd (pc' := 992) C dL_law_991 rfl ?_
  refine y_sld (pc' := 993) C (vin (k := 1) rfl (by omega) C.2.2.2.2.2.2.2.2.2.2.2) dL_law_992 rfl ?_
  refine y_callC (pc' := 996) (res := (σ1, r)) C [.int (xs (nI i + 1).toNatClampNeg)] cY_X10_fits mv_X10_fits ml_118 ⟨Nat.le_of_ble_eq_true rfl, Nat.le_of_ble_eq_true rfl⟩ rfl (Nat.le_of_ble_eq_true rfl) rfl dL_law_993 (c_X10_fits l s.heap.size D cA σ (xs (nI i + 1).toNatClampNeg) (σ1, r) hC) rfl ?_
  refine y_aload_n (pc' := 997) C dL_law_996 1 rfl rfl ?_
  refine y_aload_n (pc' := 998) C dL_law_997 3 rfl rfl ?_
  refine y_iload_n (pc' := 999) C dL_law_998 0 rfl rfl ?_
  refine y_iconst (pc' := 1000) (v := 1) C dL_law_999 (by decide) rfl ?_
  refine y_iadd (pc' := 1001) C dL_law_1000 rfl ?_
  refine y_sld (pc' := 1002) C (vin (k := 1) rfl (by omega) C.2.2.2.2.2.2.2.2.2.2.2) dL_law_1001 rfl ?_
  refine y_callM (pc' := 1005) (res := (τ1, r)) C [.int (xs (nI i + 1).toNatClampNeg)] cY_X11_fits mv_X11_fits ml_121 ⟨Nat.le_of_ble_eq_true rfl, Nat.le_of_ble_eq_true rfl⟩ rfl (Nat.le_of_ble_eq_true rfl) rfl dL_law_1002 (c_X11_fits l (s.heap.size + 97) D cA τ (xs (nI i + 1).toNatClampNeg) (τ1, r) hM) rfl ?_
  refine y_icmp_eq (pc' := 1008) (tgt := 1432) C dL_law_1005 (by decide) rfl (fun _ => ?_) (fun q => absurd rfl q)
  exact back σ1 τ1 hI
set_option maxRecDepth 100000 in
theorem k_26 (C : ly_C p s m b L xs meth c D cA) (hi : i + 7 ≤ L) (h : Inv σ τ) (back : ∀ σ1 τ1, Inv σ1 τ1 → ly_W p l e s m b below meth c D cA Q σ1 τ1 1432 [(3, .int (nI i)), (2, .ref (s.heap.size + 97 + 0)), (1, .ref (s.heap.size + 0)), (0, .ref b)] []) : ly_W p l e s m b below meth c D cA Q σ τ 1010 [(3, .int (nI i)), (2, .ref (s.heap.size + 97 + 0)), (1, .ref (s.heap.size + 0)), (0, .ref b)] [] := by
  obtain ⟨σ1, τ1, r, hC, hM, hI⟩ := S_foretell (a := xs (nI i + 1).toNatClampNeg) h
  refine y_aload_n (pc' := 1011) C dL_law_1010 2 rfl rfl ?_
  refine y_aload_n (pc' := 1012) C dL_law_1011 3 rfl rfl ?_
  refine y_iload_n (pc' := 1013) C dL_law_1012 0 rfl rfl ?_
  refine y_iconst (pc' := 1014) (v := 1) C dL_law_1013 (by decide) rfl ?_
  refine y_iadd (pc' := 1015) C dL_law_1014 rfl ?_
  refine y_sld (pc' := 1016) C (vin (k := 1) rfl (by omega) C.2.2.2.2.2.2.2.2.2.2.2) dL_law_1015 rfl ?_
  refine y_callC (pc' := 1019) (res := (σ1, r)) C [.int (xs (nI i + 1).toNatClampNeg)] cY_X10_foretell mv_X10_foretell ml_122 ⟨Nat.le_of_ble_eq_true rfl, Nat.le_of_ble_eq_true rfl⟩ rfl (Nat.le_of_ble_eq_true rfl) rfl dL_law_1016 (c_X10_foretell l s.heap.size D cA σ (xs (nI i + 1).toNatClampNeg) (σ1, r) hC) rfl ?_
  refine y_aload_n (pc' := 1020) C dL_law_1019 1 rfl rfl ?_
  refine y_aload_n (pc' := 1021) C dL_law_1020 3 rfl rfl ?_
  refine y_iload_n (pc' := 1022) C dL_law_1021 0 rfl rfl ?_
  refine y_iconst (pc' := 1023) (v := 1) C dL_law_1022 (by decide) rfl ?_
  refine y_iadd (pc' := 1024) C dL_law_1023 rfl ?_
  refine y_sld (pc' := 1025) C (vin (k := 1) rfl (by omega) C.2.2.2.2.2.2.2.2.2.2.2) dL_law_1024 rfl ?_
  refine y_callM (pc' := 1028) (res := (τ1, r)) C [.int (xs (nI i + 1).toNatClampNeg)] cY_X11_foretell mv_X11_foretell ml_125 ⟨Nat.le_of_ble_eq_true rfl, Nat.le_of_ble_eq_true rfl⟩ rfl (Nat.le_of_ble_eq_true rfl) rfl dL_law_1025 (c_X11_foretell l (s.heap.size + 97) D cA τ (xs (nI i + 1).toNatClampNeg) (τ1, r) hM) rfl ?_
  refine y_icmp_eq (pc' := 1031) (tgt := 1432) C dL_law_1028 (by decide) rfl (fun _ => ?_) (fun q => absurd rfl q)
  exact back σ1 τ1 hI
set_option maxRecDepth 100000 in
theorem k_27 (C : ly_C p s m b L xs meth c D cA) (hi : i + 7 ≤ L) (h : Inv σ τ) (back : ∀ σ1 τ1, Inv σ1 τ1 → ly_W p l e s m b below meth c D cA Q σ1 τ1 1432 [(3, .int (nI i)), (2, .ref (s.heap.size + 97 + 0)), (1, .ref (s.heap.size + 0)), (0, .ref b)] []) : ly_W p l e s m b below meth c D cA Q σ τ 1033 [(3, .int (nI i)), (2, .ref (s.heap.size + 97 + 0)), (1, .ref (s.heap.size + 0)), (0, .ref b)] [] := by
  obtain ⟨σ1, τ1, r, hC, hM, hI⟩ := S_next (a := xs (nI i + 1).toNatClampNeg) (c := xs (nI i + 2).toNatClampNeg) h
  refine y_aload_n (pc' := 1034) C dL_law_1033 2 rfl rfl ?_
  refine y_aload_n (pc' := 1035) C dL_law_1034 3 rfl rfl ?_
  refine y_iload_n (pc' := 1036) C dL_law_1035 0 rfl rfl ?_
  refine y_iconst (pc' := 1037) (v := 1) C dL_law_1036 (by decide) rfl ?_
  refine y_iadd (pc' := 1038) C dL_law_1037 rfl ?_
  refine y_sld (pc' := 1039) C (vin (k := 1) rfl (by omega) C.2.2.2.2.2.2.2.2.2.2.2) dL_law_1038 rfl ?_
  refine y_aload_n (pc' := 1040) C dL_law_1039 3 rfl rfl ?_
  refine y_iload_n (pc' := 1041) C dL_law_1040 0 rfl rfl ?_
  refine y_iconst (pc' := 1042) (v := 2) C dL_law_1041 (by decide) rfl ?_
  refine y_iadd (pc' := 1043) C dL_law_1042 rfl ?_
  refine y_sld (pc' := 1044) C (vin (k := 2) rfl (by omega) C.2.2.2.2.2.2.2.2.2.2.2) dL_law_1043 rfl ?_
  refine y_callC (pc' := 1047) (res := (σ1, r)) C [.int (xs (nI i + 1).toNatClampNeg), .int (xs (nI i + 2).toNatClampNeg)] cY_X10_next mv_X10_next ml_126 ⟨Nat.le_of_ble_eq_true rfl, Nat.le_of_ble_eq_true rfl⟩ rfl (Nat.le_of_ble_eq_true rfl) rfl dL_law_1044 (c_X10_next l s.heap.size D cA σ (xs (nI i + 1).toNatClampNeg) (xs (nI i + 2).toNatClampNeg) (σ1, r) hC) rfl ?_
  refine y_aload_n (pc' := 1048) C dL_law_1047 1 rfl rfl ?_
  refine y_aload_n (pc' := 1049) C dL_law_1048 3 rfl rfl ?_
  refine y_iload_n (pc' := 1050) C dL_law_1049 0 rfl rfl ?_
  refine y_iconst (pc' := 1051) (v := 1) C dL_law_1050 (by decide) rfl ?_
  refine y_iadd (pc' := 1052) C dL_law_1051 rfl ?_
  refine y_sld (pc' := 1053) C (vin (k := 1) rfl (by omega) C.2.2.2.2.2.2.2.2.2.2.2) dL_law_1052 rfl ?_
  refine y_aload_n (pc' := 1054) C dL_law_1053 3 rfl rfl ?_
  refine y_iload_n (pc' := 1055) C dL_law_1054 0 rfl rfl ?_
  refine y_iconst (pc' := 1056) (v := 2) C dL_law_1055 (by decide) rfl ?_
  refine y_iadd (pc' := 1057) C dL_law_1056 rfl ?_
  refine y_sld (pc' := 1058) C (vin (k := 2) rfl (by omega) C.2.2.2.2.2.2.2.2.2.2.2) dL_law_1057 rfl ?_
  refine y_callM (pc' := 1061) (res := (τ1, r)) C [.int (xs (nI i + 1).toNatClampNeg), .int (xs (nI i + 2).toNatClampNeg)] cY_X11_next mv_X11_next ml_129 ⟨Nat.le_of_ble_eq_true rfl, Nat.le_of_ble_eq_true rfl⟩ rfl (Nat.le_of_ble_eq_true rfl) rfl dL_law_1058 (c_X11_next l (s.heap.size + 97) D cA τ (xs (nI i + 1).toNatClampNeg) (xs (nI i + 2).toNatClampNeg) (τ1, r) hM) rfl ?_
  refine y_icmp_eq (pc' := 1064) (tgt := 1432) C dL_law_1061 (by decide) rfl (fun _ => ?_) (fun q => absurd rfl q)
  exact back σ1 τ1 hI
set_option maxRecDepth 100000 in
theorem k_28 (C : ly_C p s m b L xs meth c D cA) (hi : i + 7 ≤ L) (h : Inv σ τ) (back : ∀ σ1 τ1, Inv σ1 τ1 → ly_W p l e s m b below meth c D cA Q σ1 τ1 1432 [(3, .int (nI i)), (2, .ref (s.heap.size + 97 + 0)), (1, .ref (s.heap.size + 0)), (0, .ref b)] []) : ly_W p l e s m b below meth c D cA Q σ τ 1066 [(3, .int (nI i)), (2, .ref (s.heap.size + 97 + 0)), (1, .ref (s.heap.size + 0)), (0, .ref b)] [] := by
  obtain ⟨σ1, τ1, r, hC, hM, hI⟩ := S_image  h
  refine y_aload_n (pc' := 1067) C dL_law_1066 2 rfl rfl ?_
  refine y_callC (pc' := 1070) (res := (σ1, r)) C [] cY_X10_image mv_X10_image ml_130 ⟨Nat.le_of_ble_eq_true rfl, Nat.le_of_ble_eq_true rfl⟩ rfl (Nat.le_of_ble_eq_true rfl) rfl dL_law_1067 (c_X10_image l s.heap.size D cA σ  (σ1, r) hC) rfl ?_
  refine y_aload_n (pc' := 1071) C dL_law_1070 1 rfl rfl ?_
  refine y_callM (pc' := 1074) (res := (τ1, r)) C [] cY_X11_image mv_X11_image ml_133 ⟨Nat.le_of_ble_eq_true rfl, Nat.le_of_ble_eq_true rfl⟩ rfl (Nat.le_of_ble_eq_true rfl) rfl dL_law_1071 (c_X11_image l (s.heap.size + 97) D cA τ  (τ1, r) hM) rfl ?_
  refine y_icmp_eq (pc' := 1077) (tgt := 1432) C dL_law_1074 (by decide) rfl (fun _ => ?_) (fun q => absurd rfl q)
  exact back σ1 τ1 hI
set_option maxRecDepth 100000 in
theorem k_29 (C : ly_C p s m b L xs meth c D cA) (hi : i + 7 ≤ L) (h : Inv σ τ) (back : ∀ σ1 τ1, Inv σ1 τ1 → ly_W p l e s m b below meth c D cA Q σ1 τ1 1432 [(3, .int (nI i)), (2, .ref (s.heap.size + 97 + 0)), (1, .ref (s.heap.size + 0)), (0, .ref b)] []) : ly_W p l e s m b below meth c D cA Q σ τ 1079 [(3, .int (nI i)), (2, .ref (s.heap.size + 97 + 0)), (1, .ref (s.heap.size + 0)), (0, .ref b)] [] := by
  obtain ⟨σ1, τ1, r, hC, hM, hI⟩ := S_restore  h
  refine y_aload_n (pc' := 1080) C dL_law_1079 2 rfl rfl ?_
  refine y_callC (pc' := 1083) (res := (σ1, r)) C [] cY_X10_restore mv_X10_restore ml_134 ⟨Nat.le_of_ble_eq_true rfl, Nat.le_of_ble_eq_true rfl⟩ rfl (Nat.le_of_ble_eq_true rfl) rfl dL_law_1080 (c_X10_restore l s.heap.size D cA σ  (σ1, r) hC) rfl ?_
  refine y_aload_n (pc' := 1084) C dL_law_1083 1 rfl rfl ?_
  refine y_callM (pc' := 1087) (res := (τ1, r)) C [] cY_X11_restore mv_X11_restore ml_137 ⟨Nat.le_of_ble_eq_true rfl, Nat.le_of_ble_eq_true rfl⟩ rfl (Nat.le_of_ble_eq_true rfl) rfl dL_law_1084 (c_X11_restore l (s.heap.size + 97) D cA τ  (τ1, r) hM) rfl ?_
  refine y_icmp_eq (pc' := 1090) (tgt := 1432) C dL_law_1087 (by decide) rfl (fun _ => ?_) (fun q => absurd rfl q)
  exact back σ1 τ1 hI
set_option maxRecDepth 100000 in
theorem k_30 (C : ly_C p s m b L xs meth c D cA) (hi : i + 7 ≤ L) (h : Inv σ τ) (back : ∀ σ1 τ1, Inv σ1 τ1 → ly_W p l e s m b below meth c D cA Q σ1 τ1 1432 [(3, .int (nI i)), (2, .ref (s.heap.size + 97 + 0)), (1, .ref (s.heap.size + 0)), (0, .ref b)] []) : ly_W p l e s m b below meth c D cA Q σ τ 1092 [(3, .int (nI i)), (2, .ref (s.heap.size + 97 + 0)), (1, .ref (s.heap.size + 0)), (0, .ref b)] [] := by
  obtain ⟨σ1, τ1, r, hC, hM, hI⟩ := S_judged (a := xs (nI i + 1).toNatClampNeg) (b := xs (nI i + 2).toNatClampNeg) (c := xs (nI i + 3).toNatClampNeg) (d := xs (nI i + 4).toNatClampNeg) (e := xs (nI i + 5).toNatClampNeg) (g := xs (nI i + 6).toNatClampNeg) h
  refine y_aload_n (pc' := 1093) C dL_law_1092 2 rfl rfl ?_
  refine y_aload_n (pc' := 1094) C dL_law_1093 3 rfl rfl ?_
  refine y_iload_n (pc' := 1095) C dL_law_1094 0 rfl rfl ?_
  refine y_iconst (pc' := 1096) (v := 1) C dL_law_1095 (by decide) rfl ?_
  refine y_iadd (pc' := 1097) C dL_law_1096 rfl ?_
  refine y_sld (pc' := 1098) C (vin (k := 1) rfl (by omega) C.2.2.2.2.2.2.2.2.2.2.2) dL_law_1097 rfl ?_
  refine y_aload_n (pc' := 1099) C dL_law_1098 3 rfl rfl ?_
  refine y_iload_n (pc' := 1100) C dL_law_1099 0 rfl rfl ?_
  refine y_iconst (pc' := 1101) (v := 2) C dL_law_1100 (by decide) rfl ?_
  refine y_iadd (pc' := 1102) C dL_law_1101 rfl ?_
  refine y_sld (pc' := 1103) C (vin (k := 2) rfl (by omega) C.2.2.2.2.2.2.2.2.2.2.2) dL_law_1102 rfl ?_
  refine y_aload_n (pc' := 1104) C dL_law_1103 3 rfl rfl ?_
  refine y_iload_n (pc' := 1105) C dL_law_1104 0 rfl rfl ?_
  refine y_iconst (pc' := 1106) (v := 3) C dL_law_1105 (by decide) rfl ?_
  refine y_iadd (pc' := 1107) C dL_law_1106 rfl ?_
  refine y_sld (pc' := 1108) C (vin (k := 3) rfl (by omega) C.2.2.2.2.2.2.2.2.2.2.2) dL_law_1107 rfl ?_
  refine y_aload_n (pc' := 1109) C dL_law_1108 3 rfl rfl ?_
  refine y_iload_n (pc' := 1110) C dL_law_1109 0 rfl rfl ?_
  refine y_iconst (pc' := 1111) (v := 4) C dL_law_1110 (by decide) rfl ?_
  refine y_iadd (pc' := 1112) C dL_law_1111 rfl ?_
  refine y_sld (pc' := 1113) C (vin (k := 4) rfl (by omega) C.2.2.2.2.2.2.2.2.2.2.2) dL_law_1112 rfl ?_
  refine y_aload_n (pc' := 1114) C dL_law_1113 3 rfl rfl ?_
  refine y_iload_n (pc' := 1115) C dL_law_1114 0 rfl rfl ?_
  refine y_iconst (pc' := 1116) (v := 5) C dL_law_1115 (by decide) rfl ?_
  refine y_iadd (pc' := 1117) C dL_law_1116 rfl ?_
  refine y_sld (pc' := 1118) C (vin (k := 5) rfl (by omega) C.2.2.2.2.2.2.2.2.2.2.2) dL_law_1117 rfl ?_
  refine y_aload_n (pc' := 1119) C dL_law_1118 3 rfl rfl ?_
  refine y_iload_n (pc' := 1120) C dL_law_1119 0 rfl rfl ?_
  refine y_bipush (pc' := 1122) (v := 6) C dL_law_1120 (by decide) rfl ?_
  refine y_iadd (pc' := 1123) C dL_law_1122 rfl ?_
  refine y_sld (pc' := 1124) C (vin (k := 6) rfl (by omega) C.2.2.2.2.2.2.2.2.2.2.2) dL_law_1123 rfl ?_
  refine y_callC (pc' := 1127) (res := (σ1, r)) C [.int (xs (nI i + 1).toNatClampNeg), .int (xs (nI i + 2).toNatClampNeg), .int (xs (nI i + 3).toNatClampNeg), .int (xs (nI i + 4).toNatClampNeg), .int (xs (nI i + 5).toNatClampNeg), .int (xs (nI i + 6).toNatClampNeg)] cY_X10_judged mv_X10_judged ml_138 ⟨Nat.le_of_ble_eq_true rfl, Nat.le_of_ble_eq_true rfl⟩ rfl (Nat.le_of_ble_eq_true rfl) rfl dL_law_1124 (c_X10_judged l s.heap.size D cA σ (xs (nI i + 1).toNatClampNeg) (xs (nI i + 2).toNatClampNeg) (xs (nI i + 3).toNatClampNeg) (xs (nI i + 4).toNatClampNeg) (xs (nI i + 5).toNatClampNeg) (xs (nI i + 6).toNatClampNeg) (σ1, r) hC) rfl ?_
  refine y_aload_n (pc' := 1128) C dL_law_1127 1 rfl rfl ?_
  refine y_aload_n (pc' := 1129) C dL_law_1128 3 rfl rfl ?_
  refine y_iload_n (pc' := 1130) C dL_law_1129 0 rfl rfl ?_
  refine y_iconst (pc' := 1131) (v := 1) C dL_law_1130 (by decide) rfl ?_
  refine y_iadd (pc' := 1132) C dL_law_1131 rfl ?_
  refine y_sld (pc' := 1133) C (vin (k := 1) rfl (by omega) C.2.2.2.2.2.2.2.2.2.2.2) dL_law_1132 rfl ?_
  refine y_aload_n (pc' := 1134) C dL_law_1133 3 rfl rfl ?_
  refine y_iload_n (pc' := 1135) C dL_law_1134 0 rfl rfl ?_
  refine y_iconst (pc' := 1136) (v := 2) C dL_law_1135 (by decide) rfl ?_
  refine y_iadd (pc' := 1137) C dL_law_1136 rfl ?_
  refine y_sld (pc' := 1138) C (vin (k := 2) rfl (by omega) C.2.2.2.2.2.2.2.2.2.2.2) dL_law_1137 rfl ?_
  refine y_aload_n (pc' := 1139) C dL_law_1138 3 rfl rfl ?_
  refine y_iload_n (pc' := 1140) C dL_law_1139 0 rfl rfl ?_
  refine y_iconst (pc' := 1141) (v := 3) C dL_law_1140 (by decide) rfl ?_
  refine y_iadd (pc' := 1142) C dL_law_1141 rfl ?_
  refine y_sld (pc' := 1143) C (vin (k := 3) rfl (by omega) C.2.2.2.2.2.2.2.2.2.2.2) dL_law_1142 rfl ?_
  refine y_aload_n (pc' := 1144) C dL_law_1143 3 rfl rfl ?_
  refine y_iload_n (pc' := 1145) C dL_law_1144 0 rfl rfl ?_
  refine y_iconst (pc' := 1146) (v := 4) C dL_law_1145 (by decide) rfl ?_
  refine y_iadd (pc' := 1147) C dL_law_1146 rfl ?_
  refine y_sld (pc' := 1148) C (vin (k := 4) rfl (by omega) C.2.2.2.2.2.2.2.2.2.2.2) dL_law_1147 rfl ?_
  refine y_aload_n (pc' := 1149) C dL_law_1148 3 rfl rfl ?_
  refine y_iload_n (pc' := 1150) C dL_law_1149 0 rfl rfl ?_
  refine y_iconst (pc' := 1151) (v := 5) C dL_law_1150 (by decide) rfl ?_
  refine y_iadd (pc' := 1152) C dL_law_1151 rfl ?_
  refine y_sld (pc' := 1153) C (vin (k := 5) rfl (by omega) C.2.2.2.2.2.2.2.2.2.2.2) dL_law_1152 rfl ?_
  refine y_aload_n (pc' := 1154) C dL_law_1153 3 rfl rfl ?_
  refine y_iload_n (pc' := 1155) C dL_law_1154 0 rfl rfl ?_
  refine y_bipush (pc' := 1157) (v := 6) C dL_law_1155 (by decide) rfl ?_
  refine y_iadd (pc' := 1158) C dL_law_1157 rfl ?_
  refine y_sld (pc' := 1159) C (vin (k := 6) rfl (by omega) C.2.2.2.2.2.2.2.2.2.2.2) dL_law_1158 rfl ?_
  refine y_callM (pc' := 1162) (res := (τ1, r)) C [.int (xs (nI i + 1).toNatClampNeg), .int (xs (nI i + 2).toNatClampNeg), .int (xs (nI i + 3).toNatClampNeg), .int (xs (nI i + 4).toNatClampNeg), .int (xs (nI i + 5).toNatClampNeg), .int (xs (nI i + 6).toNatClampNeg)] cY_X11_judged mv_X11_judged ml_142 ⟨Nat.le_of_ble_eq_true rfl, Nat.le_of_ble_eq_true rfl⟩ rfl (Nat.le_of_ble_eq_true rfl) rfl dL_law_1159 (c_X11_judged l (s.heap.size + 97) D cA τ (xs (nI i + 1).toNatClampNeg) (xs (nI i + 2).toNatClampNeg) (xs (nI i + 3).toNatClampNeg) (xs (nI i + 4).toNatClampNeg) (xs (nI i + 5).toNatClampNeg) (xs (nI i + 6).toNatClampNeg) (τ1, r) hM) rfl ?_
  refine y_icmp_eq (pc' := 1165) (tgt := 1432) C dL_law_1162 (by decide) rfl (fun _ => ?_) (fun q => absurd rfl q)
  exact back σ1 τ1 hI
set_option maxRecDepth 100000 in
theorem k_31 (C : ly_C p s m b L xs meth c D cA) (hi : i + 7 ≤ L) (h : Inv σ τ) (back : ∀ σ1 τ1, Inv σ1 τ1 → ly_W p l e s m b below meth c D cA Q σ1 τ1 1432 [(3, .int (nI i)), (2, .ref (s.heap.size + 97 + 0)), (1, .ref (s.heap.size + 0)), (0, .ref b)] []) : ly_W p l e s m b below meth c D cA Q σ τ 1167 [(3, .int (nI i)), (2, .ref (s.heap.size + 97 + 0)), (1, .ref (s.heap.size + 0)), (0, .ref b)] [] := by
  obtain ⟨σ1, τ1, r, hC, hM, hI⟩ := S_film (a := xs (nI i + 1).toNatClampNeg) (b := xs (nI i + 2).toNatClampNeg) (c := xs (nI i + 3).toNatClampNeg) (d := xs (nI i + 4).toNatClampNeg) h
  refine y_aload_n (pc' := 1168) C dL_law_1167 2 rfl rfl ?_
  refine y_aload_n (pc' := 1169) C dL_law_1168 3 rfl rfl ?_
  refine y_iload_n (pc' := 1170) C dL_law_1169 0 rfl rfl ?_
  refine y_iconst (pc' := 1171) (v := 1) C dL_law_1170 (by decide) rfl ?_
  refine y_iadd (pc' := 1172) C dL_law_1171 rfl ?_
  refine y_sld (pc' := 1173) C (vin (k := 1) rfl (by omega) C.2.2.2.2.2.2.2.2.2.2.2) dL_law_1172 rfl ?_
  refine y_aload_n (pc' := 1174) C dL_law_1173 3 rfl rfl ?_
  refine y_iload_n (pc' := 1175) C dL_law_1174 0 rfl rfl ?_
  refine y_iconst (pc' := 1176) (v := 2) C dL_law_1175 (by decide) rfl ?_
  refine y_iadd (pc' := 1177) C dL_law_1176 rfl ?_
  refine y_sld (pc' := 1178) C (vin (k := 2) rfl (by omega) C.2.2.2.2.2.2.2.2.2.2.2) dL_law_1177 rfl ?_
  refine y_aload_n (pc' := 1179) C dL_law_1178 3 rfl rfl ?_
  refine y_iload_n (pc' := 1180) C dL_law_1179 0 rfl rfl ?_
  refine y_iconst (pc' := 1181) (v := 3) C dL_law_1180 (by decide) rfl ?_
  refine y_iadd (pc' := 1182) C dL_law_1181 rfl ?_
  refine y_sld (pc' := 1183) C (vin (k := 3) rfl (by omega) C.2.2.2.2.2.2.2.2.2.2.2) dL_law_1182 rfl ?_
  refine y_aload_n (pc' := 1184) C dL_law_1183 3 rfl rfl ?_
  refine y_iload_n (pc' := 1185) C dL_law_1184 0 rfl rfl ?_
  refine y_iconst (pc' := 1186) (v := 4) C dL_law_1185 (by decide) rfl ?_
  refine y_iadd (pc' := 1187) C dL_law_1186 rfl ?_
  refine y_sld (pc' := 1188) C (vin (k := 4) rfl (by omega) C.2.2.2.2.2.2.2.2.2.2.2) dL_law_1187 rfl ?_
  refine y_callC (pc' := 1191) (res := (σ1, r)) C [.int (xs (nI i + 1).toNatClampNeg), .int (xs (nI i + 2).toNatClampNeg), .int (xs (nI i + 3).toNatClampNeg), .int (xs (nI i + 4).toNatClampNeg)] cY_X10_film mv_X10_film ml_143 ⟨Nat.le_of_ble_eq_true rfl, Nat.le_of_ble_eq_true rfl⟩ rfl (Nat.le_of_ble_eq_true rfl) rfl dL_law_1188 (c_X10_film l s.heap.size D cA σ (xs (nI i + 1).toNatClampNeg) (xs (nI i + 2).toNatClampNeg) (xs (nI i + 3).toNatClampNeg) (xs (nI i + 4).toNatClampNeg) (σ1, r) hC) rfl ?_
  refine y_aload_n (pc' := 1192) C dL_law_1191 1 rfl rfl ?_
  refine y_aload_n (pc' := 1193) C dL_law_1192 3 rfl rfl ?_
  refine y_iload_n (pc' := 1194) C dL_law_1193 0 rfl rfl ?_
  refine y_iconst (pc' := 1195) (v := 1) C dL_law_1194 (by decide) rfl ?_
  refine y_iadd (pc' := 1196) C dL_law_1195 rfl ?_
  refine y_sld (pc' := 1197) C (vin (k := 1) rfl (by omega) C.2.2.2.2.2.2.2.2.2.2.2) dL_law_1196 rfl ?_
  refine y_aload_n (pc' := 1198) C dL_law_1197 3 rfl rfl ?_
  refine y_iload_n (pc' := 1199) C dL_law_1198 0 rfl rfl ?_
  refine y_iconst (pc' := 1200) (v := 2) C dL_law_1199 (by decide) rfl ?_
  refine y_iadd (pc' := 1201) C dL_law_1200 rfl ?_
  refine y_sld (pc' := 1202) C (vin (k := 2) rfl (by omega) C.2.2.2.2.2.2.2.2.2.2.2) dL_law_1201 rfl ?_
  refine y_aload_n (pc' := 1203) C dL_law_1202 3 rfl rfl ?_
  refine y_iload_n (pc' := 1204) C dL_law_1203 0 rfl rfl ?_
  refine y_iconst (pc' := 1205) (v := 3) C dL_law_1204 (by decide) rfl ?_
  refine y_iadd (pc' := 1206) C dL_law_1205 rfl ?_
  refine y_sld (pc' := 1207) C (vin (k := 3) rfl (by omega) C.2.2.2.2.2.2.2.2.2.2.2) dL_law_1206 rfl ?_
  refine y_aload_n (pc' := 1208) C dL_law_1207 3 rfl rfl ?_
  refine y_iload_n (pc' := 1209) C dL_law_1208 0 rfl rfl ?_
  refine y_iconst (pc' := 1210) (v := 4) C dL_law_1209 (by decide) rfl ?_
  refine y_iadd (pc' := 1211) C dL_law_1210 rfl ?_
  refine y_sld (pc' := 1212) C (vin (k := 4) rfl (by omega) C.2.2.2.2.2.2.2.2.2.2.2) dL_law_1211 rfl ?_
  refine y_callM (pc' := 1215) (res := (τ1, r)) C [.int (xs (nI i + 1).toNatClampNeg), .int (xs (nI i + 2).toNatClampNeg), .int (xs (nI i + 3).toNatClampNeg), .int (xs (nI i + 4).toNatClampNeg)] cY_X11_film mv_X11_film ml_146 ⟨Nat.le_of_ble_eq_true rfl, Nat.le_of_ble_eq_true rfl⟩ rfl (Nat.le_of_ble_eq_true rfl) rfl dL_law_1212 (c_X11_film l (s.heap.size + 97) D cA τ (xs (nI i + 1).toNatClampNeg) (xs (nI i + 2).toNatClampNeg) (xs (nI i + 3).toNatClampNeg) (xs (nI i + 4).toNatClampNeg) (τ1, r) hM) rfl ?_
  refine y_icmp_eq (pc' := 1218) (tgt := 1432) C dL_law_1215 (by decide) rfl (fun _ => ?_) (fun q => absurd rfl q)
  exact back σ1 τ1 hI
set_option maxRecDepth 100000 in
theorem k_32 (C : ly_C p s m b L xs meth c D cA) (hi : i + 7 ≤ L) (h : Inv σ τ) (back : ∀ σ1 τ1, Inv σ1 τ1 → ly_W p l e s m b below meth c D cA Q σ1 τ1 1432 [(3, .int (nI i)), (2, .ref (s.heap.size + 97 + 0)), (1, .ref (s.heap.size + 0)), (0, .ref b)] []) : ly_W p l e s m b below meth c D cA Q σ τ 1220 [(3, .int (nI i)), (2, .ref (s.heap.size + 97 + 0)), (1, .ref (s.heap.size + 0)), (0, .ref b)] [] := by
  obtain ⟨σ1, τ1, r, hC, hM, hI⟩ := S_sheet (a := xs (nI i + 1).toNatClampNeg) (b := xs (nI i + 2).toNatClampNeg) (c := xs (nI i + 3).toNatClampNeg) h
  refine y_aload_n (pc' := 1221) C dL_law_1220 2 rfl rfl ?_
  refine y_aload_n (pc' := 1222) C dL_law_1221 3 rfl rfl ?_
  refine y_iload_n (pc' := 1223) C dL_law_1222 0 rfl rfl ?_
  refine y_iconst (pc' := 1224) (v := 1) C dL_law_1223 (by decide) rfl ?_
  refine y_iadd (pc' := 1225) C dL_law_1224 rfl ?_
  refine y_sld (pc' := 1226) C (vin (k := 1) rfl (by omega) C.2.2.2.2.2.2.2.2.2.2.2) dL_law_1225 rfl ?_
  refine y_aload_n (pc' := 1227) C dL_law_1226 3 rfl rfl ?_
  refine y_iload_n (pc' := 1228) C dL_law_1227 0 rfl rfl ?_
  refine y_iconst (pc' := 1229) (v := 2) C dL_law_1228 (by decide) rfl ?_
  refine y_iadd (pc' := 1230) C dL_law_1229 rfl ?_
  refine y_sld (pc' := 1231) C (vin (k := 2) rfl (by omega) C.2.2.2.2.2.2.2.2.2.2.2) dL_law_1230 rfl ?_
  refine y_aload_n (pc' := 1232) C dL_law_1231 3 rfl rfl ?_
  refine y_iload_n (pc' := 1233) C dL_law_1232 0 rfl rfl ?_
  refine y_iconst (pc' := 1234) (v := 3) C dL_law_1233 (by decide) rfl ?_
  refine y_iadd (pc' := 1235) C dL_law_1234 rfl ?_
  refine y_sld (pc' := 1236) C (vin (k := 3) rfl (by omega) C.2.2.2.2.2.2.2.2.2.2.2) dL_law_1235 rfl ?_
  refine y_callC (pc' := 1239) (res := (σ1, r)) C [.int (xs (nI i + 1).toNatClampNeg), .int (xs (nI i + 2).toNatClampNeg), .int (xs (nI i + 3).toNatClampNeg)] cY_X10_sheet mv_X10_sheet ml_147 ⟨Nat.le_of_ble_eq_true rfl, Nat.le_of_ble_eq_true rfl⟩ rfl (Nat.le_of_ble_eq_true rfl) rfl dL_law_1236 (c_X10_sheet l s.heap.size D cA σ (xs (nI i + 1).toNatClampNeg) (xs (nI i + 2).toNatClampNeg) (xs (nI i + 3).toNatClampNeg) (σ1, r) hC) rfl ?_
  refine y_aload_n (pc' := 1240) C dL_law_1239 1 rfl rfl ?_
  refine y_aload_n (pc' := 1241) C dL_law_1240 3 rfl rfl ?_
  refine y_iload_n (pc' := 1242) C dL_law_1241 0 rfl rfl ?_
  refine y_iconst (pc' := 1243) (v := 1) C dL_law_1242 (by decide) rfl ?_
  refine y_iadd (pc' := 1244) C dL_law_1243 rfl ?_
  refine y_sld (pc' := 1245) C (vin (k := 1) rfl (by omega) C.2.2.2.2.2.2.2.2.2.2.2) dL_law_1244 rfl ?_
  refine y_aload_n (pc' := 1246) C dL_law_1245 3 rfl rfl ?_
  refine y_iload_n (pc' := 1247) C dL_law_1246 0 rfl rfl ?_
  refine y_iconst (pc' := 1248) (v := 2) C dL_law_1247 (by decide) rfl ?_
  refine y_iadd (pc' := 1249) C dL_law_1248 rfl ?_
  refine y_sld (pc' := 1250) C (vin (k := 2) rfl (by omega) C.2.2.2.2.2.2.2.2.2.2.2) dL_law_1249 rfl ?_
  refine y_aload_n (pc' := 1251) C dL_law_1250 3 rfl rfl ?_
  refine y_iload_n (pc' := 1252) C dL_law_1251 0 rfl rfl ?_
  refine y_iconst (pc' := 1253) (v := 3) C dL_law_1252 (by decide) rfl ?_
  refine y_iadd (pc' := 1254) C dL_law_1253 rfl ?_
  refine y_sld (pc' := 1255) C (vin (k := 3) rfl (by omega) C.2.2.2.2.2.2.2.2.2.2.2) dL_law_1254 rfl ?_
  refine y_callM (pc' := 1258) (res := (τ1, r)) C [.int (xs (nI i + 1).toNatClampNeg), .int (xs (nI i + 2).toNatClampNeg), .int (xs (nI i + 3).toNatClampNeg)] cY_X11_sheet mv_X11_sheet ml_150 ⟨Nat.le_of_ble_eq_true rfl, Nat.le_of_ble_eq_true rfl⟩ rfl (Nat.le_of_ble_eq_true rfl) rfl dL_law_1255 (c_X11_sheet l (s.heap.size + 97) D cA τ (xs (nI i + 1).toNatClampNeg) (xs (nI i + 2).toNatClampNeg) (xs (nI i + 3).toNatClampNeg) (τ1, r) hM) rfl ?_
  refine y_icmp_eq (pc' := 1261) (tgt := 1432) C dL_law_1258 (by decide) rfl (fun _ => ?_) (fun q => absurd rfl q)
  exact back σ1 τ1 hI
set_option maxRecDepth 100000 in
theorem k_33 (C : ly_C p s m b L xs meth c D cA) (hi : i + 7 ≤ L) (h : Inv σ τ) (back : ∀ σ1 τ1, Inv σ1 τ1 → ly_W p l e s m b below meth c D cA Q σ1 τ1 1432 [(3, .int (nI i)), (2, .ref (s.heap.size + 97 + 0)), (1, .ref (s.heap.size + 0)), (0, .ref b)] []) : ly_W p l e s m b below meth c D cA Q σ τ 1263 [(3, .int (nI i)), (2, .ref (s.heap.size + 97 + 0)), (1, .ref (s.heap.size + 0)), (0, .ref b)] [] := by
  obtain ⟨σ1, τ1, r, hC, hM, hI⟩ := S_drop (a := xs (nI i + 1).toNatClampNeg) h
  refine y_aload_n (pc' := 1264) C dL_law_1263 2 rfl rfl ?_
  refine y_aload_n (pc' := 1265) C dL_law_1264 3 rfl rfl ?_
  refine y_iload_n (pc' := 1266) C dL_law_1265 0 rfl rfl ?_
  refine y_iconst (pc' := 1267) (v := 1) C dL_law_1266 (by decide) rfl ?_
  refine y_iadd (pc' := 1268) C dL_law_1267 rfl ?_
  refine y_sld (pc' := 1269) C (vin (k := 1) rfl (by omega) C.2.2.2.2.2.2.2.2.2.2.2) dL_law_1268 rfl ?_
  refine y_callC (pc' := 1272) (res := (σ1, r)) C [.int (xs (nI i + 1).toNatClampNeg)] cY_X10_drop mv_X10_drop ml_151 ⟨Nat.le_of_ble_eq_true rfl, Nat.le_of_ble_eq_true rfl⟩ rfl (Nat.le_of_ble_eq_true rfl) rfl dL_law_1269 (c_X10_drop l s.heap.size D cA σ (xs (nI i + 1).toNatClampNeg) (σ1, r) hC) rfl ?_
  refine y_aload_n (pc' := 1273) C dL_law_1272 1 rfl rfl ?_
  refine y_aload_n (pc' := 1274) C dL_law_1273 3 rfl rfl ?_
  refine y_iload_n (pc' := 1275) C dL_law_1274 0 rfl rfl ?_
  refine y_iconst (pc' := 1276) (v := 1) C dL_law_1275 (by decide) rfl ?_
  refine y_iadd (pc' := 1277) C dL_law_1276 rfl ?_
  refine y_sld (pc' := 1278) C (vin (k := 1) rfl (by omega) C.2.2.2.2.2.2.2.2.2.2.2) dL_law_1277 rfl ?_
  refine y_callM (pc' := 1281) (res := (τ1, r)) C [.int (xs (nI i + 1).toNatClampNeg)] cY_X11_drop mv_X11_drop ml_154 ⟨Nat.le_of_ble_eq_true rfl, Nat.le_of_ble_eq_true rfl⟩ rfl (Nat.le_of_ble_eq_true rfl) rfl dL_law_1278 (c_X11_drop l (s.heap.size + 97) D cA τ (xs (nI i + 1).toNatClampNeg) (τ1, r) hM) rfl ?_
  refine y_icmp_eq (pc' := 1284) (tgt := 1432) C dL_law_1281 (by decide) rfl (fun _ => ?_) (fun q => absurd rfl q)
  exact back σ1 τ1 hI
set_option maxRecDepth 100000 in
theorem k_34 (C : ly_C p s m b L xs meth c D cA) (hi : i + 7 ≤ L) (h : Inv σ τ) (back : ∀ σ1 τ1, Inv σ1 τ1 → ly_W p l e s m b below meth c D cA Q σ1 τ1 1432 [(3, .int (nI i)), (2, .ref (s.heap.size + 97 + 0)), (1, .ref (s.heap.size + 0)), (0, .ref b)] []) : ly_W p l e s m b below meth c D cA Q σ τ 1286 [(3, .int (nI i)), (2, .ref (s.heap.size + 97 + 0)), (1, .ref (s.heap.size + 0)), (0, .ref b)] [] := by
  obtain ⟨σ1, τ1, r, hC, hM, hI⟩ := S_item (a := xs (nI i + 1).toNatClampNeg) (b := xs (nI i + 2).toNatClampNeg) (c := xs (nI i + 3).toNatClampNeg) (v := (((xs (nI i + 4).toNatClampNeg).toInt64 <<< (Int32.toInt64 32 &&& 63)) ||| ((xs (nI i + 5).toNatClampNeg).toInt64 &&& (4294967295)))) h
  refine y_aload_n (pc' := 1287) C dL_law_1286 2 rfl rfl ?_
  refine y_aload_n (pc' := 1288) C dL_law_1287 3 rfl rfl ?_
  refine y_iload_n (pc' := 1289) C dL_law_1288 0 rfl rfl ?_
  refine y_iconst (pc' := 1290) (v := 1) C dL_law_1289 (by decide) rfl ?_
  refine y_iadd (pc' := 1291) C dL_law_1290 rfl ?_
  refine y_sld (pc' := 1292) C (vin (k := 1) rfl (by omega) C.2.2.2.2.2.2.2.2.2.2.2) dL_law_1291 rfl ?_
  refine y_aload_n (pc' := 1293) C dL_law_1292 3 rfl rfl ?_
  refine y_iload_n (pc' := 1294) C dL_law_1293 0 rfl rfl ?_
  refine y_iconst (pc' := 1295) (v := 2) C dL_law_1294 (by decide) rfl ?_
  refine y_iadd (pc' := 1296) C dL_law_1295 rfl ?_
  refine y_sld (pc' := 1297) C (vin (k := 2) rfl (by omega) C.2.2.2.2.2.2.2.2.2.2.2) dL_law_1296 rfl ?_
  refine y_aload_n (pc' := 1298) C dL_law_1297 3 rfl rfl ?_
  refine y_iload_n (pc' := 1299) C dL_law_1298 0 rfl rfl ?_
  refine y_iconst (pc' := 1300) (v := 3) C dL_law_1299 (by decide) rfl ?_
  refine y_iadd (pc' := 1301) C dL_law_1300 rfl ?_
  refine y_sld (pc' := 1302) C (vin (k := 3) rfl (by omega) C.2.2.2.2.2.2.2.2.2.2.2) dL_law_1301 rfl ?_
  refine y_aload_n (pc' := 1303) C dL_law_1302 3 rfl rfl ?_
  refine y_iload_n (pc' := 1304) C dL_law_1303 0 rfl rfl ?_
  refine y_iconst (pc' := 1305) (v := 4) C dL_law_1304 (by decide) rfl ?_
  refine y_iadd (pc' := 1306) C dL_law_1305 rfl ?_
  refine y_sld (pc' := 1307) C (vin (k := 4) rfl (by omega) C.2.2.2.2.2.2.2.2.2.2.2) dL_law_1306 rfl ?_
  refine y_i2l (pc' := 1308) C dL_law_1307 rfl ?_
  refine y_bipush (pc' := 1310) (v := 32) C dL_law_1308 (by decide) rfl ?_
  refine y_lshl (pc' := 1311) C dL_law_1310 rfl ?_
  refine y_aload_n (pc' := 1312) C dL_law_1311 3 rfl rfl ?_
  refine y_iload_n (pc' := 1313) C dL_law_1312 0 rfl rfl ?_
  refine y_iconst (pc' := 1314) (v := 5) C dL_law_1313 (by decide) rfl ?_
  refine y_iadd (pc' := 1315) C dL_law_1314 rfl ?_
  refine y_sld (pc' := 1316) C (vin (k := 5) rfl (by omega) C.2.2.2.2.2.2.2.2.2.2.2) dL_law_1315 rfl ?_
  refine y_i2l (pc' := 1317) C dL_law_1316 rfl ?_
  refine y_ldc2 (pc' := 1320) C dL_law_1317 mk_155 rfl ?_
  refine y_land (pc' := 1321) C dL_law_1320 rfl ?_
  refine y_lor (pc' := 1322) C dL_law_1321 rfl ?_
  refine y_callC (pc' := 1325) (res := (σ1, r)) C [.int (xs (nI i + 1).toNatClampNeg), .int (xs (nI i + 2).toNatClampNeg), .int (xs (nI i + 3).toNatClampNeg), .long ((((xs (nI i + 4).toNatClampNeg).toInt64 <<< (Int32.toInt64 32 &&& 63)) ||| ((xs (nI i + 5).toNatClampNeg).toInt64 &&& (4294967295))))] cY_X10_item mv_X10_item ml_157 ⟨Nat.le_of_ble_eq_true rfl, Nat.le_of_ble_eq_true rfl⟩ rfl (Nat.le_of_ble_eq_true rfl) rfl dL_law_1322 (c_X10_item l s.heap.size D cA σ (xs (nI i + 1).toNatClampNeg) (xs (nI i + 2).toNatClampNeg) (xs (nI i + 3).toNatClampNeg) ((((xs (nI i + 4).toNatClampNeg).toInt64 <<< (Int32.toInt64 32 &&& 63)) ||| ((xs (nI i + 5).toNatClampNeg).toInt64 &&& (4294967295)))) (σ1, r) hC) rfl ?_
  refine y_aload_n (pc' := 1326) C dL_law_1325 1 rfl rfl ?_
  refine y_aload_n (pc' := 1327) C dL_law_1326 3 rfl rfl ?_
  refine y_iload_n (pc' := 1328) C dL_law_1327 0 rfl rfl ?_
  refine y_iconst (pc' := 1329) (v := 1) C dL_law_1328 (by decide) rfl ?_
  refine y_iadd (pc' := 1330) C dL_law_1329 rfl ?_
  refine y_sld (pc' := 1331) C (vin (k := 1) rfl (by omega) C.2.2.2.2.2.2.2.2.2.2.2) dL_law_1330 rfl ?_
  refine y_aload_n (pc' := 1332) C dL_law_1331 3 rfl rfl ?_
  refine y_iload_n (pc' := 1333) C dL_law_1332 0 rfl rfl ?_
  refine y_iconst (pc' := 1334) (v := 2) C dL_law_1333 (by decide) rfl ?_
  refine y_iadd (pc' := 1335) C dL_law_1334 rfl ?_
  refine y_sld (pc' := 1336) C (vin (k := 2) rfl (by omega) C.2.2.2.2.2.2.2.2.2.2.2) dL_law_1335 rfl ?_
  refine y_aload_n (pc' := 1337) C dL_law_1336 3 rfl rfl ?_
  refine y_iload_n (pc' := 1338) C dL_law_1337 0 rfl rfl ?_
  refine y_iconst (pc' := 1339) (v := 3) C dL_law_1338 (by decide) rfl ?_
  refine y_iadd (pc' := 1340) C dL_law_1339 rfl ?_
  refine y_sld (pc' := 1341) C (vin (k := 3) rfl (by omega) C.2.2.2.2.2.2.2.2.2.2.2) dL_law_1340 rfl ?_
  refine y_aload_n (pc' := 1342) C dL_law_1341 3 rfl rfl ?_
  refine y_iload_n (pc' := 1343) C dL_law_1342 0 rfl rfl ?_
  refine y_iconst (pc' := 1344) (v := 4) C dL_law_1343 (by decide) rfl ?_
  refine y_iadd (pc' := 1345) C dL_law_1344 rfl ?_
  refine y_sld (pc' := 1346) C (vin (k := 4) rfl (by omega) C.2.2.2.2.2.2.2.2.2.2.2) dL_law_1345 rfl ?_
  refine y_i2l (pc' := 1347) C dL_law_1346 rfl ?_
  refine y_bipush (pc' := 1349) (v := 32) C dL_law_1347 (by decide) rfl ?_
  refine y_lshl (pc' := 1350) C dL_law_1349 rfl ?_
  refine y_aload_n (pc' := 1351) C dL_law_1350 3 rfl rfl ?_
  refine y_iload_n (pc' := 1352) C dL_law_1351 0 rfl rfl ?_
  refine y_iconst (pc' := 1353) (v := 5) C dL_law_1352 (by decide) rfl ?_
  refine y_iadd (pc' := 1354) C dL_law_1353 rfl ?_
  refine y_sld (pc' := 1355) C (vin (k := 5) rfl (by omega) C.2.2.2.2.2.2.2.2.2.2.2) dL_law_1354 rfl ?_
  refine y_i2l (pc' := 1356) C dL_law_1355 rfl ?_
  refine y_ldc2 (pc' := 1359) C dL_law_1356 mk_155 rfl ?_
  refine y_land (pc' := 1360) C dL_law_1359 rfl ?_
  refine y_lor (pc' := 1361) C dL_law_1360 rfl ?_
  refine y_callM (pc' := 1364) (res := (τ1, r)) C [.int (xs (nI i + 1).toNatClampNeg), .int (xs (nI i + 2).toNatClampNeg), .int (xs (nI i + 3).toNatClampNeg), .long ((((xs (nI i + 4).toNatClampNeg).toInt64 <<< (Int32.toInt64 32 &&& 63)) ||| ((xs (nI i + 5).toNatClampNeg).toInt64 &&& (4294967295))))] cY_X11_item mv_X11_item ml_161 ⟨Nat.le_of_ble_eq_true rfl, Nat.le_of_ble_eq_true rfl⟩ rfl (Nat.le_of_ble_eq_true rfl) rfl dL_law_1361 (c_X11_item l (s.heap.size + 97) D cA τ (xs (nI i + 1).toNatClampNeg) (xs (nI i + 2).toNatClampNeg) (xs (nI i + 3).toNatClampNeg) ((((xs (nI i + 4).toNatClampNeg).toInt64 <<< (Int32.toInt64 32 &&& 63)) ||| ((xs (nI i + 5).toNatClampNeg).toInt64 &&& (4294967295)))) (τ1, r) hM) rfl ?_
  refine y_icmp_eq (pc' := 1367) (tgt := 1432) C dL_law_1364 (by decide) rfl (fun _ => ?_) (fun q => absurd rfl q)
  exact back σ1 τ1 hI
set_option maxRecDepth 100000 in
theorem k_35 (C : ly_C p s m b L xs meth c D cA) (hi : i + 7 ≤ L) (h : Inv σ τ) (back : ∀ σ1 τ1, Inv σ1 τ1 → ly_W p l e s m b below meth c D cA Q σ1 τ1 1432 [(3, .int (nI i)), (2, .ref (s.heap.size + 97 + 0)), (1, .ref (s.heap.size + 0)), (0, .ref b)] []) : ly_W p l e s m b below meth c D cA Q σ τ 1369 [(3, .int (nI i)), (2, .ref (s.heap.size + 97 + 0)), (1, .ref (s.heap.size + 0)), (0, .ref b)] [] := by
  obtain ⟨σ1, τ1, r, hC, hM, hI⟩ := S_copy (a := xs (nI i + 1).toNatClampNeg) (b := xs (nI i + 2).toNatClampNeg) (c := xs (nI i + 3).toNatClampNeg) (d := xs (nI i + 4).toNatClampNeg) (e := xs (nI i + 5).toNatClampNeg) h
  refine y_aload_n (pc' := 1370) C dL_law_1369 2 rfl rfl ?_
  refine y_aload_n (pc' := 1371) C dL_law_1370 3 rfl rfl ?_
  refine y_iload_n (pc' := 1372) C dL_law_1371 0 rfl rfl ?_
  refine y_iconst (pc' := 1373) (v := 1) C dL_law_1372 (by decide) rfl ?_
  refine y_iadd (pc' := 1374) C dL_law_1373 rfl ?_
  refine y_sld (pc' := 1375) C (vin (k := 1) rfl (by omega) C.2.2.2.2.2.2.2.2.2.2.2) dL_law_1374 rfl ?_
  refine y_aload_n (pc' := 1376) C dL_law_1375 3 rfl rfl ?_
  refine y_iload_n (pc' := 1377) C dL_law_1376 0 rfl rfl ?_
  refine y_iconst (pc' := 1378) (v := 2) C dL_law_1377 (by decide) rfl ?_
  refine y_iadd (pc' := 1379) C dL_law_1378 rfl ?_
  refine y_sld (pc' := 1380) C (vin (k := 2) rfl (by omega) C.2.2.2.2.2.2.2.2.2.2.2) dL_law_1379 rfl ?_
  refine y_aload_n (pc' := 1381) C dL_law_1380 3 rfl rfl ?_
  refine y_iload_n (pc' := 1382) C dL_law_1381 0 rfl rfl ?_
  refine y_iconst (pc' := 1383) (v := 3) C dL_law_1382 (by decide) rfl ?_
  refine y_iadd (pc' := 1384) C dL_law_1383 rfl ?_
  refine y_sld (pc' := 1385) C (vin (k := 3) rfl (by omega) C.2.2.2.2.2.2.2.2.2.2.2) dL_law_1384 rfl ?_
  refine y_aload_n (pc' := 1386) C dL_law_1385 3 rfl rfl ?_
  refine y_iload_n (pc' := 1387) C dL_law_1386 0 rfl rfl ?_
  refine y_iconst (pc' := 1388) (v := 4) C dL_law_1387 (by decide) rfl ?_
  refine y_iadd (pc' := 1389) C dL_law_1388 rfl ?_
  refine y_sld (pc' := 1390) C (vin (k := 4) rfl (by omega) C.2.2.2.2.2.2.2.2.2.2.2) dL_law_1389 rfl ?_
  refine y_aload_n (pc' := 1391) C dL_law_1390 3 rfl rfl ?_
  refine y_iload_n (pc' := 1392) C dL_law_1391 0 rfl rfl ?_
  refine y_iconst (pc' := 1393) (v := 5) C dL_law_1392 (by decide) rfl ?_
  refine y_iadd (pc' := 1394) C dL_law_1393 rfl ?_
  refine y_sld (pc' := 1395) C (vin (k := 5) rfl (by omega) C.2.2.2.2.2.2.2.2.2.2.2) dL_law_1394 rfl ?_
  refine y_callC (pc' := 1398) (res := (σ1, r)) C [.int (xs (nI i + 1).toNatClampNeg), .int (xs (nI i + 2).toNatClampNeg), .int (xs (nI i + 3).toNatClampNeg), .int (xs (nI i + 4).toNatClampNeg), .int (xs (nI i + 5).toNatClampNeg)] cY_X10_copy mv_X10_copy ml_162 ⟨Nat.le_of_ble_eq_true rfl, Nat.le_of_ble_eq_true rfl⟩ rfl (Nat.le_of_ble_eq_true rfl) rfl dL_law_1395 (c_X10_copy l s.heap.size D cA σ (xs (nI i + 1).toNatClampNeg) (xs (nI i + 2).toNatClampNeg) (xs (nI i + 3).toNatClampNeg) (xs (nI i + 4).toNatClampNeg) (xs (nI i + 5).toNatClampNeg) (σ1, r) hC) rfl ?_
  refine y_aload_n (pc' := 1399) C dL_law_1398 1 rfl rfl ?_
  refine y_aload_n (pc' := 1400) C dL_law_1399 3 rfl rfl ?_
  refine y_iload_n (pc' := 1401) C dL_law_1400 0 rfl rfl ?_
  refine y_iconst (pc' := 1402) (v := 1) C dL_law_1401 (by decide) rfl ?_
  refine y_iadd (pc' := 1403) C dL_law_1402 rfl ?_
  refine y_sld (pc' := 1404) C (vin (k := 1) rfl (by omega) C.2.2.2.2.2.2.2.2.2.2.2) dL_law_1403 rfl ?_
  refine y_aload_n (pc' := 1405) C dL_law_1404 3 rfl rfl ?_
  refine y_iload_n (pc' := 1406) C dL_law_1405 0 rfl rfl ?_
  refine y_iconst (pc' := 1407) (v := 2) C dL_law_1406 (by decide) rfl ?_
  refine y_iadd (pc' := 1408) C dL_law_1407 rfl ?_
  refine y_sld (pc' := 1409) C (vin (k := 2) rfl (by omega) C.2.2.2.2.2.2.2.2.2.2.2) dL_law_1408 rfl ?_
  refine y_aload_n (pc' := 1410) C dL_law_1409 3 rfl rfl ?_
  refine y_iload_n (pc' := 1411) C dL_law_1410 0 rfl rfl ?_
  refine y_iconst (pc' := 1412) (v := 3) C dL_law_1411 (by decide) rfl ?_
  refine y_iadd (pc' := 1413) C dL_law_1412 rfl ?_
  refine y_sld (pc' := 1414) C (vin (k := 3) rfl (by omega) C.2.2.2.2.2.2.2.2.2.2.2) dL_law_1413 rfl ?_
  refine y_aload_n (pc' := 1415) C dL_law_1414 3 rfl rfl ?_
  refine y_iload_n (pc' := 1416) C dL_law_1415 0 rfl rfl ?_
  refine y_iconst (pc' := 1417) (v := 4) C dL_law_1416 (by decide) rfl ?_
  refine y_iadd (pc' := 1418) C dL_law_1417 rfl ?_
  refine y_sld (pc' := 1419) C (vin (k := 4) rfl (by omega) C.2.2.2.2.2.2.2.2.2.2.2) dL_law_1418 rfl ?_
  refine y_aload_n (pc' := 1420) C dL_law_1419 3 rfl rfl ?_
  refine y_iload_n (pc' := 1421) C dL_law_1420 0 rfl rfl ?_
  refine y_iconst (pc' := 1422) (v := 5) C dL_law_1421 (by decide) rfl ?_
  refine y_iadd (pc' := 1423) C dL_law_1422 rfl ?_
  refine y_sld (pc' := 1424) C (vin (k := 5) rfl (by omega) C.2.2.2.2.2.2.2.2.2.2.2) dL_law_1423 rfl ?_
  refine y_callM (pc' := 1427) (res := (τ1, r)) C [.int (xs (nI i + 1).toNatClampNeg), .int (xs (nI i + 2).toNatClampNeg), .int (xs (nI i + 3).toNatClampNeg), .int (xs (nI i + 4).toNatClampNeg), .int (xs (nI i + 5).toNatClampNeg)] cY_X11_copy mv_X11_copy ml_166 ⟨Nat.le_of_ble_eq_true rfl, Nat.le_of_ble_eq_true rfl⟩ rfl (Nat.le_of_ble_eq_true rfl) rfl dL_law_1424 (c_X11_copy l (s.heap.size + 97) D cA τ (xs (nI i + 1).toNatClampNeg) (xs (nI i + 2).toNatClampNeg) (xs (nI i + 3).toNatClampNeg) (xs (nI i + 4).toNatClampNeg) (xs (nI i + 5).toNatClampNeg) (τ1, r) hM) rfl ?_
  refine y_icmp_eq (pc' := 1430) (tgt := 1432) C dL_law_1427 (by decide) rfl (fun _ => ?_) (fun q => absurd rfl q)
  exact back σ1 τ1 hI
end

/-! the law's commands -/
theorem lc_head {p : Program} {l : Launch} {e : Env} {s : State} {mi : MethodId} {args : Array Value} {below : List Frame} {meth : Method} {c : Code} {Z : wZ} {A0 : Nat → Prop} {cells slots : Nat} {Q : State → Prop} (X : JX p s mi args meth c cL_law 7 RL Z A0) {b L : Nat} {xs : Nat → Int32} (hX : LSc s A0 b L xs) {i : Nat} {S : St} {h : Hl} (hi : i ≤ L) (kt : i + 4 ≤ L → J p l e room_1 s mi args below meth c 7 Z A0 cells slots Q S h [(0, .ref (b)), (1, .ref (zA Z (6) (0) (0))), (2, .ref (zA Z (7) (0) (0))), (3, .ref (zA Z 8 0 0)), (4, .int (nI (i)))] 32 []) (kf : ¬ i + 4 ≤ L → J p l e room_1 s mi args below meth c 7 Z A0 cells slots Q S h [(0, .ref (b)), (1, .ref (zA Z (6) (0) (0))), (2, .ref (zA Z (7) (0) (0))), (3, .ref (zA Z 8 0 0)), (4, .int (nI (i)))] 1584 []) : J p l e room_1 s mi args below meth c 7 Z A0 cells slots Q S h [(0, .ref (b)), (1, .ref (zA Z (6) (0) (0))), (2, .ref (zA Z (7) (0) (0))), (3, .ref (zA Z 8 0 0)), (4, .int (nI (i)))] 23 [] := by
  refine j_iload X dL_law_23 rfl (q := 4) rfl ?_
  refine j_aload_n X dL_law_25 rfl rfl (q := 0) rfl ?_
  refine j_slen X hX dL_law_26 rfl ?_
  refine j_iconst X dL_law_27 rfl (v := 4) (by decide) ?_
  refine j_isub X dL_law_28 rfl ?_
  by_cases hh : i + 4 ≤ L
  · exact j_icmp_gt_f X dL_law_29 rfl (tgt := 1584) (by decide) (fun q => (head_lt hi hX.2.2.2).mp q hh) (kt hh)
  · exact j_icmp_gt_t X (tgt := 1584) dL_law_29 (by decide) ((head_lt hi hX.2.2.2).mpr hh) (kf hh)
theorem lc_sel {p : Program} {l : Launch} {e : Env} {s : State} {mi : MethodId} {args : Array Value} {below : List Frame} {meth : Method} {c : Code} {Z : wZ} {A0 : Nat → Prop} {cells slots : Nat} {Q : State → Prop} (X : JX p s mi args meth c cL_law 7 RL Z A0) {b L : Nat} {xs : Nat → Int32} (hX : LSc s A0 b L xs) {i : Nat} {S : St} {h : Hl} (hi : i + 4 ≤ L) (k : J p l e room_1 s mi args below meth c 7 Z A0 cells slots Q S h [(0, .ref (b)), (1, .ref (zA Z (6) (0) (0))), (2, .ref (zA Z (7) (0) (0))), (3, .ref (zA Z 8 0 0)), (4, .int (nI (i)))] 39 [.int (xs i &&& 31)]) : J p l e room_1 s mi args below meth c 7 Z A0 cells slots Q S h [(0, .ref (b)), (1, .ref (zA Z (6) (0) (0))), (2, .ref (zA Z (7) (0) (0))), (3, .ref (zA Z 8 0 0)), (4, .int (nI (i)))] 32 [] := by
  refine j_aload_n X dL_law_32 rfl rfl (q := 0) rfl ?_
  refine j_iload X dL_law_33 rfl (q := 4) rfl ?_
  refine j_sld X hX (k := i) (by omega) dL_law_35 rfl ?_
  refine j_bipush X dL_law_36 rfl (v := 31) (by decide) ?_
  refine j_iand X dL_law_38 rfl ?_
  exact k
set_option maxRecDepth 100000 in
set_option maxHeartbeats 4000000 in
theorem lc_begin {p : Program} {l : Launch} {e : Env} {s : State} {mi : MethodId} {args : Array Value} {below : List Frame} {meth : Method} {c : Code} {Z : wZ} {A0 : Nat → Prop} {cells slots : Nat} {Q : State → Prop} (X : JX p s mi args meth c cL_law 7 RL Z A0) {b L : Nat} {xs : Nat → Int32} (hX : LSc s A0 b L xs) {i : Nat} (hO : zO Z = true) (hSt : hStr s) (hZ : hZq A0 s s.heap) {S S1 S2 : St} {h h1 : Hl} {r v : Int32} {fr lo fr6 lo6 : Nat} (hi : i + 4 ≤ L) (hW : Cw l yL_begin cL_begin 6 [(0, 12, 15, 13)] fr lo Z [.ref (zA Z (6) (0) (0)), .int (xs (i + 1)), .int (xs (i + 2)), .int (xs (i + 3)), .ref (zA Z 8 0 0)] S h r S1 h1) (hC : Ci l yX6_begin cX6_begin 5 .int fr6 lo6 Z [.ref (zA Z (7) (0) (0)), .int (xs (i + 1)), .int (xs (i + 2)), .int (xs (i + 3))] S1 h1 v S2 h1) (hf : fr + 1 ≤ 13 ∧ 8 + (6 + 11) + lo ≤ 504) (hf6 : fr6 + 1 ≤ 13 ∧ 8 + (5 + 11) + lo6 ≤ 504) (ht : S2 7 0 0 9 = r) (hv : r = 0 → h1 1 = v.toInt64) (hcs : cells + 1 ≤ 601024 ∧ slots + 6 ≤ 7293034) (k : J p l e room_1 s mi args below meth c 7 Z A0 (cells + 1) (slots + 6) Q S2 h1 [(0, .ref (b)), (1, .ref (zA Z (6) (0) (0))), (2, .ref (zA Z (7) (0) (0))), (3, .ref (zA Z 8 0 0)), (4, .int (nI (i)))] 1578 []) : J p l e room_1 s mi args below meth c 7 Z A0 cells slots Q S h [(0, .ref (b)), (1, .ref (zA Z (6) (0) (0))), (2, .ref (zA Z (7) (0) (0))), (3, .ref (zA Z 8 0 0)), (4, .int (nI (i)))] 156 [] := by
  refine j_aload_n X dL_law_156 rfl rfl (q := 1) rfl ?_
  refine j_aload_n X dL_law_157 rfl rfl (q := 0) rfl ?_
  refine j_iload X dL_law_158 rfl (q := 4) rfl ?_
  refine j_iconst X dL_law_160 rfl (v := 1) (by decide) ?_
  refine j_iadd X dL_law_161 rfl ?_
  refine j_topeq (y := nI (i + 1)) (nI_add i 1) ?_
  refine j_sld X hX (k := i + 1) (by omega) dL_law_162 rfl ?_
  refine j_aload_n X dL_law_163 rfl rfl (q := 0) rfl ?_
  refine j_iload X dL_law_164 rfl (q := 4) rfl ?_
  refine j_iconst X dL_law_166 rfl (v := 2) (by decide) ?_
  refine j_iadd X dL_law_167 rfl ?_
  refine j_topeq (y := nI (i + 2)) (nI_add i 2) ?_
  refine j_sld X hX (k := i + 2) (by omega) dL_law_168 rfl ?_
  refine j_aload_n X dL_law_169 rfl rfl (q := 0) rfl ?_
  refine j_iload X dL_law_170 rfl (q := 4) rfl ?_
  refine j_iconst X dL_law_172 rfl (v := 3) (by decide) ?_
  refine j_iadd X dL_law_173 rfl ?_
  refine j_topeq (y := nI (i + 3)) (nI_add i 3) ?_
  refine j_sld X hX (k := i + 3) (by omega) dL_law_174 rfl ?_
  refine j_aload_n X dL_law_175 rfl rfl (q := 3) rfl ?_
  refine j_callW X hSt hZ hW (List.mem_of_getElem? (i := 110) (by decide +kernel)) (List.mem_of_getElem? (i := 111) (by decide +kernel)) ini_RL (List.mem_of_getElem? (i := 113) (by decide +kernel)) (na := 5) ⟨rfl, by decide +kernel, by decide +kernel, by decide +kernel⟩ hf hcs rfl (Nat.le_of_ble_eq_true rfl) (as := [.ref (zA Z (6) (0) (0)), .int (xs (i + 1)), .int (xs (i + 2)), .int (xs (i + 3)), .ref (zA Z 8 0 0)]) (rest := []) rfl dL_law_176 rfl ?_
  refine j_istore X dL_law_179 rfl (by decide) (Ls2 := [(5, .int (r)), (0, .ref (b)), (1, .ref (zA Z (6) (0) (0))), (2, .ref (zA Z (7) (0) (0))), (3, .ref (zA Z 8 0 0)), (4, .int (nI (i)))]) rfl ?_
  refine j_aload_n X dL_law_181 rfl rfl (q := 3) rfl ?_
  refine j_aload_n X dL_law_182 rfl rfl (q := 1) rfl ?_
  refine j_iload X dL_law_183 rfl (q := 5) rfl ?_
  refine j_iconst X dL_law_185 rfl (v := 1) (by decide) ?_
  refine j_iadd X dL_law_186 rfl ?_
  refine j_topeq (y := nI (i + 1)) (nI_add i 1) ?_
  refine j_sld X hX (k := i + 1) (by omega) dL_law_187 rfl ?_
  refine j_aload_n X dL_law_188 rfl rfl (q := 1) rfl ?_
  refine j_iload X dL_law_189 rfl (q := 5) rfl ?_
  refine j_iconst X dL_law_191 rfl (v := 2) (by decide) ?_
  refine j_iadd X dL_law_192 rfl ?_
  refine j_topeq (y := nI (i + 2)) (nI_add i 2) ?_
  refine j_sld X hX (k := i + 2) (by omega) dL_law_193 rfl ?_
  refine j_aload_n X dL_law_194 rfl rfl (q := 1) rfl ?_
  refine j_iload X dL_law_195 rfl (q := 5) rfl ?_
  refine j_iconst X dL_law_197 rfl (v := 3) (by decide) ?_
  refine j_iadd X dL_law_198 rfl ?_
  refine j_topeq (y := nI (i + 3)) (nI_add i 3) ?_
  refine j_sld X hX (k := i + 3) (by omega) dL_law_199 rfl ?_
  refine j_calli X hC (wm_ref (by decide)) ((fun _ => rfl) _) rfl lk_RL_93 mi_X6_begin ms_X6_begin ini_RX6 mc_X6_begin md_X6_begin hf6 hcs rfl (Nat.le_of_ble_eq_true rfl) (as := [.int (xs (i + 1)), .int (xs (i + 2)), .int (xs (i + 3))]) (rest := []) rfl dL_law_200 rfl ?_
  refine j_istore X dL_law_203 rfl (by decide) (Ls2 := [(6, .int (v)), (5, .int (r)), (0, .ref (b)), (1, .ref (zA Z (6) (0) (0))), (2, .ref (zA Z (7) (0) (0))), (3, .ref (zA Z 8 0 0)), (4, .int (nI (i)))]) rfl ?_
  refine j_aload_n X dL_law_205 rfl rfl (q := 4) rfl ?_
  refine j_calli X (c_X6_thrown l Z S2 h1) (wm_ref (by decide)) ((fun _ => rfl) _) rfl lk_RL_94 mi_X6_thrown ms_X6_thrown ini_RX6 mc_X6_thrown md_X6_thrown ⟨Nat.le_of_ble_eq_true rfl, Nat.le_of_ble_eq_true rfl⟩ hcs rfl (Nat.le_of_ble_eq_true rfl) (as := []) (rest := []) rfl dL_law_206 rfl ?_
  refine j_topeq (y := r) ht ?_
  refine j_iload X dL_law_209 rfl (q := 1) rfl ?_
  refine j_icmp_eq_t X (tgt := 216) dL_law_211 (by decide) rfl ?_
  refine j_iload X dL_law_216 rfl (q := 1) rfl ?_
  refine j_if_ne X dL_law_218 rfl (tgt := 233) (by decide) (fun q0 => ?_) (fun q0 => ?_)
  · refine j_goto X (tgt := 1578) dL_law_233 (by decide) ?_
    refine j_sub [2, 3, 4, 5, 6] (Ls2 := [(0, .ref (b)), (1, .ref (zA Z (6) (0) (0))), (2, .ref (zA Z (7) (0) (0))), (3, .ref (zA Z 8 0 0)), (4, .int (nI (i)))]) rfl ?_
    exact k
  · refine j_aload_n X dL_law_221 rfl rfl (q := 5) rfl ?_
    refine j_iconst X dL_law_222 rfl (v := 0) (by decide) ?_
    refine j_lald X hO dL_law_223 rfl ?_
    refine j_iload X dL_law_224 rfl (q := 0) rfl ?_
    refine j_i2l X dL_law_226 rfl ?_
    refine j_lcmp X dL_law_227 rfl ?_
    refine j_if_eq_t X (tgt := 233) dL_law_228 (by decide) (by rw [hv q0]; exact lg_cmp_self _) ?_
    refine j_goto X (tgt := 1578) dL_law_233 (by decide) ?_
    refine j_sub [2, 3, 4, 5, 6] (Ls2 := [(0, .ref (b)), (1, .ref (zA Z (6) (0) (0))), (2, .ref (zA Z (7) (0) (0))), (3, .ref (zA Z 8 0 0)), (4, .int (nI (i)))]) rfl ?_
    exact k
set_option maxRecDepth 100000 in
set_option maxHeartbeats 4000000 in
theorem lc_setPolicy {p : Program} {l : Launch} {e : Env} {s : State} {mi : MethodId} {args : Array Value} {below : List Frame} {meth : Method} {c : Code} {Z : wZ} {A0 : Nat → Prop} {cells slots : Nat} {Q : State → Prop} (X : JX p s mi args meth c cL_law 7 RL Z A0) {b L : Nat} {xs : Nat → Int32} (hX : LSc s A0 b L xs) {i : Nat} (hO : zO Z = true) (hSt : hStr s) (hZ : hZq A0 s s.heap) {S S1 S2 : St} {h h1 : Hl} {r v : Int32} {fr lo fr6 lo6 : Nat} (hi : i + 4 ≤ L) (hW : Cw l yL_setPolicy cL_setPolicy 4 [(0, 9, 12, 13)] fr lo Z [.ref (zA Z (6) (0) (0)), .int (xs (i + 1)), .ref (zA Z 8 0 0)] S h r S1 h1) (hC : Ci l yX6_setPolicy cX6_setPolicy 3 .int fr6 lo6 Z [.ref (zA Z (7) (0) (0)), .int (xs (i + 1))] S1 h1 v S2 h1) (hf : fr + 1 ≤ 13 ∧ 8 + (4 + 11) + lo ≤ 504) (hf6 : fr6 + 1 ≤ 13 ∧ 8 + (3 + 11) + lo6 ≤ 504) (ht : S2 7 0 0 9 = r) (hv : r = 0 → h1 1 = v.toInt64) (hcs : cells + 1 ≤ 601024 ∧ slots + 6 ≤ 7293034) (k : J p l e room_1 s mi args below meth c 7 Z A0 (cells + 1) (slots + 6) Q S2 h1 [(0, .ref (b)), (1, .ref (zA Z (6) (0) (0))), (2, .ref (zA Z (7) (0) (0))), (3, .ref (zA Z 8 0 0)), (4, .int (nI (i)))] 1578 []) : J p l e room_1 s mi args below meth c 7 Z A0 cells slots Q S h [(0, .ref (b)), (1, .ref (zA Z (6) (0) (0))), (2, .ref (zA Z (7) (0) (0))), (3, .ref (zA Z 8 0 0)), (4, .int (nI (i)))] 236 [] := by
  refine j_aload_n X dL_law_236 rfl rfl (q := 1) rfl ?_
  refine j_aload_n X dL_law_237 rfl rfl (q := 0) rfl ?_
  refine j_iload X dL_law_238 rfl (q := 4) rfl ?_
  refine j_iconst X dL_law_240 rfl (v := 1) (by decide) ?_
  refine j_iadd X dL_law_241 rfl ?_
  refine j_topeq (y := nI (i + 1)) (nI_add i 1) ?_
  refine j_sld X hX (k := i + 1) (by omega) dL_law_242 rfl ?_
  refine j_aload_n X dL_law_243 rfl rfl (q := 3) rfl ?_
  refine j_callW X hSt hZ hW (List.mem_of_getElem? (i := 190) (by decide +kernel)) (List.mem_of_getElem? (i := 191) (by decide +kernel)) ini_RL (List.mem_of_getElem? (i := 192) (by decide +kernel)) (na := 3) ⟨rfl, by decide +kernel, by decide +kernel, by decide +kernel⟩ hf hcs rfl (Nat.le_of_ble_eq_true rfl) (as := [.ref (zA Z (6) (0) (0)), .int (xs (i + 1)), .ref (zA Z 8 0 0)]) (rest := []) rfl dL_law_244 rfl ?_
  refine j_istore X dL_law_247 rfl (by decide) (Ls2 := [(5, .int (r)), (0, .ref (b)), (1, .ref (zA Z (6) (0) (0))), (2, .ref (zA Z (7) (0) (0))), (3, .ref (zA Z 8 0 0)), (4, .int (nI (i)))]) rfl ?_
  refine j_aload_n X dL_law_249 rfl rfl (q := 3) rfl ?_
  refine j_aload_n X dL_law_250 rfl rfl (q := 1) rfl ?_
  refine j_iload X dL_law_251 rfl (q := 5) rfl ?_
  refine j_iconst X dL_law_253 rfl (v := 1) (by decide) ?_
  refine j_iadd X dL_law_254 rfl ?_
  refine j_topeq (y := nI (i + 1)) (nI_add i 1) ?_
  refine j_sld X hX (k := i + 1) (by omega) dL_law_255 rfl ?_
  refine j_calli X hC (wm_ref (by decide)) ((fun _ => rfl) _) rfl lk_RL_100 mi_X6_setPolicy ms_X6_setPolicy ini_RX6 mc_X6_setPolicy md_X6_setPolicy hf6 hcs rfl (Nat.le_of_ble_eq_true rfl) (as := [.int (xs (i + 1))]) (rest := []) rfl dL_law_256 rfl ?_
  refine j_istore X dL_law_259 rfl (by decide) (Ls2 := [(6, .int (v)), (5, .int (r)), (0, .ref (b)), (1, .ref (zA Z (6) (0) (0))), (2, .ref (zA Z (7) (0) (0))), (3, .ref (zA Z 8 0 0)), (4, .int (nI (i)))]) rfl ?_
  refine j_aload_n X dL_law_261 rfl rfl (q := 4) rfl ?_
  refine j_calli X (c_X6_thrown l Z S2 h1) (wm_ref (by decide)) ((fun _ => rfl) _) rfl lk_RL_94 mi_X6_thrown ms_X6_thrown ini_RX6 mc_X6_thrown md_X6_thrown ⟨Nat.le_of_ble_eq_true rfl, Nat.le_of_ble_eq_true rfl⟩ hcs rfl (Nat.le_of_ble_eq_true rfl) (as := []) (rest := []) rfl dL_law_262 rfl ?_
  refine j_topeq (y := r) ht ?_
  refine j_iload X dL_law_265 rfl (q := 1) rfl ?_
  refine j_icmp_eq_t X (tgt := 272) dL_law_267 (by decide) rfl ?_
  refine j_iload X dL_law_272 rfl (q := 1) rfl ?_
  refine j_if_ne X dL_law_274 rfl (tgt := 289) (by decide) (fun q0 => ?_) (fun q0 => ?_)
  · refine j_goto X (tgt := 1578) dL_law_289 (by decide) ?_
    refine j_sub [2, 3, 4, 5, 6] (Ls2 := [(0, .ref (b)), (1, .ref (zA Z (6) (0) (0))), (2, .ref (zA Z (7) (0) (0))), (3, .ref (zA Z 8 0 0)), (4, .int (nI (i)))]) rfl ?_
    exact k
  · refine j_aload_n X dL_law_277 rfl rfl (q := 5) rfl ?_
    refine j_iconst X dL_law_278 rfl (v := 0) (by decide) ?_
    refine j_lald X hO dL_law_279 rfl ?_
    refine j_iload X dL_law_280 rfl (q := 0) rfl ?_
    refine j_i2l X dL_law_282 rfl ?_
    refine j_lcmp X dL_law_283 rfl ?_
    refine j_if_eq_t X (tgt := 289) dL_law_284 (by decide) (by rw [hv q0]; exact lg_cmp_self _) ?_
    refine j_goto X (tgt := 1578) dL_law_289 (by decide) ?_
    refine j_sub [2, 3, 4, 5, 6] (Ls2 := [(0, .ref (b)), (1, .ref (zA Z (6) (0) (0))), (2, .ref (zA Z (7) (0) (0))), (3, .ref (zA Z 8 0 0)), (4, .int (nI (i)))]) rfl ?_
    exact k
set_option maxRecDepth 100000 in
set_option maxHeartbeats 4000000 in
theorem lc_seed {p : Program} {l : Launch} {e : Env} {s : State} {mi : MethodId} {args : Array Value} {below : List Frame} {meth : Method} {c : Code} {Z : wZ} {A0 : Nat → Prop} {cells slots : Nat} {Q : State → Prop} (X : JX p s mi args meth c cL_law 7 RL Z A0) {b L : Nat} {xs : Nat → Int32} (hX : LSc s A0 b L xs) {i : Nat} (hO : zO Z = true) (hSt : hStr s) (hZ : hZq A0 s s.heap) {S S1 S2 : St} {h h1 : Hl} {r v : Int32} {fr lo fr6 lo6 : Nat} (hi : i + 4 ≤ L) (hW : Cw l yL_seed cL_seed 4 [(0, 9, 12, 13)] fr lo Z [.ref (zA Z (6) (0) (0)), .int (xs (i + 1)), .ref (zA Z 8 0 0)] S h r S1 h1) (hC : Ci l yX6_seed cX6_seed 3 .int fr6 lo6 Z [.ref (zA Z (7) (0) (0)), .int (xs (i + 1))] S1 h1 v S2 h1) (hf : fr + 1 ≤ 13 ∧ 8 + (4 + 11) + lo ≤ 504) (hf6 : fr6 + 1 ≤ 13 ∧ 8 + (3 + 11) + lo6 ≤ 504) (ht : S2 7 0 0 9 = r) (hv : r = 0 → h1 1 = v.toInt64) (hcs : cells + 1 ≤ 601024 ∧ slots + 6 ≤ 7293034) (k : J p l e room_1 s mi args below meth c 7 Z A0 (cells + 1) (slots + 6) Q S2 h1 [(0, .ref (b)), (1, .ref (zA Z (6) (0) (0))), (2, .ref (zA Z (7) (0) (0))), (3, .ref (zA Z 8 0 0)), (4, .int (nI (i)))] 1578 []) : J p l e room_1 s mi args below meth c 7 Z A0 cells slots Q S h [(0, .ref (b)), (1, .ref (zA Z (6) (0) (0))), (2, .ref (zA Z (7) (0) (0))), (3, .ref (zA Z 8 0 0)), (4, .int (nI (i)))] 292 [] := by
  refine j_aload_n X dL_law_292 rfl rfl (q := 1) rfl ?_
  refine j_aload_n X dL_law_293 rfl rfl (q := 0) rfl ?_
  refine j_iload X dL_law_294 rfl (q := 4) rfl ?_
  refine j_iconst X dL_law_296 rfl (v := 1) (by decide) ?_
  refine j_iadd X dL_law_297 rfl ?_
  refine j_topeq (y := nI (i + 1)) (nI_add i 1) ?_
  refine j_sld X hX (k := i + 1) (by omega) dL_law_298 rfl ?_
  refine j_aload_n X dL_law_299 rfl rfl (q := 3) rfl ?_
  refine j_callW X hSt hZ hW (List.mem_of_getElem? (i := 201) (by decide +kernel)) (List.mem_of_getElem? (i := 202) (by decide +kernel)) ini_RL (List.mem_of_getElem? (i := 203) (by decide +kernel)) (na := 3) ⟨rfl, by decide +kernel, by decide +kernel, by decide +kernel⟩ hf hcs rfl (Nat.le_of_ble_eq_true rfl) (as := [.ref (zA Z (6) (0) (0)), .int (xs (i + 1)), .ref (zA Z 8 0 0)]) (rest := []) rfl dL_law_300 rfl ?_
  refine j_istore X dL_law_303 rfl (by decide) (Ls2 := [(5, .int (r)), (0, .ref (b)), (1, .ref (zA Z (6) (0) (0))), (2, .ref (zA Z (7) (0) (0))), (3, .ref (zA Z 8 0 0)), (4, .int (nI (i)))]) rfl ?_
  refine j_aload_n X dL_law_305 rfl rfl (q := 3) rfl ?_
  refine j_aload_n X dL_law_306 rfl rfl (q := 1) rfl ?_
  refine j_iload X dL_law_307 rfl (q := 5) rfl ?_
  refine j_iconst X dL_law_309 rfl (v := 1) (by decide) ?_
  refine j_iadd X dL_law_310 rfl ?_
  refine j_topeq (y := nI (i + 1)) (nI_add i 1) ?_
  refine j_sld X hX (k := i + 1) (by omega) dL_law_311 rfl ?_
  refine j_calli X hC (wm_ref (by decide)) ((fun _ => rfl) _) rfl lk_RL_103 mi_X6_seed ms_X6_seed ini_RX6 mc_X6_seed md_X6_seed hf6 hcs rfl (Nat.le_of_ble_eq_true rfl) (as := [.int (xs (i + 1))]) (rest := []) rfl dL_law_312 rfl ?_
  refine j_istore X dL_law_315 rfl (by decide) (Ls2 := [(6, .int (v)), (5, .int (r)), (0, .ref (b)), (1, .ref (zA Z (6) (0) (0))), (2, .ref (zA Z (7) (0) (0))), (3, .ref (zA Z 8 0 0)), (4, .int (nI (i)))]) rfl ?_
  refine j_aload_n X dL_law_317 rfl rfl (q := 4) rfl ?_
  refine j_calli X (c_X6_thrown l Z S2 h1) (wm_ref (by decide)) ((fun _ => rfl) _) rfl lk_RL_94 mi_X6_thrown ms_X6_thrown ini_RX6 mc_X6_thrown md_X6_thrown ⟨Nat.le_of_ble_eq_true rfl, Nat.le_of_ble_eq_true rfl⟩ hcs rfl (Nat.le_of_ble_eq_true rfl) (as := []) (rest := []) rfl dL_law_318 rfl ?_
  refine j_topeq (y := r) ht ?_
  refine j_iload X dL_law_321 rfl (q := 1) rfl ?_
  refine j_icmp_eq_t X (tgt := 328) dL_law_323 (by decide) rfl ?_
  refine j_iload X dL_law_328 rfl (q := 1) rfl ?_
  refine j_if_ne X dL_law_330 rfl (tgt := 345) (by decide) (fun q0 => ?_) (fun q0 => ?_)
  · refine j_goto X (tgt := 1578) dL_law_345 (by decide) ?_
    refine j_sub [2, 3, 4, 5, 6] (Ls2 := [(0, .ref (b)), (1, .ref (zA Z (6) (0) (0))), (2, .ref (zA Z (7) (0) (0))), (3, .ref (zA Z 8 0 0)), (4, .int (nI (i)))]) rfl ?_
    exact k
  · refine j_aload_n X dL_law_333 rfl rfl (q := 5) rfl ?_
    refine j_iconst X dL_law_334 rfl (v := 0) (by decide) ?_
    refine j_lald X hO dL_law_335 rfl ?_
    refine j_iload X dL_law_336 rfl (q := 0) rfl ?_
    refine j_i2l X dL_law_338 rfl ?_
    refine j_lcmp X dL_law_339 rfl ?_
    refine j_if_eq_t X (tgt := 345) dL_law_340 (by decide) (by rw [hv q0]; exact lg_cmp_self _) ?_
    refine j_goto X (tgt := 1578) dL_law_345 (by decide) ?_
    refine j_sub [2, 3, 4, 5, 6] (Ls2 := [(0, .ref (b)), (1, .ref (zA Z (6) (0) (0))), (2, .ref (zA Z (7) (0) (0))), (3, .ref (zA Z 8 0 0)), (4, .int (nI (i)))]) rfl ?_
    exact k
set_option maxRecDepth 100000 in
set_option maxHeartbeats 4000000 in
theorem lc_append {p : Program} {l : Launch} {e : Env} {s : State} {mi : MethodId} {args : Array Value} {below : List Frame} {meth : Method} {c : Code} {Z : wZ} {A0 : Nat → Prop} {cells slots : Nat} {Q : State → Prop} (X : JX p s mi args meth c cL_law 7 RL Z A0) {b L : Nat} {xs : Nat → Int32} (hX : LSc s A0 b L xs) {i : Nat} (hO : zO Z = true) (hSt : hStr s) (hZ : hZq A0 s s.heap) {S S1 S2 : St} {h h1 : Hl} {r v : Int32} {fr lo fr6 lo6 : Nat} (hi : i + 4 ≤ L) (hW : Cw l yL_append cL_append 4 [(0, 9, 12, 13), (0, 9, 15, 25)] fr lo Z [.ref (zA Z (6) (0) (0)), .int (xs (i + 1)), .ref (zA Z 8 0 0)] S h r S1 h1) (hC : Ci l yX6_append cX6_append 2 .int fr6 lo6 Z [.ref (zA Z (7) (0) (0)), .int (xs (i + 1))] S1 h1 v S2 h1) (hf : fr + 1 ≤ 13 ∧ 8 + (4 + 11) + lo ≤ 504) (hf6 : fr6 + 1 ≤ 13 ∧ 8 + (2 + 11) + lo6 ≤ 504) (ht : S2 7 0 0 9 = r) (hv : r = 0 → h1 1 = v.toInt64) (hcs : cells + 1 ≤ 601024 ∧ slots + 6 ≤ 7293034) (k : J p l e room_1 s mi args below meth c 7 Z A0 (cells + 1) (slots + 6) Q S2 h1 [(0, .ref (b)), (1, .ref (zA Z (6) (0) (0))), (2, .ref (zA Z (7) (0) (0))), (3, .ref (zA Z 8 0 0)), (4, .int (nI (i)))] 1578 []) : J p l e room_1 s mi args below meth c 7 Z A0 cells slots Q S h [(0, .ref (b)), (1, .ref (zA Z (6) (0) (0))), (2, .ref (zA Z (7) (0) (0))), (3, .ref (zA Z 8 0 0)), (4, .int (nI (i)))] 348 [] := by
  refine j_aload_n X dL_law_348 rfl rfl (q := 1) rfl ?_
  refine j_aload_n X dL_law_349 rfl rfl (q := 0) rfl ?_
  refine j_iload X dL_law_350 rfl (q := 4) rfl ?_
  refine j_iconst X dL_law_352 rfl (v := 1) (by decide) ?_
  refine j_iadd X dL_law_353 rfl ?_
  refine j_topeq (y := nI (i + 1)) (nI_add i 1) ?_
  refine j_sld X hX (k := i + 1) (by omega) dL_law_354 rfl ?_
  refine j_aload_n X dL_law_355 rfl rfl (q := 3) rfl ?_
  refine j_callW X hSt hZ hW (List.mem_of_getElem? (i := 214) (by decide +kernel)) (List.mem_of_getElem? (i := 215) (by decide +kernel)) ini_RL (List.mem_of_getElem? (i := 216) (by decide +kernel)) (na := 3) ⟨rfl, by decide +kernel, by decide +kernel, by decide +kernel⟩ hf hcs rfl (Nat.le_of_ble_eq_true rfl) (as := [.ref (zA Z (6) (0) (0)), .int (xs (i + 1)), .ref (zA Z 8 0 0)]) (rest := []) rfl dL_law_356 rfl ?_
  refine j_istore X dL_law_359 rfl (by decide) (Ls2 := [(5, .int (r)), (0, .ref (b)), (1, .ref (zA Z (6) (0) (0))), (2, .ref (zA Z (7) (0) (0))), (3, .ref (zA Z 8 0 0)), (4, .int (nI (i)))]) rfl ?_
  refine j_aload_n X dL_law_361 rfl rfl (q := 3) rfl ?_
  refine j_aload_n X dL_law_362 rfl rfl (q := 1) rfl ?_
  refine j_iload X dL_law_363 rfl (q := 5) rfl ?_
  refine j_iconst X dL_law_365 rfl (v := 1) (by decide) ?_
  refine j_iadd X dL_law_366 rfl ?_
  refine j_topeq (y := nI (i + 1)) (nI_add i 1) ?_
  refine j_sld X hX (k := i + 1) (by omega) dL_law_367 rfl ?_
  refine j_calli X hC (wm_ref (by decide)) ((fun _ => rfl) _) rfl lk_RL_106 mi_X6_append ms_X6_append ini_RX6 mc_X6_append md_X6_append hf6 hcs rfl (Nat.le_of_ble_eq_true rfl) (as := [.int (xs (i + 1))]) (rest := []) rfl dL_law_368 rfl ?_
  refine j_istore X dL_law_371 rfl (by decide) (Ls2 := [(6, .int (v)), (5, .int (r)), (0, .ref (b)), (1, .ref (zA Z (6) (0) (0))), (2, .ref (zA Z (7) (0) (0))), (3, .ref (zA Z 8 0 0)), (4, .int (nI (i)))]) rfl ?_
  refine j_aload_n X dL_law_373 rfl rfl (q := 4) rfl ?_
  refine j_calli X (c_X6_thrown l Z S2 h1) (wm_ref (by decide)) ((fun _ => rfl) _) rfl lk_RL_94 mi_X6_thrown ms_X6_thrown ini_RX6 mc_X6_thrown md_X6_thrown ⟨Nat.le_of_ble_eq_true rfl, Nat.le_of_ble_eq_true rfl⟩ hcs rfl (Nat.le_of_ble_eq_true rfl) (as := []) (rest := []) rfl dL_law_374 rfl ?_
  refine j_topeq (y := r) ht ?_
  refine j_iload X dL_law_377 rfl (q := 1) rfl ?_
  refine j_icmp_eq_t X (tgt := 384) dL_law_379 (by decide) rfl ?_
  refine j_iload X dL_law_384 rfl (q := 1) rfl ?_
  refine j_if_ne X dL_law_386 rfl (tgt := 401) (by decide) (fun q0 => ?_) (fun q0 => ?_)
  · refine j_goto X (tgt := 1578) dL_law_401 (by decide) ?_
    refine j_sub [2, 3, 4, 5, 6] (Ls2 := [(0, .ref (b)), (1, .ref (zA Z (6) (0) (0))), (2, .ref (zA Z (7) (0) (0))), (3, .ref (zA Z 8 0 0)), (4, .int (nI (i)))]) rfl ?_
    exact k
  · refine j_aload_n X dL_law_389 rfl rfl (q := 5) rfl ?_
    refine j_iconst X dL_law_390 rfl (v := 0) (by decide) ?_
    refine j_lald X hO dL_law_391 rfl ?_
    refine j_iload X dL_law_392 rfl (q := 0) rfl ?_
    refine j_i2l X dL_law_394 rfl ?_
    refine j_lcmp X dL_law_395 rfl ?_
    refine j_if_eq_t X (tgt := 401) dL_law_396 (by decide) (by rw [hv q0]; exact lg_cmp_self _) ?_
    refine j_goto X (tgt := 1578) dL_law_401 (by decide) ?_
    refine j_sub [2, 3, 4, 5, 6] (Ls2 := [(0, .ref (b)), (1, .ref (zA Z (6) (0) (0))), (2, .ref (zA Z (7) (0) (0))), (3, .ref (zA Z 8 0 0)), (4, .int (nI (i)))]) rfl ?_
    exact k
set_option maxRecDepth 100000 in
set_option maxHeartbeats 4000000 in
theorem lc_clearText {p : Program} {l : Launch} {e : Env} {s : State} {mi : MethodId} {args : Array Value} {below : List Frame} {meth : Method} {c : Code} {Z : wZ} {A0 : Nat → Prop} {cells slots : Nat} {Q : State → Prop} (X : JX p s mi args meth c cL_law 7 RL Z A0) {b L : Nat} {xs : Nat → Int32} (hX : LSc s A0 b L xs) {i : Nat} {S S1 S2 : St} {h h1 h2 : Hl} {v v6 : Int32} {fr lo fr6 lo6 : Nat} (hT : Ci l yX5_clearText cX5_clearText 2 .int fr lo Z [.ref (zA Z (6) (0) (0))] S h v S1 h1) (hC : Ci l yX6_clearText cX6_clearText 2 .int fr6 lo6 Z [.ref (zA Z (7) (0) (0))] S1 h1 v6 S2 h2) (hf : fr + 1 ≤ 13 ∧ 8 + (2 + 11) + lo ≤ 504) (hf6 : fr6 + 1 ≤ 13 ∧ 8 + (2 + 11) + lo6 ≤ 504) (hv : v = v6) (hcs : cells ≤ 601024 ∧ slots ≤ 7293034) (k : J p l e room_1 s mi args below meth c 7 Z A0 cells slots Q S2 h2 [(0, .ref (b)), (1, .ref (zA Z (6) (0) (0))), (2, .ref (zA Z (7) (0) (0))), (3, .ref (zA Z 8 0 0)), (4, .int (nI (i)))] 1578 []) : J p l e room_1 s mi args below meth c 7 Z A0 cells slots Q S h [(0, .ref (b)), (1, .ref (zA Z (6) (0) (0))), (2, .ref (zA Z (7) (0) (0))), (3, .ref (zA Z 8 0 0)), (4, .int (nI (i)))] 404 [] := by
  refine j_aload_n X dL_law_404 rfl rfl (q := 1) rfl ?_
  refine j_calli X hT (wm_top (by decide)) ((fun _ => rfl) _) rfl lk_RL_107 mi_X5_clearText ms_X5_clearText ini_RX5 mc_X5_clearText md_X5_clearText hf hcs rfl (Nat.le_of_ble_eq_true rfl) (as := []) (rest := []) rfl dL_law_405 rfl ?_
  refine j_aload_n X dL_law_408 rfl rfl (q := 2) rfl ?_
  refine j_calli X hC (wm_ref (by decide)) ((fun _ => rfl) _) rfl lk_RL_110 mi_X6_clearText ms_X6_clearText ini_RX6 mc_X6_clearText md_X6_clearText hf6 hcs rfl (Nat.le_of_ble_eq_true rfl) (as := []) (rest := [.int (v)]) rfl dL_law_409 rfl ?_
  refine j_icmp_eq_t X (tgt := 1578) dL_law_412 (by decide) hv ?_
  exact k
set_option maxRecDepth 100000 in
set_option maxHeartbeats 4000000 in
theorem lc_load {p : Program} {l : Launch} {e : Env} {s : State} {mi : MethodId} {args : Array Value} {below : List Frame} {meth : Method} {c : Code} {Z : wZ} {A0 : Nat → Prop} {cells slots : Nat} {Q : State → Prop} (X : JX p s mi args meth c cL_law 7 RL Z A0) {b L : Nat} {xs : Nat → Int32} (hX : LSc s A0 b L xs) {i : Nat} (hO : zO Z = true) (hSt : hStr s) (hZ : hZq A0 s s.heap) {S S1 S2 : St} {h h1 : Hl} {r v : Int32} {fr lo fr6 lo6 : Nat} (hi : i + 4 ≤ L) (hW : Cw l yL_load cL_load 4 [(0, 9, 12, 30), (0, 9, 15, 25)] fr lo Z [.ref (zA Z (6) (0) (0)), .int (xs (i + 1)), .ref (zA Z 8 0 0)] S h r S1 h1) (hC : Ci l yX6_load cX6_load 3 .int fr6 lo6 Z [.ref (zA Z (7) (0) (0)), .int (xs (i + 1))] S1 h1 v S2 h1) (hf : fr + 1 ≤ 13 ∧ 8 + (4 + 11) + lo ≤ 504) (hf6 : fr6 + 1 ≤ 13 ∧ 8 + (3 + 11) + lo6 ≤ 504) (ht : S2 7 0 0 9 = r) (hv : r = 0 → h1 1 = v.toInt64) (hcs : cells + 1 ≤ 601024 ∧ slots + 6 ≤ 7293034) (k : J p l e room_1 s mi args below meth c 7 Z A0 (cells + 1) (slots + 6) Q S2 h1 [(0, .ref (b)), (1, .ref (zA Z (6) (0) (0))), (2, .ref (zA Z (7) (0) (0))), (3, .ref (zA Z 8 0 0)), (4, .int (nI (i)))] 1578 []) : J p l e room_1 s mi args below meth c 7 Z A0 cells slots Q S h [(0, .ref (b)), (1, .ref (zA Z (6) (0) (0))), (2, .ref (zA Z (7) (0) (0))), (3, .ref (zA Z 8 0 0)), (4, .int (nI (i)))] 417 [] := by
  refine j_aload_n X dL_law_417 rfl rfl (q := 1) rfl ?_
  refine j_aload_n X dL_law_418 rfl rfl (q := 0) rfl ?_
  refine j_iload X dL_law_419 rfl (q := 4) rfl ?_
  refine j_iconst X dL_law_421 rfl (v := 1) (by decide) ?_
  refine j_iadd X dL_law_422 rfl ?_
  refine j_topeq (y := nI (i + 1)) (nI_add i 1) ?_
  refine j_sld X hX (k := i + 1) (by omega) dL_law_423 rfl ?_
  refine j_aload_n X dL_law_424 rfl rfl (q := 3) rfl ?_
  refine j_callW X hSt hZ hW (List.mem_of_getElem? (i := 237) (by decide +kernel)) (List.mem_of_getElem? (i := 238) (by decide +kernel)) ini_RL (List.mem_of_getElem? (i := 239) (by decide +kernel)) (na := 3) ⟨rfl, by decide +kernel, by decide +kernel, by decide +kernel⟩ hf hcs rfl (Nat.le_of_ble_eq_true rfl) (as := [.ref (zA Z (6) (0) (0)), .int (xs (i + 1)), .ref (zA Z 8 0 0)]) (rest := []) rfl dL_law_425 rfl ?_
  refine j_istore X dL_law_428 rfl (by decide) (Ls2 := [(5, .int (r)), (0, .ref (b)), (1, .ref (zA Z (6) (0) (0))), (2, .ref (zA Z (7) (0) (0))), (3, .ref (zA Z 8 0 0)), (4, .int (nI (i)))]) rfl ?_
  refine j_aload_n X dL_law_430 rfl rfl (q := 3) rfl ?_
  refine j_aload_n X dL_law_431 rfl rfl (q := 1) rfl ?_
  refine j_iload X dL_law_432 rfl (q := 5) rfl ?_
  refine j_iconst X dL_law_434 rfl (v := 1) (by decide) ?_
  refine j_iadd X dL_law_435 rfl ?_
  refine j_topeq (y := nI (i + 1)) (nI_add i 1) ?_
  refine j_sld X hX (k := i + 1) (by omega) dL_law_436 rfl ?_
  refine j_calli X hC (wm_ref (by decide)) ((fun _ => rfl) _) rfl lk_RL_113 mi_X6_load ms_X6_load ini_RX6 mc_X6_load md_X6_load hf6 hcs rfl (Nat.le_of_ble_eq_true rfl) (as := [.int (xs (i + 1))]) (rest := []) rfl dL_law_437 rfl ?_
  refine j_istore X dL_law_440 rfl (by decide) (Ls2 := [(6, .int (v)), (5, .int (r)), (0, .ref (b)), (1, .ref (zA Z (6) (0) (0))), (2, .ref (zA Z (7) (0) (0))), (3, .ref (zA Z 8 0 0)), (4, .int (nI (i)))]) rfl ?_
  refine j_aload_n X dL_law_442 rfl rfl (q := 4) rfl ?_
  refine j_calli X (c_X6_thrown l Z S2 h1) (wm_ref (by decide)) ((fun _ => rfl) _) rfl lk_RL_94 mi_X6_thrown ms_X6_thrown ini_RX6 mc_X6_thrown md_X6_thrown ⟨Nat.le_of_ble_eq_true rfl, Nat.le_of_ble_eq_true rfl⟩ hcs rfl (Nat.le_of_ble_eq_true rfl) (as := []) (rest := []) rfl dL_law_443 rfl ?_
  refine j_topeq (y := r) ht ?_
  refine j_iload X dL_law_446 rfl (q := 1) rfl ?_
  refine j_icmp_eq_t X (tgt := 453) dL_law_448 (by decide) rfl ?_
  refine j_iload X dL_law_453 rfl (q := 1) rfl ?_
  refine j_if_ne X dL_law_455 rfl (tgt := 470) (by decide) (fun q0 => ?_) (fun q0 => ?_)
  · refine j_goto X (tgt := 1578) dL_law_470 (by decide) ?_
    refine j_sub [2, 3, 4, 5, 6] (Ls2 := [(0, .ref (b)), (1, .ref (zA Z (6) (0) (0))), (2, .ref (zA Z (7) (0) (0))), (3, .ref (zA Z 8 0 0)), (4, .int (nI (i)))]) rfl ?_
    exact k
  · refine j_aload_n X dL_law_458 rfl rfl (q := 5) rfl ?_
    refine j_iconst X dL_law_459 rfl (v := 0) (by decide) ?_
    refine j_lald X hO dL_law_460 rfl ?_
    refine j_iload X dL_law_461 rfl (q := 0) rfl ?_
    refine j_i2l X dL_law_463 rfl ?_
    refine j_lcmp X dL_law_464 rfl ?_
    refine j_if_eq_t X (tgt := 470) dL_law_465 (by decide) (by rw [hv q0]; exact lg_cmp_self _) ?_
    refine j_goto X (tgt := 1578) dL_law_470 (by decide) ?_
    refine j_sub [2, 3, 4, 5, 6] (Ls2 := [(0, .ref (b)), (1, .ref (zA Z (6) (0) (0))), (2, .ref (zA Z (7) (0) (0))), (3, .ref (zA Z 8 0 0)), (4, .int (nI (i)))]) rfl ?_
    exact k
set_option maxRecDepth 100000 in
set_option maxHeartbeats 4000000 in
theorem lc_again {p : Program} {l : Launch} {e : Env} {s : State} {mi : MethodId} {args : Array Value} {below : List Frame} {meth : Method} {c : Code} {Z : wZ} {A0 : Nat → Prop} {cells slots : Nat} {Q : State → Prop} (X : JX p s mi args meth c cL_law 7 RL Z A0) {b L : Nat} {xs : Nat → Int32} (hX : LSc s A0 b L xs) {i : Nat} (hO : zO Z = true) (hSt : hStr s) (hZ : hZq A0 s s.heap) {S S1 S2 : St} {h h1 : Hl} {r v : Int32} {fr lo fr6 lo6 : Nat} (hi : i + 4 ≤ L) (hW : Cw l yL_again cL_again 4 [(0, 9, 12, 30), (0, 9, 15, 25)] fr lo Z [.ref (zA Z (6) (0) (0)), .int (xs (i + 1)), .ref (zA Z 8 0 0)] S h r S1 h1) (hC : Ci l yX6_again cX6_again 2 .int fr6 lo6 Z [.ref (zA Z (7) (0) (0)), .int (xs (i + 1))] S1 h1 v S2 h1) (hf : fr + 1 ≤ 13 ∧ 8 + (4 + 11) + lo ≤ 504) (hf6 : fr6 + 1 ≤ 13 ∧ 8 + (2 + 11) + lo6 ≤ 504) (ht : S2 7 0 0 9 = r) (hv : r = 0 → h1 1 = v.toInt64) (hcs : cells + 1 ≤ 601024 ∧ slots + 6 ≤ 7293034) (k : J p l e room_1 s mi args below meth c 7 Z A0 (cells + 1) (slots + 6) Q S2 h1 [(0, .ref (b)), (1, .ref (zA Z (6) (0) (0))), (2, .ref (zA Z (7) (0) (0))), (3, .ref (zA Z 8 0 0)), (4, .int (nI (i)))] 1578 []) : J p l e room_1 s mi args below meth c 7 Z A0 cells slots Q S h [(0, .ref (b)), (1, .ref (zA Z (6) (0) (0))), (2, .ref (zA Z (7) (0) (0))), (3, .ref (zA Z 8 0 0)), (4, .int (nI (i)))] 473 [] := by
  refine j_aload_n X dL_law_473 rfl rfl (q := 1) rfl ?_
  refine j_aload_n X dL_law_474 rfl rfl (q := 0) rfl ?_
  refine j_iload X dL_law_475 rfl (q := 4) rfl ?_
  refine j_iconst X dL_law_477 rfl (v := 1) (by decide) ?_
  refine j_iadd X dL_law_478 rfl ?_
  refine j_topeq (y := nI (i + 1)) (nI_add i 1) ?_
  refine j_sld X hX (k := i + 1) (by omega) dL_law_479 rfl ?_
  refine j_aload_n X dL_law_480 rfl rfl (q := 3) rfl ?_
  refine j_callW X hSt hZ hW (List.mem_of_getElem? (i := 334) (by decide +kernel)) (List.mem_of_getElem? (i := 335) (by decide +kernel)) ini_RL (List.mem_of_getElem? (i := 336) (by decide +kernel)) (na := 3) ⟨rfl, by decide +kernel, by decide +kernel, by decide +kernel⟩ hf hcs rfl (Nat.le_of_ble_eq_true rfl) (as := [.ref (zA Z (6) (0) (0)), .int (xs (i + 1)), .ref (zA Z 8 0 0)]) (rest := []) rfl dL_law_481 rfl ?_
  refine j_istore X dL_law_484 rfl (by decide) (Ls2 := [(5, .int (r)), (0, .ref (b)), (1, .ref (zA Z (6) (0) (0))), (2, .ref (zA Z (7) (0) (0))), (3, .ref (zA Z 8 0 0)), (4, .int (nI (i)))]) rfl ?_
  refine j_aload_n X dL_law_486 rfl rfl (q := 3) rfl ?_
  refine j_aload_n X dL_law_487 rfl rfl (q := 1) rfl ?_
  refine j_iload X dL_law_488 rfl (q := 5) rfl ?_
  refine j_iconst X dL_law_490 rfl (v := 1) (by decide) ?_
  refine j_iadd X dL_law_491 rfl ?_
  refine j_topeq (y := nI (i + 1)) (nI_add i 1) ?_
  refine j_sld X hX (k := i + 1) (by omega) dL_law_492 rfl ?_
  refine j_calli X hC (wm_ref (by decide)) ((fun _ => rfl) _) rfl lk_RL_116 mi_X6_again ms_X6_again ini_RX6 mc_X6_again md_X6_again hf6 hcs rfl (Nat.le_of_ble_eq_true rfl) (as := [.int (xs (i + 1))]) (rest := []) rfl dL_law_493 rfl ?_
  refine j_istore X dL_law_496 rfl (by decide) (Ls2 := [(6, .int (v)), (5, .int (r)), (0, .ref (b)), (1, .ref (zA Z (6) (0) (0))), (2, .ref (zA Z (7) (0) (0))), (3, .ref (zA Z 8 0 0)), (4, .int (nI (i)))]) rfl ?_
  refine j_aload_n X dL_law_498 rfl rfl (q := 4) rfl ?_
  refine j_calli X (c_X6_thrown l Z S2 h1) (wm_ref (by decide)) ((fun _ => rfl) _) rfl lk_RL_94 mi_X6_thrown ms_X6_thrown ini_RX6 mc_X6_thrown md_X6_thrown ⟨Nat.le_of_ble_eq_true rfl, Nat.le_of_ble_eq_true rfl⟩ hcs rfl (Nat.le_of_ble_eq_true rfl) (as := []) (rest := []) rfl dL_law_499 rfl ?_
  refine j_topeq (y := r) ht ?_
  refine j_iload X dL_law_502 rfl (q := 1) rfl ?_
  refine j_icmp_eq_t X (tgt := 509) dL_law_504 (by decide) rfl ?_
  refine j_iload X dL_law_509 rfl (q := 1) rfl ?_
  refine j_if_ne X dL_law_511 rfl (tgt := 526) (by decide) (fun q0 => ?_) (fun q0 => ?_)
  · refine j_goto X (tgt := 1578) dL_law_526 (by decide) ?_
    refine j_sub [2, 3, 4, 5, 6] (Ls2 := [(0, .ref (b)), (1, .ref (zA Z (6) (0) (0))), (2, .ref (zA Z (7) (0) (0))), (3, .ref (zA Z 8 0 0)), (4, .int (nI (i)))]) rfl ?_
    exact k
  · refine j_aload_n X dL_law_514 rfl rfl (q := 5) rfl ?_
    refine j_iconst X dL_law_515 rfl (v := 0) (by decide) ?_
    refine j_lald X hO dL_law_516 rfl ?_
    refine j_iload X dL_law_517 rfl (q := 0) rfl ?_
    refine j_i2l X dL_law_519 rfl ?_
    refine j_lcmp X dL_law_520 rfl ?_
    refine j_if_eq_t X (tgt := 526) dL_law_521 (by decide) (by rw [hv q0]; exact lg_cmp_self _) ?_
    refine j_goto X (tgt := 1578) dL_law_526 (by decide) ?_
    refine j_sub [2, 3, 4, 5, 6] (Ls2 := [(0, .ref (b)), (1, .ref (zA Z (6) (0) (0))), (2, .ref (zA Z (7) (0) (0))), (3, .ref (zA Z 8 0 0)), (4, .int (nI (i)))]) rfl ?_
    exact k
set_option maxRecDepth 100000 in
set_option maxHeartbeats 4000000 in
theorem lc_step {p : Program} {l : Launch} {e : Env} {s : State} {mi : MethodId} {args : Array Value} {below : List Frame} {meth : Method} {c : Code} {Z : wZ} {A0 : Nat → Prop} {cells slots : Nat} {Q : State → Prop} (X : JX p s mi args meth c cL_law 7 RL Z A0) {b L : Nat} {xs : Nat → Int32} (hX : LSc s A0 b L xs) {i : Nat} (hO : zO Z = true) (hSt : hStr s) (hZ : hZq A0 s s.heap) {S S1 S2 : St} {h h1 : Hl} {r v : Int32} {fr lo fr6 lo6 : Nat} (hi : i + 4 ≤ L) (hW : Cw l yL_step cL_step 4 [(0, 9, 12, 30), (0, 9, 15, 25)] fr lo Z [.ref (zA Z (6) (0) (0)), .int (xs (i + 1)), .ref (zA Z 8 0 0)] S h r S1 h1) (hC : Ci l yX6_step cX6_step 2 .int fr6 lo6 Z [.ref (zA Z (7) (0) (0)), .int (xs (i + 1))] S1 h1 v S2 h1) (hf : fr + 1 ≤ 13 ∧ 8 + (4 + 11) + lo ≤ 504) (hf6 : fr6 + 1 ≤ 13 ∧ 8 + (2 + 11) + lo6 ≤ 504) (ht : S2 7 0 0 9 = r) (hv : r = 0 → h1 1 = v.toInt64) (hcs : cells + 1 ≤ 601024 ∧ slots + 6 ≤ 7293034) (k : J p l e room_1 s mi args below meth c 7 Z A0 (cells + 1) (slots + 6) Q S2 h1 [(0, .ref (b)), (1, .ref (zA Z (6) (0) (0))), (2, .ref (zA Z (7) (0) (0))), (3, .ref (zA Z 8 0 0)), (4, .int (nI (i)))] 1578 []) : J p l e room_1 s mi args below meth c 7 Z A0 cells slots Q S h [(0, .ref (b)), (1, .ref (zA Z (6) (0) (0))), (2, .ref (zA Z (7) (0) (0))), (3, .ref (zA Z 8 0 0)), (4, .int (nI (i)))] 529 [] := by
  refine j_aload_n X dL_law_529 rfl rfl (q := 1) rfl ?_
  refine j_aload_n X dL_law_530 rfl rfl (q := 0) rfl ?_
  refine j_iload X dL_law_531 rfl (q := 4) rfl ?_
  refine j_iconst X dL_law_533 rfl (v := 1) (by decide) ?_
  refine j_iadd X dL_law_534 rfl ?_
  refine j_topeq (y := nI (i + 1)) (nI_add i 1) ?_
  refine j_sld X hX (k := i + 1) (by omega) dL_law_535 rfl ?_
  refine j_aload_n X dL_law_536 rfl rfl (q := 3) rfl ?_
  refine j_callW X hSt hZ hW (List.mem_of_getElem? (i := 352) (by decide +kernel)) (List.mem_of_getElem? (i := 353) (by decide +kernel)) ini_RL (List.mem_of_getElem? (i := 354) (by decide +kernel)) (na := 3) ⟨rfl, by decide +kernel, by decide +kernel, by decide +kernel⟩ hf hcs rfl (Nat.le_of_ble_eq_true rfl) (as := [.ref (zA Z (6) (0) (0)), .int (xs (i + 1)), .ref (zA Z 8 0 0)]) (rest := []) rfl dL_law_537 rfl ?_
  refine j_istore X dL_law_540 rfl (by decide) (Ls2 := [(5, .int (r)), (0, .ref (b)), (1, .ref (zA Z (6) (0) (0))), (2, .ref (zA Z (7) (0) (0))), (3, .ref (zA Z 8 0 0)), (4, .int (nI (i)))]) rfl ?_
  refine j_aload_n X dL_law_542 rfl rfl (q := 3) rfl ?_
  refine j_aload_n X dL_law_543 rfl rfl (q := 1) rfl ?_
  refine j_iload X dL_law_544 rfl (q := 5) rfl ?_
  refine j_iconst X dL_law_546 rfl (v := 1) (by decide) ?_
  refine j_iadd X dL_law_547 rfl ?_
  refine j_topeq (y := nI (i + 1)) (nI_add i 1) ?_
  refine j_sld X hX (k := i + 1) (by omega) dL_law_548 rfl ?_
  refine j_calli X hC (wm_ref (by decide)) ((fun _ => rfl) _) rfl lk_RL_119 mi_X6_step ms_X6_step ini_RX6 mc_X6_step md_X6_step hf6 hcs rfl (Nat.le_of_ble_eq_true rfl) (as := [.int (xs (i + 1))]) (rest := []) rfl dL_law_549 rfl ?_
  refine j_istore X dL_law_552 rfl (by decide) (Ls2 := [(6, .int (v)), (5, .int (r)), (0, .ref (b)), (1, .ref (zA Z (6) (0) (0))), (2, .ref (zA Z (7) (0) (0))), (3, .ref (zA Z 8 0 0)), (4, .int (nI (i)))]) rfl ?_
  refine j_aload_n X dL_law_554 rfl rfl (q := 4) rfl ?_
  refine j_calli X (c_X6_thrown l Z S2 h1) (wm_ref (by decide)) ((fun _ => rfl) _) rfl lk_RL_94 mi_X6_thrown ms_X6_thrown ini_RX6 mc_X6_thrown md_X6_thrown ⟨Nat.le_of_ble_eq_true rfl, Nat.le_of_ble_eq_true rfl⟩ hcs rfl (Nat.le_of_ble_eq_true rfl) (as := []) (rest := []) rfl dL_law_555 rfl ?_
  refine j_topeq (y := r) ht ?_
  refine j_iload X dL_law_558 rfl (q := 1) rfl ?_
  refine j_icmp_eq_t X (tgt := 565) dL_law_560 (by decide) rfl ?_
  refine j_iload X dL_law_565 rfl (q := 1) rfl ?_
  refine j_if_ne X dL_law_567 rfl (tgt := 582) (by decide) (fun q0 => ?_) (fun q0 => ?_)
  · refine j_goto X (tgt := 1578) dL_law_582 (by decide) ?_
    refine j_sub [2, 3, 4, 5, 6] (Ls2 := [(0, .ref (b)), (1, .ref (zA Z (6) (0) (0))), (2, .ref (zA Z (7) (0) (0))), (3, .ref (zA Z 8 0 0)), (4, .int (nI (i)))]) rfl ?_
    exact k
  · refine j_aload_n X dL_law_570 rfl rfl (q := 5) rfl ?_
    refine j_iconst X dL_law_571 rfl (v := 0) (by decide) ?_
    refine j_lald X hO dL_law_572 rfl ?_
    refine j_iload X dL_law_573 rfl (q := 0) rfl ?_
    refine j_i2l X dL_law_575 rfl ?_
    refine j_lcmp X dL_law_576 rfl ?_
    refine j_if_eq_t X (tgt := 582) dL_law_577 (by decide) (by rw [hv q0]; exact lg_cmp_self _) ?_
    refine j_goto X (tgt := 1578) dL_law_582 (by decide) ?_
    refine j_sub [2, 3, 4, 5, 6] (Ls2 := [(0, .ref (b)), (1, .ref (zA Z (6) (0) (0))), (2, .ref (zA Z (7) (0) (0))), (3, .ref (zA Z 8 0 0)), (4, .int (nI (i)))]) rfl ?_
    exact k
set_option maxRecDepth 100000 in
set_option maxHeartbeats 4000000 in
theorem lc_run {p : Program} {l : Launch} {e : Env} {s : State} {mi : MethodId} {args : Array Value} {below : List Frame} {meth : Method} {c : Code} {Z : wZ} {A0 : Nat → Prop} {cells slots : Nat} {Q : State → Prop} (X : JX p s mi args meth c cL_law 7 RL Z A0) {b L : Nat} {xs : Nat → Int32} (hX : LSc s A0 b L xs) {i : Nat} (hO : zO Z = true) (hSt : hStr s) (hZ : hZq A0 s s.heap) {S S1 S2 : St} {h h1 : Hl} {r v : Int32} {fr lo fr6 lo6 : Nat} (hi : i + 4 ≤ L) (hW : Cw l yL_run cL_run 4 [(0, 9, 12, 13)] fr lo Z [.ref (zA Z (6) (0) (0)), .int (xs (i + 1)), .ref (zA Z 8 0 0)] S h r S1 h1) (hC : Ci l yX6_run cX6_run 2 .int fr6 lo6 Z [.ref (zA Z (7) (0) (0)), .int (xs (i + 1))] S1 h1 v S2 h1) (hf : fr + 1 ≤ 13 ∧ 8 + (4 + 11) + lo ≤ 504) (hf6 : fr6 + 1 ≤ 13 ∧ 8 + (2 + 11) + lo6 ≤ 504) (ht : S2 7 0 0 9 = r) (hv : r = 0 → h1 1 = v.toInt64) (hcs : cells + 1 ≤ 601024 ∧ slots + 6 ≤ 7293034) (k : J p l e room_1 s mi args below meth c 7 Z A0 (cells + 1) (slots + 6) Q S2 h1 [(0, .ref (b)), (1, .ref (zA Z (6) (0) (0))), (2, .ref (zA Z (7) (0) (0))), (3, .ref (zA Z 8 0 0)), (4, .int (nI (i)))] 1578 []) : J p l e room_1 s mi args below meth c 7 Z A0 cells slots Q S h [(0, .ref (b)), (1, .ref (zA Z (6) (0) (0))), (2, .ref (zA Z (7) (0) (0))), (3, .ref (zA Z 8 0 0)), (4, .int (nI (i)))] 585 [] := by
  refine j_aload_n X dL_law_585 rfl rfl (q := 1) rfl ?_
  refine j_aload_n X dL_law_586 rfl rfl (q := 0) rfl ?_
  refine j_iload X dL_law_587 rfl (q := 4) rfl ?_
  refine j_iconst X dL_law_589 rfl (v := 1) (by decide) ?_
  refine j_iadd X dL_law_590 rfl ?_
  refine j_topeq (y := nI (i + 1)) (nI_add i 1) ?_
  refine j_sld X hX (k := i + 1) (by omega) dL_law_591 rfl ?_
  refine j_aload_n X dL_law_592 rfl rfl (q := 3) rfl ?_
  refine j_callW X hSt hZ hW (List.mem_of_getElem? (i := 501) (by decide +kernel)) (List.mem_of_getElem? (i := 502) (by decide +kernel)) ini_RL (List.mem_of_getElem? (i := 503) (by decide +kernel)) (na := 3) ⟨rfl, by decide +kernel, by decide +kernel, by decide +kernel⟩ hf hcs rfl (Nat.le_of_ble_eq_true rfl) (as := [.ref (zA Z (6) (0) (0)), .int (xs (i + 1)), .ref (zA Z 8 0 0)]) (rest := []) rfl dL_law_593 rfl ?_
  refine j_istore X dL_law_596 rfl (by decide) (Ls2 := [(5, .int (r)), (0, .ref (b)), (1, .ref (zA Z (6) (0) (0))), (2, .ref (zA Z (7) (0) (0))), (3, .ref (zA Z 8 0 0)), (4, .int (nI (i)))]) rfl ?_
  refine j_aload_n X dL_law_598 rfl rfl (q := 3) rfl ?_
  refine j_aload_n X dL_law_599 rfl rfl (q := 1) rfl ?_
  refine j_iload X dL_law_600 rfl (q := 5) rfl ?_
  refine j_iconst X dL_law_602 rfl (v := 1) (by decide) ?_
  refine j_iadd X dL_law_603 rfl ?_
  refine j_topeq (y := nI (i + 1)) (nI_add i 1) ?_
  refine j_sld X hX (k := i + 1) (by omega) dL_law_604 rfl ?_
  refine j_calli X hC (wm_ref (by decide)) ((fun _ => rfl) _) rfl lk_RL_122 mi_X6_run ms_X6_run ini_RX6 mc_X6_run md_X6_run hf6 hcs rfl (Nat.le_of_ble_eq_true rfl) (as := [.int (xs (i + 1))]) (rest := []) rfl dL_law_605 rfl ?_
  refine j_istore X dL_law_608 rfl (by decide) (Ls2 := [(6, .int (v)), (5, .int (r)), (0, .ref (b)), (1, .ref (zA Z (6) (0) (0))), (2, .ref (zA Z (7) (0) (0))), (3, .ref (zA Z 8 0 0)), (4, .int (nI (i)))]) rfl ?_
  refine j_aload_n X dL_law_610 rfl rfl (q := 4) rfl ?_
  refine j_calli X (c_X6_thrown l Z S2 h1) (wm_ref (by decide)) ((fun _ => rfl) _) rfl lk_RL_94 mi_X6_thrown ms_X6_thrown ini_RX6 mc_X6_thrown md_X6_thrown ⟨Nat.le_of_ble_eq_true rfl, Nat.le_of_ble_eq_true rfl⟩ hcs rfl (Nat.le_of_ble_eq_true rfl) (as := []) (rest := []) rfl dL_law_611 rfl ?_
  refine j_topeq (y := r) ht ?_
  refine j_iload X dL_law_614 rfl (q := 1) rfl ?_
  refine j_icmp_eq_t X (tgt := 621) dL_law_616 (by decide) rfl ?_
  refine j_iload X dL_law_621 rfl (q := 1) rfl ?_
  refine j_if_ne X dL_law_623 rfl (tgt := 638) (by decide) (fun q0 => ?_) (fun q0 => ?_)
  · refine j_goto X (tgt := 1578) dL_law_638 (by decide) ?_
    refine j_sub [2, 3, 4, 5, 6] (Ls2 := [(0, .ref (b)), (1, .ref (zA Z (6) (0) (0))), (2, .ref (zA Z (7) (0) (0))), (3, .ref (zA Z 8 0 0)), (4, .int (nI (i)))]) rfl ?_
    exact k
  · refine j_aload_n X dL_law_626 rfl rfl (q := 5) rfl ?_
    refine j_iconst X dL_law_627 rfl (v := 0) (by decide) ?_
    refine j_lald X hO dL_law_628 rfl ?_
    refine j_iload X dL_law_629 rfl (q := 0) rfl ?_
    refine j_i2l X dL_law_631 rfl ?_
    refine j_lcmp X dL_law_632 rfl ?_
    refine j_if_eq_t X (tgt := 638) dL_law_633 (by decide) (by rw [hv q0]; exact lg_cmp_self _) ?_
    refine j_goto X (tgt := 1578) dL_law_638 (by decide) ?_
    refine j_sub [2, 3, 4, 5, 6] (Ls2 := [(0, .ref (b)), (1, .ref (zA Z (6) (0) (0))), (2, .ref (zA Z (7) (0) (0))), (3, .ref (zA Z 8 0 0)), (4, .int (nI (i)))]) rfl ?_
    exact k
set_option maxRecDepth 100000 in
set_option maxHeartbeats 4000000 in
theorem lc_poke {p : Program} {l : Launch} {e : Env} {s : State} {mi : MethodId} {args : Array Value} {below : List Frame} {meth : Method} {c : Code} {Z : wZ} {A0 : Nat → Prop} {cells slots : Nat} {Q : State → Prop} (X : JX p s mi args meth c cL_law 7 RL Z A0) {b L : Nat} {xs : Nat → Int32} (hX : LSc s A0 b L xs) {i : Nat} (hO : zO Z = true) (hSt : hStr s) (hZ : hZq A0 s s.heap) {S S1 S2 : St} {h h1 : Hl} {r v : Int32} {fr lo fr6 lo6 : Nat} (hi : i + 4 ≤ L) (hW : Cw l yL_poke cL_poke 5 [(0, 10, 13, 30)] fr lo Z [.ref (zA Z (6) (0) (0)), .int (xs (i + 1)), .int (xs (i + 2)), .ref (zA Z 8 0 0)] S h r S1 h1) (hC : Ci l yX6_poke cX6_poke 4 .int fr6 lo6 Z [.ref (zA Z (7) (0) (0)), .int (xs (i + 1)), .int (xs (i + 2))] S1 h1 v S2 h1) (hf : fr + 1 ≤ 13 ∧ 8 + (5 + 11) + lo ≤ 504) (hf6 : fr6 + 1 ≤ 13 ∧ 8 + (4 + 11) + lo6 ≤ 504) (ht : S2 7 0 0 9 = r) (hv : r = 0 → h1 1 = v.toInt64) (hcs : cells + 1 ≤ 601024 ∧ slots + 6 ≤ 7293034) (k : J p l e room_1 s mi args below meth c 7 Z A0 (cells + 1) (slots + 6) Q S2 h1 [(0, .ref (b)), (1, .ref (zA Z (6) (0) (0))), (2, .ref (zA Z (7) (0) (0))), (3, .ref (zA Z 8 0 0)), (4, .int (nI (i)))] 1578 []) : J p l e room_1 s mi args below meth c 7 Z A0 cells slots Q S h [(0, .ref (b)), (1, .ref (zA Z (6) (0) (0))), (2, .ref (zA Z (7) (0) (0))), (3, .ref (zA Z 8 0 0)), (4, .int (nI (i)))] 641 [] := by
  refine j_aload_n X dL_law_641 rfl rfl (q := 1) rfl ?_
  refine j_aload_n X dL_law_642 rfl rfl (q := 0) rfl ?_
  refine j_iload X dL_law_643 rfl (q := 4) rfl ?_
  refine j_iconst X dL_law_645 rfl (v := 1) (by decide) ?_
  refine j_iadd X dL_law_646 rfl ?_
  refine j_topeq (y := nI (i + 1)) (nI_add i 1) ?_
  refine j_sld X hX (k := i + 1) (by omega) dL_law_647 rfl ?_
  refine j_aload_n X dL_law_648 rfl rfl (q := 0) rfl ?_
  refine j_iload X dL_law_649 rfl (q := 4) rfl ?_
  refine j_iconst X dL_law_651 rfl (v := 2) (by decide) ?_
  refine j_iadd X dL_law_652 rfl ?_
  refine j_topeq (y := nI (i + 2)) (nI_add i 2) ?_
  refine j_sld X hX (k := i + 2) (by omega) dL_law_653 rfl ?_
  refine j_aload_n X dL_law_654 rfl rfl (q := 3) rfl ?_
  refine j_callW X hSt hZ hW (List.mem_of_getElem? (i := 547) (by decide +kernel)) (List.mem_of_getElem? (i := 548) (by decide +kernel)) ini_RL (List.mem_of_getElem? (i := 549) (by decide +kernel)) (na := 4) ⟨rfl, by decide +kernel, by decide +kernel, by decide +kernel⟩ hf hcs rfl (Nat.le_of_ble_eq_true rfl) (as := [.ref (zA Z (6) (0) (0)), .int (xs (i + 1)), .int (xs (i + 2)), .ref (zA Z 8 0 0)]) (rest := []) rfl dL_law_655 rfl ?_
  refine j_istore X dL_law_658 rfl (by decide) (Ls2 := [(5, .int (r)), (0, .ref (b)), (1, .ref (zA Z (6) (0) (0))), (2, .ref (zA Z (7) (0) (0))), (3, .ref (zA Z 8 0 0)), (4, .int (nI (i)))]) rfl ?_
  refine j_aload_n X dL_law_660 rfl rfl (q := 3) rfl ?_
  refine j_aload_n X dL_law_661 rfl rfl (q := 1) rfl ?_
  refine j_iload X dL_law_662 rfl (q := 5) rfl ?_
  refine j_iconst X dL_law_664 rfl (v := 1) (by decide) ?_
  refine j_iadd X dL_law_665 rfl ?_
  refine j_topeq (y := nI (i + 1)) (nI_add i 1) ?_
  refine j_sld X hX (k := i + 1) (by omega) dL_law_666 rfl ?_
  refine j_aload_n X dL_law_667 rfl rfl (q := 1) rfl ?_
  refine j_iload X dL_law_668 rfl (q := 5) rfl ?_
  refine j_iconst X dL_law_670 rfl (v := 2) (by decide) ?_
  refine j_iadd X dL_law_671 rfl ?_
  refine j_topeq (y := nI (i + 2)) (nI_add i 2) ?_
  refine j_sld X hX (k := i + 2) (by omega) dL_law_672 rfl ?_
  refine j_calli X hC (wm_ref (by decide)) ((fun _ => rfl) _) rfl lk_RL_126 mi_X6_poke ms_X6_poke ini_RX6 mc_X6_poke md_X6_poke hf6 hcs rfl (Nat.le_of_ble_eq_true rfl) (as := [.int (xs (i + 1)), .int (xs (i + 2))]) (rest := []) rfl dL_law_673 rfl ?_
  refine j_istore X dL_law_676 rfl (by decide) (Ls2 := [(6, .int (v)), (5, .int (r)), (0, .ref (b)), (1, .ref (zA Z (6) (0) (0))), (2, .ref (zA Z (7) (0) (0))), (3, .ref (zA Z 8 0 0)), (4, .int (nI (i)))]) rfl ?_
  refine j_aload_n X dL_law_678 rfl rfl (q := 4) rfl ?_
  refine j_calli X (c_X6_thrown l Z S2 h1) (wm_ref (by decide)) ((fun _ => rfl) _) rfl lk_RL_94 mi_X6_thrown ms_X6_thrown ini_RX6 mc_X6_thrown md_X6_thrown ⟨Nat.le_of_ble_eq_true rfl, Nat.le_of_ble_eq_true rfl⟩ hcs rfl (Nat.le_of_ble_eq_true rfl) (as := []) (rest := []) rfl dL_law_679 rfl ?_
  refine j_topeq (y := r) ht ?_
  refine j_iload X dL_law_682 rfl (q := 1) rfl ?_
  refine j_icmp_eq_t X (tgt := 689) dL_law_684 (by decide) rfl ?_
  refine j_iload X dL_law_689 rfl (q := 1) rfl ?_
  refine j_if_ne X dL_law_691 rfl (tgt := 706) (by decide) (fun q0 => ?_) (fun q0 => ?_)
  · refine j_goto X (tgt := 1578) dL_law_706 (by decide) ?_
    refine j_sub [2, 3, 4, 5, 6] (Ls2 := [(0, .ref (b)), (1, .ref (zA Z (6) (0) (0))), (2, .ref (zA Z (7) (0) (0))), (3, .ref (zA Z 8 0 0)), (4, .int (nI (i)))]) rfl ?_
    exact k
  · refine j_aload_n X dL_law_694 rfl rfl (q := 5) rfl ?_
    refine j_iconst X dL_law_695 rfl (v := 0) (by decide) ?_
    refine j_lald X hO dL_law_696 rfl ?_
    refine j_iload X dL_law_697 rfl (q := 0) rfl ?_
    refine j_i2l X dL_law_699 rfl ?_
    refine j_lcmp X dL_law_700 rfl ?_
    refine j_if_eq_t X (tgt := 706) dL_law_701 (by decide) (by rw [hv q0]; exact lg_cmp_self _) ?_
    refine j_goto X (tgt := 1578) dL_law_706 (by decide) ?_
    refine j_sub [2, 3, 4, 5, 6] (Ls2 := [(0, .ref (b)), (1, .ref (zA Z (6) (0) (0))), (2, .ref (zA Z (7) (0) (0))), (3, .ref (zA Z 8 0 0)), (4, .int (nI (i)))]) rfl ?_
    exact k
set_option maxRecDepth 100000 in
set_option maxHeartbeats 4000000 in
theorem lc_state {p : Program} {l : Launch} {e : Env} {s : State} {mi : MethodId} {args : Array Value} {below : List Frame} {meth : Method} {c : Code} {Z : wZ} {A0 : Nat → Prop} {cells slots : Nat} {Q : State → Prop} (X : JX p s mi args meth c cL_law 7 RL Z A0) {b L : Nat} {xs : Nat → Int32} (hX : LSc s A0 b L xs) {i : Nat} (hO : zO Z = true) (hSt : hStr s) (hZ : hZq A0 s s.heap) {S S1 S2 : St} {h h1 : Hl} {r v : Int32} {fr lo fr6 lo6 : Nat} (hi : i + 4 ≤ L) (hW : Cw l yL_state cL_state 5 [(0, 10, 13, 30)] fr lo Z [.ref (zA Z (6) (0) (0)), .int (xs (i + 1)), .int (xs (i + 2)), .ref (zA Z 8 0 0)] S h r S1 h1) (hC : Ci l yX6_state cX6_state 3 .int fr6 lo6 Z [.ref (zA Z (7) (0) (0)), .int (xs (i + 1)), .int (xs (i + 2))] S1 h1 v S2 h1) (hf : fr + 1 ≤ 13 ∧ 8 + (5 + 11) + lo ≤ 504) (hf6 : fr6 + 1 ≤ 13 ∧ 8 + (3 + 11) + lo6 ≤ 504) (ht : S2 7 0 0 9 = r) (hv : r = 0 → h1 1 = v.toInt64) (hcs : cells + 1 ≤ 601024 ∧ slots + 6 ≤ 7293034) (k : J p l e room_1 s mi args below meth c 7 Z A0 (cells + 1) (slots + 6) Q S2 h1 [(0, .ref (b)), (1, .ref (zA Z (6) (0) (0))), (2, .ref (zA Z (7) (0) (0))), (3, .ref (zA Z 8 0 0)), (4, .int (nI (i)))] 1578 []) : J p l e room_1 s mi args below meth c 7 Z A0 cells slots Q S h [(0, .ref (b)), (1, .ref (zA Z (6) (0) (0))), (2, .ref (zA Z (7) (0) (0))), (3, .ref (zA Z 8 0 0)), (4, .int (nI (i)))] 709 [] := by
  refine j_aload_n X dL_law_709 rfl rfl (q := 1) rfl ?_
  refine j_aload_n X dL_law_710 rfl rfl (q := 0) rfl ?_
  refine j_iload X dL_law_711 rfl (q := 4) rfl ?_
  refine j_iconst X dL_law_713 rfl (v := 1) (by decide) ?_
  refine j_iadd X dL_law_714 rfl ?_
  refine j_topeq (y := nI (i + 1)) (nI_add i 1) ?_
  refine j_sld X hX (k := i + 1) (by omega) dL_law_715 rfl ?_
  refine j_aload_n X dL_law_716 rfl rfl (q := 0) rfl ?_
  refine j_iload X dL_law_717 rfl (q := 4) rfl ?_
  refine j_iconst X dL_law_719 rfl (v := 2) (by decide) ?_
  refine j_iadd X dL_law_720 rfl ?_
  refine j_topeq (y := nI (i + 2)) (nI_add i 2) ?_
  refine j_sld X hX (k := i + 2) (by omega) dL_law_721 rfl ?_
  refine j_aload_n X dL_law_722 rfl rfl (q := 3) rfl ?_
  refine j_callW X hSt hZ hW (List.mem_of_getElem? (i := 565) (by decide +kernel)) (List.mem_of_getElem? (i := 566) (by decide +kernel)) ini_RL (List.mem_of_getElem? (i := 567) (by decide +kernel)) (na := 4) ⟨rfl, by decide +kernel, by decide +kernel, by decide +kernel⟩ hf hcs rfl (Nat.le_of_ble_eq_true rfl) (as := [.ref (zA Z (6) (0) (0)), .int (xs (i + 1)), .int (xs (i + 2)), .ref (zA Z 8 0 0)]) (rest := []) rfl dL_law_723 rfl ?_
  refine j_istore X dL_law_726 rfl (by decide) (Ls2 := [(5, .int (r)), (0, .ref (b)), (1, .ref (zA Z (6) (0) (0))), (2, .ref (zA Z (7) (0) (0))), (3, .ref (zA Z 8 0 0)), (4, .int (nI (i)))]) rfl ?_
  refine j_aload_n X dL_law_728 rfl rfl (q := 3) rfl ?_
  refine j_aload_n X dL_law_729 rfl rfl (q := 1) rfl ?_
  refine j_iload X dL_law_730 rfl (q := 5) rfl ?_
  refine j_iconst X dL_law_732 rfl (v := 1) (by decide) ?_
  refine j_iadd X dL_law_733 rfl ?_
  refine j_topeq (y := nI (i + 1)) (nI_add i 1) ?_
  refine j_sld X hX (k := i + 1) (by omega) dL_law_734 rfl ?_
  refine j_aload_n X dL_law_735 rfl rfl (q := 1) rfl ?_
  refine j_iload X dL_law_736 rfl (q := 5) rfl ?_
  refine j_iconst X dL_law_738 rfl (v := 2) (by decide) ?_
  refine j_iadd X dL_law_739 rfl ?_
  refine j_topeq (y := nI (i + 2)) (nI_add i 2) ?_
  refine j_sld X hX (k := i + 2) (by omega) dL_law_740 rfl ?_
  refine j_calli X hC (wm_ref (by decide)) ((fun _ => rfl) _) rfl lk_RL_129 mi_X6_state ms_X6_state ini_RX6 mc_X6_state md_X6_state hf6 hcs rfl (Nat.le_of_ble_eq_true rfl) (as := [.int (xs (i + 1)), .int (xs (i + 2))]) (rest := []) rfl dL_law_741 rfl ?_
  refine j_istore X dL_law_744 rfl (by decide) (Ls2 := [(6, .int (v)), (5, .int (r)), (0, .ref (b)), (1, .ref (zA Z (6) (0) (0))), (2, .ref (zA Z (7) (0) (0))), (3, .ref (zA Z 8 0 0)), (4, .int (nI (i)))]) rfl ?_
  refine j_aload_n X dL_law_746 rfl rfl (q := 4) rfl ?_
  refine j_calli X (c_X6_thrown l Z S2 h1) (wm_ref (by decide)) ((fun _ => rfl) _) rfl lk_RL_94 mi_X6_thrown ms_X6_thrown ini_RX6 mc_X6_thrown md_X6_thrown ⟨Nat.le_of_ble_eq_true rfl, Nat.le_of_ble_eq_true rfl⟩ hcs rfl (Nat.le_of_ble_eq_true rfl) (as := []) (rest := []) rfl dL_law_747 rfl ?_
  refine j_topeq (y := r) ht ?_
  refine j_iload X dL_law_750 rfl (q := 1) rfl ?_
  refine j_icmp_eq_t X (tgt := 757) dL_law_752 (by decide) rfl ?_
  refine j_iload X dL_law_757 rfl (q := 1) rfl ?_
  refine j_if_ne X dL_law_759 rfl (tgt := 774) (by decide) (fun q0 => ?_) (fun q0 => ?_)
  · refine j_goto X (tgt := 1578) dL_law_774 (by decide) ?_
    refine j_sub [2, 3, 4, 5, 6] (Ls2 := [(0, .ref (b)), (1, .ref (zA Z (6) (0) (0))), (2, .ref (zA Z (7) (0) (0))), (3, .ref (zA Z 8 0 0)), (4, .int (nI (i)))]) rfl ?_
    exact k
  · refine j_aload_n X dL_law_762 rfl rfl (q := 5) rfl ?_
    refine j_iconst X dL_law_763 rfl (v := 0) (by decide) ?_
    refine j_lald X hO dL_law_764 rfl ?_
    refine j_iload X dL_law_765 rfl (q := 0) rfl ?_
    refine j_i2l X dL_law_767 rfl ?_
    refine j_lcmp X dL_law_768 rfl ?_
    refine j_if_eq_t X (tgt := 774) dL_law_769 (by decide) (by rw [hv q0]; exact lg_cmp_self _) ?_
    refine j_goto X (tgt := 1578) dL_law_774 (by decide) ?_
    refine j_sub [2, 3, 4, 5, 6] (Ls2 := [(0, .ref (b)), (1, .ref (zA Z (6) (0) (0))), (2, .ref (zA Z (7) (0) (0))), (3, .ref (zA Z 8 0 0)), (4, .int (nI (i)))]) rfl ?_
    exact k
set_option maxRecDepth 100000 in
set_option maxHeartbeats 4000000 in
theorem lc_cached {p : Program} {l : Launch} {e : Env} {s : State} {mi : MethodId} {args : Array Value} {below : List Frame} {meth : Method} {c : Code} {Z : wZ} {A0 : Nat → Prop} {cells slots : Nat} {Q : State → Prop} (X : JX p s mi args meth c cL_law 7 RL Z A0) {b L : Nat} {xs : Nat → Int32} (hX : LSc s A0 b L xs) {i : Nat} (hO : zO Z = true) (hSt : hStr s) (hZ : hZq A0 s s.heap) {S S1 S2 : St} {h h1 : Hl} {r v : Int32} {fr lo fr6 lo6 : Nat} (hi : i + 4 ≤ L) (hW : Cw l yL_cached cL_cached 5 [(0, 10, 13, 30)] fr lo Z [.ref (zA Z (6) (0) (0)), .int (xs (i + 1)), .int (xs (i + 2)), .ref (zA Z 8 0 0)] S h r S1 h1) (hC : Ci l yX6_cached cX6_cached 3 .int fr6 lo6 Z [.ref (zA Z (7) (0) (0)), .int (xs (i + 1)), .int (xs (i + 2))] S1 h1 v S2 h1) (hf : fr + 1 ≤ 13 ∧ 8 + (5 + 11) + lo ≤ 504) (hf6 : fr6 + 1 ≤ 13 ∧ 8 + (3 + 11) + lo6 ≤ 504) (ht : S2 7 0 0 9 = r) (hv : r = 0 → h1 1 = v.toInt64) (hcs : cells + 1 ≤ 601024 ∧ slots + 6 ≤ 7293034) (k : J p l e room_1 s mi args below meth c 7 Z A0 (cells + 1) (slots + 6) Q S2 h1 [(0, .ref (b)), (1, .ref (zA Z (6) (0) (0))), (2, .ref (zA Z (7) (0) (0))), (3, .ref (zA Z 8 0 0)), (4, .int (nI (i)))] 1578 []) : J p l e room_1 s mi args below meth c 7 Z A0 cells slots Q S h [(0, .ref (b)), (1, .ref (zA Z (6) (0) (0))), (2, .ref (zA Z (7) (0) (0))), (3, .ref (zA Z 8 0 0)), (4, .int (nI (i)))] 777 [] := by
  refine j_aload_n X dL_law_777 rfl rfl (q := 1) rfl ?_
  refine j_aload_n X dL_law_778 rfl rfl (q := 0) rfl ?_
  refine j_iload X dL_law_779 rfl (q := 4) rfl ?_
  refine j_iconst X dL_law_781 rfl (v := 1) (by decide) ?_
  refine j_iadd X dL_law_782 rfl ?_
  refine j_topeq (y := nI (i + 1)) (nI_add i 1) ?_
  refine j_sld X hX (k := i + 1) (by omega) dL_law_783 rfl ?_
  refine j_aload_n X dL_law_784 rfl rfl (q := 0) rfl ?_
  refine j_iload X dL_law_785 rfl (q := 4) rfl ?_
  refine j_iconst X dL_law_787 rfl (v := 2) (by decide) ?_
  refine j_iadd X dL_law_788 rfl ?_
  refine j_topeq (y := nI (i + 2)) (nI_add i 2) ?_
  refine j_sld X hX (k := i + 2) (by omega) dL_law_789 rfl ?_
  refine j_aload_n X dL_law_790 rfl rfl (q := 3) rfl ?_
  refine j_callW X hSt hZ hW (List.mem_of_getElem? (i := 576) (by decide +kernel)) (List.mem_of_getElem? (i := 577) (by decide +kernel)) ini_RL (List.mem_of_getElem? (i := 578) (by decide +kernel)) (na := 4) ⟨rfl, by decide +kernel, by decide +kernel, by decide +kernel⟩ hf hcs rfl (Nat.le_of_ble_eq_true rfl) (as := [.ref (zA Z (6) (0) (0)), .int (xs (i + 1)), .int (xs (i + 2)), .ref (zA Z 8 0 0)]) (rest := []) rfl dL_law_791 rfl ?_
  refine j_istore X dL_law_794 rfl (by decide) (Ls2 := [(5, .int (r)), (0, .ref (b)), (1, .ref (zA Z (6) (0) (0))), (2, .ref (zA Z (7) (0) (0))), (3, .ref (zA Z 8 0 0)), (4, .int (nI (i)))]) rfl ?_
  refine j_aload_n X dL_law_796 rfl rfl (q := 3) rfl ?_
  refine j_aload_n X dL_law_797 rfl rfl (q := 1) rfl ?_
  refine j_iload X dL_law_798 rfl (q := 5) rfl ?_
  refine j_iconst X dL_law_800 rfl (v := 1) (by decide) ?_
  refine j_iadd X dL_law_801 rfl ?_
  refine j_topeq (y := nI (i + 1)) (nI_add i 1) ?_
  refine j_sld X hX (k := i + 1) (by omega) dL_law_802 rfl ?_
  refine j_aload_n X dL_law_803 rfl rfl (q := 1) rfl ?_
  refine j_iload X dL_law_804 rfl (q := 5) rfl ?_
  refine j_iconst X dL_law_806 rfl (v := 2) (by decide) ?_
  refine j_iadd X dL_law_807 rfl ?_
  refine j_topeq (y := nI (i + 2)) (nI_add i 2) ?_
  refine j_sld X hX (k := i + 2) (by omega) dL_law_808 rfl ?_
  refine j_calli X hC (wm_ref (by decide)) ((fun _ => rfl) _) rfl lk_RL_132 mi_X6_cached ms_X6_cached ini_RX6 mc_X6_cached md_X6_cached hf6 hcs rfl (Nat.le_of_ble_eq_true rfl) (as := [.int (xs (i + 1)), .int (xs (i + 2))]) (rest := []) rfl dL_law_809 rfl ?_
  refine j_istore X dL_law_812 rfl (by decide) (Ls2 := [(6, .int (v)), (5, .int (r)), (0, .ref (b)), (1, .ref (zA Z (6) (0) (0))), (2, .ref (zA Z (7) (0) (0))), (3, .ref (zA Z 8 0 0)), (4, .int (nI (i)))]) rfl ?_
  refine j_aload_n X dL_law_814 rfl rfl (q := 4) rfl ?_
  refine j_calli X (c_X6_thrown l Z S2 h1) (wm_ref (by decide)) ((fun _ => rfl) _) rfl lk_RL_94 mi_X6_thrown ms_X6_thrown ini_RX6 mc_X6_thrown md_X6_thrown ⟨Nat.le_of_ble_eq_true rfl, Nat.le_of_ble_eq_true rfl⟩ hcs rfl (Nat.le_of_ble_eq_true rfl) (as := []) (rest := []) rfl dL_law_815 rfl ?_
  refine j_topeq (y := r) ht ?_
  refine j_iload X dL_law_818 rfl (q := 1) rfl ?_
  refine j_icmp_eq_t X (tgt := 825) dL_law_820 (by decide) rfl ?_
  refine j_iload X dL_law_825 rfl (q := 1) rfl ?_
  refine j_if_ne X dL_law_827 rfl (tgt := 842) (by decide) (fun q0 => ?_) (fun q0 => ?_)
  · refine j_goto X (tgt := 1578) dL_law_842 (by decide) ?_
    refine j_sub [2, 3, 4, 5, 6] (Ls2 := [(0, .ref (b)), (1, .ref (zA Z (6) (0) (0))), (2, .ref (zA Z (7) (0) (0))), (3, .ref (zA Z 8 0 0)), (4, .int (nI (i)))]) rfl ?_
    exact k
  · refine j_aload_n X dL_law_830 rfl rfl (q := 5) rfl ?_
    refine j_iconst X dL_law_831 rfl (v := 0) (by decide) ?_
    refine j_lald X hO dL_law_832 rfl ?_
    refine j_iload X dL_law_833 rfl (q := 0) rfl ?_
    refine j_i2l X dL_law_835 rfl ?_
    refine j_lcmp X dL_law_836 rfl ?_
    refine j_if_eq_t X (tgt := 842) dL_law_837 (by decide) (by rw [hv q0]; exact lg_cmp_self _) ?_
    refine j_goto X (tgt := 1578) dL_law_842 (by decide) ?_
    refine j_sub [2, 3, 4, 5, 6] (Ls2 := [(0, .ref (b)), (1, .ref (zA Z (6) (0) (0))), (2, .ref (zA Z (7) (0) (0))), (3, .ref (zA Z 8 0 0)), (4, .int (nI (i)))]) rfl ?_
    exact k
set_option maxRecDepth 100000 in
set_option maxHeartbeats 4000000 in
theorem lc_memory {p : Program} {l : Launch} {e : Env} {s : State} {mi : MethodId} {args : Array Value} {below : List Frame} {meth : Method} {c : Code} {Z : wZ} {A0 : Nat → Prop} {cells slots : Nat} {Q : State → Prop} (X : JX p s mi args meth c cL_law 7 RL Z A0) {b L : Nat} {xs : Nat → Int32} (hX : LSc s A0 b L xs) {i : Nat} (hO : zO Z = true) (hSt : hStr s) (hZ : hZq A0 s s.heap) {S S1 S2 : St} {h h1 : Hl} {r v : Int32} {fr lo fr6 lo6 : Nat} (hi : i + 4 ≤ L) (hW : Cw l yL_memory cL_memory 5 [(0, 10, 13, 30)] fr lo Z [.ref (zA Z (6) (0) (0)), .int (xs (i + 1)), .int (bI (decide (xs (i + 2) ≠ 0))), .ref (zA Z 8 0 0)] S h r S1 h1) (hC : Ci l yX6_memory cX6_memory 3 .int fr6 lo6 Z [.ref (zA Z (7) (0) (0)), .int (xs (i + 1)), .int (bI (decide (xs (i + 2) ≠ 0)))] S1 h1 v S2 h1) (hf : fr + 1 ≤ 13 ∧ 8 + (5 + 11) + lo ≤ 504) (hf6 : fr6 + 1 ≤ 13 ∧ 8 + (3 + 11) + lo6 ≤ 504) (ht : S2 7 0 0 9 = r) (hv : r = 0 → h1 1 = v.toInt64) (hcs : cells + 1 ≤ 601024 ∧ slots + 6 ≤ 7293034) (k : J p l e room_1 s mi args below meth c 7 Z A0 (cells + 1) (slots + 6) Q S2 h1 [(0, .ref (b)), (1, .ref (zA Z (6) (0) (0))), (2, .ref (zA Z (7) (0) (0))), (3, .ref (zA Z 8 0 0)), (4, .int (nI (i)))] 1578 []) : J p l e room_1 s mi args below meth c 7 Z A0 cells slots Q S h [(0, .ref (b)), (1, .ref (zA Z (6) (0) (0))), (2, .ref (zA Z (7) (0) (0))), (3, .ref (zA Z 8 0 0)), (4, .int (nI (i)))] 845 [] := by
  refine j_aload_n X dL_law_845 rfl rfl (q := 1) rfl ?_
  refine j_aload_n X dL_law_846 rfl rfl (q := 0) rfl ?_
  refine j_iload X dL_law_847 rfl (q := 4) rfl ?_
  refine j_iconst X dL_law_849 rfl (v := 1) (by decide) ?_
  refine j_iadd X dL_law_850 rfl ?_
  refine j_topeq (y := nI (i + 1)) (nI_add i 1) ?_
  refine j_sld X hX (k := i + 1) (by omega) dL_law_851 rfl ?_
  refine j_aload_n X dL_law_852 rfl rfl (q := 0) rfl ?_
  refine j_iload X dL_law_853 rfl (q := 4) rfl ?_
  refine j_iconst X dL_law_855 rfl (v := 2) (by decide) ?_
  refine j_iadd X dL_law_856 rfl ?_
  refine j_topeq (y := nI (i + 2)) (nI_add i 2) ?_
  refine j_sld X hX (k := i + 2) (by omega) dL_law_857 rfl ?_
  refine j_neB X dL_law_858 dL_law_861 dL_law_862 dL_law_865 rfl ?_
  refine j_aload_n X dL_law_866 rfl rfl (q := 3) rfl ?_
  refine j_callW X hSt hZ hW (List.mem_of_getElem? (i := 587) (by decide +kernel)) (List.mem_of_getElem? (i := 588) (by decide +kernel)) ini_RL (List.mem_of_getElem? (i := 589) (by decide +kernel)) (na := 4) ⟨rfl, by decide +kernel, by decide +kernel, by decide +kernel⟩ hf hcs rfl (Nat.le_of_ble_eq_true rfl) (as := [.ref (zA Z (6) (0) (0)), .int (xs (i + 1)), .int (bI (decide (xs (i + 2) ≠ 0))), .ref (zA Z 8 0 0)]) (rest := []) rfl dL_law_867 rfl ?_
  refine j_istore X dL_law_870 rfl (by decide) (Ls2 := [(5, .int (r)), (0, .ref (b)), (1, .ref (zA Z (6) (0) (0))), (2, .ref (zA Z (7) (0) (0))), (3, .ref (zA Z 8 0 0)), (4, .int (nI (i)))]) rfl ?_
  refine j_aload_n X dL_law_872 rfl rfl (q := 3) rfl ?_
  refine j_aload_n X dL_law_873 rfl rfl (q := 1) rfl ?_
  refine j_iload X dL_law_874 rfl (q := 5) rfl ?_
  refine j_iconst X dL_law_876 rfl (v := 1) (by decide) ?_
  refine j_iadd X dL_law_877 rfl ?_
  refine j_topeq (y := nI (i + 1)) (nI_add i 1) ?_
  refine j_sld X hX (k := i + 1) (by omega) dL_law_878 rfl ?_
  refine j_aload_n X dL_law_879 rfl rfl (q := 1) rfl ?_
  refine j_iload X dL_law_880 rfl (q := 5) rfl ?_
  refine j_iconst X dL_law_882 rfl (v := 2) (by decide) ?_
  refine j_iadd X dL_law_883 rfl ?_
  refine j_topeq (y := nI (i + 2)) (nI_add i 2) ?_
  refine j_sld X hX (k := i + 2) (by omega) dL_law_884 rfl ?_
  refine j_neB X dL_law_885 dL_law_888 dL_law_889 dL_law_892 rfl ?_
  refine j_calli X hC (wm_ref (by decide)) ((fun _ => rfl) _) rfl lk_RL_136 mi_X6_memory ms_X6_memory ini_RX6 mc_X6_memory md_X6_memory hf6 hcs rfl (Nat.le_of_ble_eq_true rfl) (as := [.int (xs (i + 1)), .int (bI (decide (xs (i + 2) ≠ 0)))]) (rest := []) rfl dL_law_893 rfl ?_
  refine j_istore X dL_law_896 rfl (by decide) (Ls2 := [(6, .int (v)), (5, .int (r)), (0, .ref (b)), (1, .ref (zA Z (6) (0) (0))), (2, .ref (zA Z (7) (0) (0))), (3, .ref (zA Z 8 0 0)), (4, .int (nI (i)))]) rfl ?_
  refine j_aload_n X dL_law_898 rfl rfl (q := 4) rfl ?_
  refine j_calli X (c_X6_thrown l Z S2 h1) (wm_ref (by decide)) ((fun _ => rfl) _) rfl lk_RL_94 mi_X6_thrown ms_X6_thrown ini_RX6 mc_X6_thrown md_X6_thrown ⟨Nat.le_of_ble_eq_true rfl, Nat.le_of_ble_eq_true rfl⟩ hcs rfl (Nat.le_of_ble_eq_true rfl) (as := []) (rest := []) rfl dL_law_899 rfl ?_
  refine j_topeq (y := r) ht ?_
  refine j_iload X dL_law_902 rfl (q := 1) rfl ?_
  refine j_icmp_eq_t X (tgt := 909) dL_law_904 (by decide) rfl ?_
  refine j_iload X dL_law_909 rfl (q := 1) rfl ?_
  refine j_if_ne X dL_law_911 rfl (tgt := 926) (by decide) (fun q0 => ?_) (fun q0 => ?_)
  · refine j_goto X (tgt := 1578) dL_law_926 (by decide) ?_
    refine j_sub [2, 3, 4, 5, 6] (Ls2 := [(0, .ref (b)), (1, .ref (zA Z (6) (0) (0))), (2, .ref (zA Z (7) (0) (0))), (3, .ref (zA Z 8 0 0)), (4, .int (nI (i)))]) rfl ?_
    exact k
  · refine j_aload_n X dL_law_914 rfl rfl (q := 5) rfl ?_
    refine j_iconst X dL_law_915 rfl (v := 0) (by decide) ?_
    refine j_lald X hO dL_law_916 rfl ?_
    refine j_iload X dL_law_917 rfl (q := 0) rfl ?_
    refine j_i2l X dL_law_919 rfl ?_
    refine j_lcmp X dL_law_920 rfl ?_
    refine j_if_eq_t X (tgt := 926) dL_law_921 (by decide) (by rw [hv q0]; exact lg_cmp_self _) ?_
    refine j_goto X (tgt := 1578) dL_law_926 (by decide) ?_
    refine j_sub [2, 3, 4, 5, 6] (Ls2 := [(0, .ref (b)), (1, .ref (zA Z (6) (0) (0))), (2, .ref (zA Z (7) (0) (0))), (3, .ref (zA Z 8 0 0)), (4, .int (nI (i)))]) rfl ?_
    exact k
set_option maxRecDepth 100000 in
set_option maxHeartbeats 4000000 in
theorem lc_set {p : Program} {l : Launch} {e : Env} {s : State} {mi : MethodId} {args : Array Value} {below : List Frame} {meth : Method} {c : Code} {Z : wZ} {A0 : Nat → Prop} {cells slots : Nat} {Q : State → Prop} (X : JX p s mi args meth c cL_law 7 RL Z A0) {b L : Nat} {xs : Nat → Int32} (hX : LSc s A0 b L xs) {i : Nat} (hO : zO Z = true) (hSt : hStr s) (hZ : hZq A0 s s.heap) {S S1 S2 : St} {h h1 : Hl} {r v : Int32} {fr lo fr6 lo6 : Nat} (hi : i + 4 ≤ L) (hW : Cw l yL_set cL_set 5 [(0, 10, 13, 30)] fr lo Z [.ref (zA Z (6) (0) (0)), .int (xs (i + 1)), .int (bI (decide (xs (i + 2) ≠ 0))), .ref (zA Z 8 0 0)] S h r S1 h1) (hC : Ci l yX6_set cX6_set 3 .int fr6 lo6 Z [.ref (zA Z (7) (0) (0)), .int (xs (i + 1)), .int (bI (decide (xs (i + 2) ≠ 0)))] S1 h1 v S2 h1) (hf : fr + 1 ≤ 13 ∧ 8 + (5 + 11) + lo ≤ 504) (hf6 : fr6 + 1 ≤ 13 ∧ 8 + (3 + 11) + lo6 ≤ 504) (ht : S2 7 0 0 9 = r) (hv : r = 0 → h1 1 = v.toInt64) (hcs : cells + 1 ≤ 601024 ∧ slots + 6 ≤ 7293034) (k : J p l e room_1 s mi args below meth c 7 Z A0 (cells + 1) (slots + 6) Q S2 h1 [(0, .ref (b)), (1, .ref (zA Z (6) (0) (0))), (2, .ref (zA Z (7) (0) (0))), (3, .ref (zA Z 8 0 0)), (4, .int (nI (i)))] 1578 []) : J p l e room_1 s mi args below meth c 7 Z A0 cells slots Q S h [(0, .ref (b)), (1, .ref (zA Z (6) (0) (0))), (2, .ref (zA Z (7) (0) (0))), (3, .ref (zA Z 8 0 0)), (4, .int (nI (i)))] 929 [] := by
  refine j_aload_n X dL_law_929 rfl rfl (q := 1) rfl ?_
  refine j_aload_n X dL_law_930 rfl rfl (q := 0) rfl ?_
  refine j_iload X dL_law_931 rfl (q := 4) rfl ?_
  refine j_iconst X dL_law_933 rfl (v := 1) (by decide) ?_
  refine j_iadd X dL_law_934 rfl ?_
  refine j_topeq (y := nI (i + 1)) (nI_add i 1) ?_
  refine j_sld X hX (k := i + 1) (by omega) dL_law_935 rfl ?_
  refine j_aload_n X dL_law_936 rfl rfl (q := 0) rfl ?_
  refine j_iload X dL_law_937 rfl (q := 4) rfl ?_
  refine j_iconst X dL_law_939 rfl (v := 2) (by decide) ?_
  refine j_iadd X dL_law_940 rfl ?_
  refine j_topeq (y := nI (i + 2)) (nI_add i 2) ?_
  refine j_sld X hX (k := i + 2) (by omega) dL_law_941 rfl ?_
  refine j_neB X dL_law_942 dL_law_945 dL_law_946 dL_law_949 rfl ?_
  refine j_aload_n X dL_law_950 rfl rfl (q := 3) rfl ?_
  refine j_callW X hSt hZ hW (List.mem_of_getElem? (i := 605) (by decide +kernel)) (List.mem_of_getElem? (i := 606) (by decide +kernel)) ini_RL (List.mem_of_getElem? (i := 607) (by decide +kernel)) (na := 4) ⟨rfl, by decide +kernel, by decide +kernel, by decide +kernel⟩ hf hcs rfl (Nat.le_of_ble_eq_true rfl) (as := [.ref (zA Z (6) (0) (0)), .int (xs (i + 1)), .int (bI (decide (xs (i + 2) ≠ 0))), .ref (zA Z 8 0 0)]) (rest := []) rfl dL_law_951 rfl ?_
  refine j_istore X dL_law_954 rfl (by decide) (Ls2 := [(5, .int (r)), (0, .ref (b)), (1, .ref (zA Z (6) (0) (0))), (2, .ref (zA Z (7) (0) (0))), (3, .ref (zA Z 8 0 0)), (4, .int (nI (i)))]) rfl ?_
  refine j_aload_n X dL_law_956 rfl rfl (q := 3) rfl ?_
  refine j_aload_n X dL_law_957 rfl rfl (q := 1) rfl ?_
  refine j_iload X dL_law_958 rfl (q := 5) rfl ?_
  refine j_iconst X dL_law_960 rfl (v := 1) (by decide) ?_
  refine j_iadd X dL_law_961 rfl ?_
  refine j_topeq (y := nI (i + 1)) (nI_add i 1) ?_
  refine j_sld X hX (k := i + 1) (by omega) dL_law_962 rfl ?_
  refine j_aload_n X dL_law_963 rfl rfl (q := 1) rfl ?_
  refine j_iload X dL_law_964 rfl (q := 5) rfl ?_
  refine j_iconst X dL_law_966 rfl (v := 2) (by decide) ?_
  refine j_iadd X dL_law_967 rfl ?_
  refine j_topeq (y := nI (i + 2)) (nI_add i 2) ?_
  refine j_sld X hX (k := i + 2) (by omega) dL_law_968 rfl ?_
  refine j_neB X dL_law_969 dL_law_972 dL_law_973 dL_law_976 rfl ?_
  refine j_calli X hC (wm_ref (by decide)) ((fun _ => rfl) _) rfl lk_RL_139 mi_X6_set ms_X6_set ini_RX6 mc_X6_set md_X6_set hf6 hcs rfl (Nat.le_of_ble_eq_true rfl) (as := [.int (xs (i + 1)), .int (bI (decide (xs (i + 2) ≠ 0)))]) (rest := []) rfl dL_law_977 rfl ?_
  refine j_istore X dL_law_980 rfl (by decide) (Ls2 := [(6, .int (v)), (5, .int (r)), (0, .ref (b)), (1, .ref (zA Z (6) (0) (0))), (2, .ref (zA Z (7) (0) (0))), (3, .ref (zA Z 8 0 0)), (4, .int (nI (i)))]) rfl ?_
  refine j_aload_n X dL_law_982 rfl rfl (q := 4) rfl ?_
  refine j_calli X (c_X6_thrown l Z S2 h1) (wm_ref (by decide)) ((fun _ => rfl) _) rfl lk_RL_94 mi_X6_thrown ms_X6_thrown ini_RX6 mc_X6_thrown md_X6_thrown ⟨Nat.le_of_ble_eq_true rfl, Nat.le_of_ble_eq_true rfl⟩ hcs rfl (Nat.le_of_ble_eq_true rfl) (as := []) (rest := []) rfl dL_law_983 rfl ?_
  refine j_topeq (y := r) ht ?_
  refine j_iload X dL_law_986 rfl (q := 1) rfl ?_
  refine j_icmp_eq_t X (tgt := 993) dL_law_988 (by decide) rfl ?_
  refine j_iload X dL_law_993 rfl (q := 1) rfl ?_
  refine j_if_ne X dL_law_995 rfl (tgt := 1010) (by decide) (fun q0 => ?_) (fun q0 => ?_)
  · refine j_goto X (tgt := 1578) dL_law_1010 (by decide) ?_
    refine j_sub [2, 3, 4, 5, 6] (Ls2 := [(0, .ref (b)), (1, .ref (zA Z (6) (0) (0))), (2, .ref (zA Z (7) (0) (0))), (3, .ref (zA Z 8 0 0)), (4, .int (nI (i)))]) rfl ?_
    exact k
  · refine j_aload_n X dL_law_998 rfl rfl (q := 5) rfl ?_
    refine j_iconst X dL_law_999 rfl (v := 0) (by decide) ?_
    refine j_lald X hO dL_law_1000 rfl ?_
    refine j_iload X dL_law_1001 rfl (q := 0) rfl ?_
    refine j_i2l X dL_law_1003 rfl ?_
    refine j_lcmp X dL_law_1004 rfl ?_
    refine j_if_eq_t X (tgt := 1010) dL_law_1005 (by decide) (by rw [hv q0]; exact lg_cmp_self _) ?_
    refine j_goto X (tgt := 1578) dL_law_1010 (by decide) ?_
    refine j_sub [2, 3, 4, 5, 6] (Ls2 := [(0, .ref (b)), (1, .ref (zA Z (6) (0) (0))), (2, .ref (zA Z (7) (0) (0))), (3, .ref (zA Z 8 0 0)), (4, .int (nI (i)))]) rfl ?_
    exact k
set_option maxRecDepth 100000 in
set_option maxHeartbeats 4000000 in
theorem lc_core {p : Program} {l : Launch} {e : Env} {s : State} {mi : MethodId} {args : Array Value} {below : List Frame} {meth : Method} {c : Code} {Z : wZ} {A0 : Nat → Prop} {cells slots : Nat} {Q : State → Prop} (X : JX p s mi args meth c cL_law 7 RL Z A0) {b L : Nat} {xs : Nat → Int32} (hX : LSc s A0 b L xs) {i : Nat} (hO : zO Z = true) (hSt : hStr s) (hZ : hZq A0 s s.heap) {S S1 S2 : St} {h h1 : Hl} {r v : Int32} {fr lo fr6 lo6 : Nat} (hi : i + 4 ≤ L) (hW : Cw l yL_core cL_core 5 [(0, 10, 13, 30), (0, 10, 17, 13)] fr lo Z [.ref (zA Z (6) (0) (0)), .int (xs (i + 1)), .int (xs (i + 2)), .ref (zA Z 8 0 0)] S h r S1 h1) (hC : Ci l yX6_core cX6_core 3 .int fr6 lo6 Z [.ref (zA Z (7) (0) (0)), .int (xs (i + 1)), .int (xs (i + 2))] S1 h1 v S2 h1) (hf : fr + 1 ≤ 13 ∧ 8 + (5 + 11) + lo ≤ 504) (hf6 : fr6 + 1 ≤ 13 ∧ 8 + (3 + 11) + lo6 ≤ 504) (ht : S2 7 0 0 9 = r) (hv : r = 0 → h1 1 = v.toInt64) (hcs : cells + 1 ≤ 601024 ∧ slots + 6 ≤ 7293034) (k : J p l e room_1 s mi args below meth c 7 Z A0 (cells + 1) (slots + 6) Q S2 h1 [(0, .ref (b)), (1, .ref (zA Z (6) (0) (0))), (2, .ref (zA Z (7) (0) (0))), (3, .ref (zA Z 8 0 0)), (4, .int (nI (i)))] 1578 []) : J p l e room_1 s mi args below meth c 7 Z A0 cells slots Q S h [(0, .ref (b)), (1, .ref (zA Z (6) (0) (0))), (2, .ref (zA Z (7) (0) (0))), (3, .ref (zA Z 8 0 0)), (4, .int (nI (i)))] 1013 [] := by
  refine j_aload_n X dL_law_1013 rfl rfl (q := 1) rfl ?_
  refine j_aload_n X dL_law_1014 rfl rfl (q := 0) rfl ?_
  refine j_iload X dL_law_1015 rfl (q := 4) rfl ?_
  refine j_iconst X dL_law_1017 rfl (v := 1) (by decide) ?_
  refine j_iadd X dL_law_1018 rfl ?_
  refine j_topeq (y := nI (i + 1)) (nI_add i 1) ?_
  refine j_sld X hX (k := i + 1) (by omega) dL_law_1019 rfl ?_
  refine j_aload_n X dL_law_1020 rfl rfl (q := 0) rfl ?_
  refine j_iload X dL_law_1021 rfl (q := 4) rfl ?_
  refine j_iconst X dL_law_1023 rfl (v := 2) (by decide) ?_
  refine j_iadd X dL_law_1024 rfl ?_
  refine j_topeq (y := nI (i + 2)) (nI_add i 2) ?_
  refine j_sld X hX (k := i + 2) (by omega) dL_law_1025 rfl ?_
  refine j_aload_n X dL_law_1026 rfl rfl (q := 3) rfl ?_
  refine j_callW X hSt hZ hW (List.mem_of_getElem? (i := 616) (by decide +kernel)) (List.mem_of_getElem? (i := 617) (by decide +kernel)) ini_RL (List.mem_of_getElem? (i := 618) (by decide +kernel)) (na := 4) ⟨rfl, by decide +kernel, by decide +kernel, by decide +kernel⟩ hf hcs rfl (Nat.le_of_ble_eq_true rfl) (as := [.ref (zA Z (6) (0) (0)), .int (xs (i + 1)), .int (xs (i + 2)), .ref (zA Z 8 0 0)]) (rest := []) rfl dL_law_1027 rfl ?_
  refine j_istore X dL_law_1030 rfl (by decide) (Ls2 := [(5, .int (r)), (0, .ref (b)), (1, .ref (zA Z (6) (0) (0))), (2, .ref (zA Z (7) (0) (0))), (3, .ref (zA Z 8 0 0)), (4, .int (nI (i)))]) rfl ?_
  refine j_aload_n X dL_law_1032 rfl rfl (q := 3) rfl ?_
  refine j_aload_n X dL_law_1033 rfl rfl (q := 1) rfl ?_
  refine j_iload X dL_law_1034 rfl (q := 5) rfl ?_
  refine j_iconst X dL_law_1036 rfl (v := 1) (by decide) ?_
  refine j_iadd X dL_law_1037 rfl ?_
  refine j_topeq (y := nI (i + 1)) (nI_add i 1) ?_
  refine j_sld X hX (k := i + 1) (by omega) dL_law_1038 rfl ?_
  refine j_aload_n X dL_law_1039 rfl rfl (q := 1) rfl ?_
  refine j_iload X dL_law_1040 rfl (q := 5) rfl ?_
  refine j_iconst X dL_law_1042 rfl (v := 2) (by decide) ?_
  refine j_iadd X dL_law_1043 rfl ?_
  refine j_topeq (y := nI (i + 2)) (nI_add i 2) ?_
  refine j_sld X hX (k := i + 2) (by omega) dL_law_1044 rfl ?_
  refine j_calli X hC (wm_ref (by decide)) ((fun _ => rfl) _) rfl lk_RL_142 mi_X6_core ms_X6_core ini_RX6 mc_X6_core md_X6_core hf6 hcs rfl (Nat.le_of_ble_eq_true rfl) (as := [.int (xs (i + 1)), .int (xs (i + 2))]) (rest := []) rfl dL_law_1045 rfl ?_
  refine j_istore X dL_law_1048 rfl (by decide) (Ls2 := [(6, .int (v)), (5, .int (r)), (0, .ref (b)), (1, .ref (zA Z (6) (0) (0))), (2, .ref (zA Z (7) (0) (0))), (3, .ref (zA Z 8 0 0)), (4, .int (nI (i)))]) rfl ?_
  refine j_aload_n X dL_law_1050 rfl rfl (q := 4) rfl ?_
  refine j_calli X (c_X6_thrown l Z S2 h1) (wm_ref (by decide)) ((fun _ => rfl) _) rfl lk_RL_94 mi_X6_thrown ms_X6_thrown ini_RX6 mc_X6_thrown md_X6_thrown ⟨Nat.le_of_ble_eq_true rfl, Nat.le_of_ble_eq_true rfl⟩ hcs rfl (Nat.le_of_ble_eq_true rfl) (as := []) (rest := []) rfl dL_law_1051 rfl ?_
  refine j_topeq (y := r) ht ?_
  refine j_iload X dL_law_1054 rfl (q := 1) rfl ?_
  refine j_icmp_eq_t X (tgt := 1061) dL_law_1056 (by decide) rfl ?_
  refine j_iload X dL_law_1061 rfl (q := 1) rfl ?_
  refine j_if_ne X dL_law_1063 rfl (tgt := 1078) (by decide) (fun q0 => ?_) (fun q0 => ?_)
  · refine j_goto X (tgt := 1578) dL_law_1078 (by decide) ?_
    refine j_sub [2, 3, 4, 5, 6] (Ls2 := [(0, .ref (b)), (1, .ref (zA Z (6) (0) (0))), (2, .ref (zA Z (7) (0) (0))), (3, .ref (zA Z 8 0 0)), (4, .int (nI (i)))]) rfl ?_
    exact k
  · refine j_aload_n X dL_law_1066 rfl rfl (q := 5) rfl ?_
    refine j_iconst X dL_law_1067 rfl (v := 0) (by decide) ?_
    refine j_lald X hO dL_law_1068 rfl ?_
    refine j_iload X dL_law_1069 rfl (q := 0) rfl ?_
    refine j_i2l X dL_law_1071 rfl ?_
    refine j_lcmp X dL_law_1072 rfl ?_
    refine j_if_eq_t X (tgt := 1078) dL_law_1073 (by decide) (by rw [hv q0]; exact lg_cmp_self _) ?_
    refine j_goto X (tgt := 1578) dL_law_1078 (by decide) ?_
    refine j_sub [2, 3, 4, 5, 6] (Ls2 := [(0, .ref (b)), (1, .ref (zA Z (6) (0) (0))), (2, .ref (zA Z (7) (0) (0))), (3, .ref (zA Z 8 0 0)), (4, .int (nI (i)))]) rfl ?_
    exact k
set_option maxRecDepth 100000 in
set_option maxHeartbeats 4000000 in
theorem lc_value {p : Program} {l : Launch} {e : Env} {s : State} {mi : MethodId} {args : Array Value} {below : List Frame} {meth : Method} {c : Code} {Z : wZ} {A0 : Nat → Prop} {cells slots : Nat} {Q : State → Prop} (X : JX p s mi args meth c cL_law 7 RL Z A0) {b L : Nat} {xs : Nat → Int32} (hX : LSc s A0 b L xs) {i : Nat} (hO : zO Z = true) (hSt : hStr s) (hZ : hZq A0 s s.heap) {S S1 S2 : St} {h h1 : Hl} {r v : Int32} {fr lo fr6 lo6 : Nat} (hi : i + 4 ≤ L) (hW : Cw l yL_value cL_value 4 [(0, 9, 12, 13)] fr lo Z [.ref (zA Z (6) (0) (0)), .int (xs (i + 1)), .ref (zA Z 8 0 0)] S h r S1 h1) (hC : Ci l yX6_value cX6_value 2 .int fr6 lo6 Z [.ref (zA Z (7) (0) (0)), .int (xs (i + 1))] S1 h1 v S2 h1) (hf : fr + 1 ≤ 13 ∧ 8 + (4 + 11) + lo ≤ 504) (hf6 : fr6 + 1 ≤ 13 ∧ 8 + (2 + 11) + lo6 ≤ 504) (ht : S2 7 0 0 9 = r) (hv : r = 0 → h1 1 = v.toInt64) (hcs : cells + 1 ≤ 601024 ∧ slots + 6 ≤ 7293034) (k : J p l e room_1 s mi args below meth c 7 Z A0 (cells + 1) (slots + 6) Q S2 h1 [(0, .ref (b)), (1, .ref (zA Z (6) (0) (0))), (2, .ref (zA Z (7) (0) (0))), (3, .ref (zA Z 8 0 0)), (4, .int (nI (i)))] 1578 []) : J p l e room_1 s mi args below meth c 7 Z A0 cells slots Q S h [(0, .ref (b)), (1, .ref (zA Z (6) (0) (0))), (2, .ref (zA Z (7) (0) (0))), (3, .ref (zA Z 8 0 0)), (4, .int (nI (i)))] 1081 [] := by
  refine j_aload_n X dL_law_1081 rfl rfl (q := 1) rfl ?_
  refine j_aload_n X dL_law_1082 rfl rfl (q := 0) rfl ?_
  refine j_iload X dL_law_1083 rfl (q := 4) rfl ?_
  refine j_iconst X dL_law_1085 rfl (v := 1) (by decide) ?_
  refine j_iadd X dL_law_1086 rfl ?_
  refine j_topeq (y := nI (i + 1)) (nI_add i 1) ?_
  refine j_sld X hX (k := i + 1) (by omega) dL_law_1087 rfl ?_
  refine j_aload_n X dL_law_1088 rfl rfl (q := 3) rfl ?_
  refine j_callW X hSt hZ hW (List.mem_of_getElem? (i := 634) (by decide +kernel)) (List.mem_of_getElem? (i := 635) (by decide +kernel)) ini_RL (List.mem_of_getElem? (i := 636) (by decide +kernel)) (na := 3) ⟨rfl, by decide +kernel, by decide +kernel, by decide +kernel⟩ hf hcs rfl (Nat.le_of_ble_eq_true rfl) (as := [.ref (zA Z (6) (0) (0)), .int (xs (i + 1)), .ref (zA Z 8 0 0)]) (rest := []) rfl dL_law_1089 rfl ?_
  refine j_istore X dL_law_1092 rfl (by decide) (Ls2 := [(5, .int (r)), (0, .ref (b)), (1, .ref (zA Z (6) (0) (0))), (2, .ref (zA Z (7) (0) (0))), (3, .ref (zA Z 8 0 0)), (4, .int (nI (i)))]) rfl ?_
  refine j_aload_n X dL_law_1094 rfl rfl (q := 3) rfl ?_
  refine j_aload_n X dL_law_1095 rfl rfl (q := 1) rfl ?_
  refine j_iload X dL_law_1096 rfl (q := 5) rfl ?_
  refine j_iconst X dL_law_1098 rfl (v := 1) (by decide) ?_
  refine j_iadd X dL_law_1099 rfl ?_
  refine j_topeq (y := nI (i + 1)) (nI_add i 1) ?_
  refine j_sld X hX (k := i + 1) (by omega) dL_law_1100 rfl ?_
  refine j_calli X hC (wm_ref (by decide)) ((fun _ => rfl) _) rfl lk_RL_145 mi_X6_value ms_X6_value ini_RX6 mc_X6_value md_X6_value hf6 hcs rfl (Nat.le_of_ble_eq_true rfl) (as := [.int (xs (i + 1))]) (rest := []) rfl dL_law_1101 rfl ?_
  refine j_istore X dL_law_1104 rfl (by decide) (Ls2 := [(6, .int (v)), (5, .int (r)), (0, .ref (b)), (1, .ref (zA Z (6) (0) (0))), (2, .ref (zA Z (7) (0) (0))), (3, .ref (zA Z 8 0 0)), (4, .int (nI (i)))]) rfl ?_
  refine j_aload_n X dL_law_1106 rfl rfl (q := 4) rfl ?_
  refine j_calli X (c_X6_thrown l Z S2 h1) (wm_ref (by decide)) ((fun _ => rfl) _) rfl lk_RL_94 mi_X6_thrown ms_X6_thrown ini_RX6 mc_X6_thrown md_X6_thrown ⟨Nat.le_of_ble_eq_true rfl, Nat.le_of_ble_eq_true rfl⟩ hcs rfl (Nat.le_of_ble_eq_true rfl) (as := []) (rest := []) rfl dL_law_1107 rfl ?_
  refine j_topeq (y := r) ht ?_
  refine j_iload X dL_law_1110 rfl (q := 1) rfl ?_
  refine j_icmp_eq_t X (tgt := 1117) dL_law_1112 (by decide) rfl ?_
  refine j_iload X dL_law_1117 rfl (q := 1) rfl ?_
  refine j_if_ne X dL_law_1119 rfl (tgt := 1134) (by decide) (fun q0 => ?_) (fun q0 => ?_)
  · refine j_goto X (tgt := 1578) dL_law_1134 (by decide) ?_
    refine j_sub [2, 3, 4, 5, 6] (Ls2 := [(0, .ref (b)), (1, .ref (zA Z (6) (0) (0))), (2, .ref (zA Z (7) (0) (0))), (3, .ref (zA Z 8 0 0)), (4, .int (nI (i)))]) rfl ?_
    exact k
  · refine j_aload_n X dL_law_1122 rfl rfl (q := 5) rfl ?_
    refine j_iconst X dL_law_1123 rfl (v := 0) (by decide) ?_
    refine j_lald X hO dL_law_1124 rfl ?_
    refine j_iload X dL_law_1125 rfl (q := 0) rfl ?_
    refine j_i2l X dL_law_1127 rfl ?_
    refine j_lcmp X dL_law_1128 rfl ?_
    refine j_if_eq_t X (tgt := 1134) dL_law_1129 (by decide) (by rw [hv q0]; exact lg_cmp_self _) ?_
    refine j_goto X (tgt := 1578) dL_law_1134 (by decide) ?_
    refine j_sub [2, 3, 4, 5, 6] (Ls2 := [(0, .ref (b)), (1, .ref (zA Z (6) (0) (0))), (2, .ref (zA Z (7) (0) (0))), (3, .ref (zA Z 8 0 0)), (4, .int (nI (i)))]) rfl ?_
    exact k
set_option maxRecDepth 100000 in
set_option maxHeartbeats 4000000 in
theorem lc_counter {p : Program} {l : Launch} {e : Env} {s : State} {mi : MethodId} {args : Array Value} {below : List Frame} {meth : Method} {c : Code} {Z : wZ} {A0 : Nat → Prop} {cells slots : Nat} {Q : State → Prop} (X : JX p s mi args meth c cL_law 7 RL Z A0) {b L : Nat} {xs : Nat → Int32} (hX : LSc s A0 b L xs) {i : Nat} (hO : zO Z = true) (hSt : hStr s) (hZ : hZq A0 s s.heap) {S S1 S2 : St} {h h1 : Hl} {r v : Int32} {fr lo fr6 lo6 : Nat} (hi : i + 4 ≤ L) (hW : Cw l yL_counter cL_counter 4 [(0, 9, 12, 13)] fr lo Z [.ref (zA Z (6) (0) (0)), .int (xs (i + 1)), .ref (zA Z 8 0 0)] S h r S1 h1) (hC : Ci l yX6_counter cX6_counter 2 .int fr6 lo6 Z [.ref (zA Z (7) (0) (0)), .int (xs (i + 1))] S1 h1 v S2 h1) (hf : fr + 1 ≤ 13 ∧ 8 + (4 + 11) + lo ≤ 504) (hf6 : fr6 + 1 ≤ 13 ∧ 8 + (2 + 11) + lo6 ≤ 504) (ht : S2 7 0 0 9 = r) (hv : r = 0 → h1 1 = v.toInt64) (hcs : cells + 1 ≤ 601024 ∧ slots + 6 ≤ 7293034) (k : J p l e room_1 s mi args below meth c 7 Z A0 (cells + 1) (slots + 6) Q S2 h1 [(0, .ref (b)), (1, .ref (zA Z (6) (0) (0))), (2, .ref (zA Z (7) (0) (0))), (3, .ref (zA Z 8 0 0)), (4, .int (nI (i)))] 1578 []) : J p l e room_1 s mi args below meth c 7 Z A0 cells slots Q S h [(0, .ref (b)), (1, .ref (zA Z (6) (0) (0))), (2, .ref (zA Z (7) (0) (0))), (3, .ref (zA Z 8 0 0)), (4, .int (nI (i)))] 1137 [] := by
  refine j_aload_n X dL_law_1137 rfl rfl (q := 1) rfl ?_
  refine j_aload_n X dL_law_1138 rfl rfl (q := 0) rfl ?_
  refine j_iload X dL_law_1139 rfl (q := 4) rfl ?_
  refine j_iconst X dL_law_1141 rfl (v := 1) (by decide) ?_
  refine j_iadd X dL_law_1142 rfl ?_
  refine j_topeq (y := nI (i + 1)) (nI_add i 1) ?_
  refine j_sld X hX (k := i + 1) (by omega) dL_law_1143 rfl ?_
  refine j_aload_n X dL_law_1144 rfl rfl (q := 3) rfl ?_
  refine j_callW X hSt hZ hW (List.mem_of_getElem? (i := 652) (by decide +kernel)) (List.mem_of_getElem? (i := 653) (by decide +kernel)) ini_RL (List.mem_of_getElem? (i := 654) (by decide +kernel)) (na := 3) ⟨rfl, by decide +kernel, by decide +kernel, by decide +kernel⟩ hf hcs rfl (Nat.le_of_ble_eq_true rfl) (as := [.ref (zA Z (6) (0) (0)), .int (xs (i + 1)), .ref (zA Z 8 0 0)]) (rest := []) rfl dL_law_1145 rfl ?_
  refine j_istore X dL_law_1148 rfl (by decide) (Ls2 := [(5, .int (r)), (0, .ref (b)), (1, .ref (zA Z (6) (0) (0))), (2, .ref (zA Z (7) (0) (0))), (3, .ref (zA Z 8 0 0)), (4, .int (nI (i)))]) rfl ?_
  refine j_aload_n X dL_law_1150 rfl rfl (q := 3) rfl ?_
  refine j_aload_n X dL_law_1151 rfl rfl (q := 1) rfl ?_
  refine j_iload X dL_law_1152 rfl (q := 5) rfl ?_
  refine j_iconst X dL_law_1154 rfl (v := 1) (by decide) ?_
  refine j_iadd X dL_law_1155 rfl ?_
  refine j_topeq (y := nI (i + 1)) (nI_add i 1) ?_
  refine j_sld X hX (k := i + 1) (by omega) dL_law_1156 rfl ?_
  refine j_calli X hC (wm_ref (by decide)) ((fun _ => rfl) _) rfl lk_RL_148 mi_X6_counter ms_X6_counter ini_RX6 mc_X6_counter md_X6_counter hf6 hcs rfl (Nat.le_of_ble_eq_true rfl) (as := [.int (xs (i + 1))]) (rest := []) rfl dL_law_1157 rfl ?_
  refine j_istore X dL_law_1160 rfl (by decide) (Ls2 := [(6, .int (v)), (5, .int (r)), (0, .ref (b)), (1, .ref (zA Z (6) (0) (0))), (2, .ref (zA Z (7) (0) (0))), (3, .ref (zA Z 8 0 0)), (4, .int (nI (i)))]) rfl ?_
  refine j_aload_n X dL_law_1162 rfl rfl (q := 4) rfl ?_
  refine j_calli X (c_X6_thrown l Z S2 h1) (wm_ref (by decide)) ((fun _ => rfl) _) rfl lk_RL_94 mi_X6_thrown ms_X6_thrown ini_RX6 mc_X6_thrown md_X6_thrown ⟨Nat.le_of_ble_eq_true rfl, Nat.le_of_ble_eq_true rfl⟩ hcs rfl (Nat.le_of_ble_eq_true rfl) (as := []) (rest := []) rfl dL_law_1163 rfl ?_
  refine j_topeq (y := r) ht ?_
  refine j_iload X dL_law_1166 rfl (q := 1) rfl ?_
  refine j_icmp_eq_t X (tgt := 1173) dL_law_1168 (by decide) rfl ?_
  refine j_iload X dL_law_1173 rfl (q := 1) rfl ?_
  refine j_if_ne X dL_law_1175 rfl (tgt := 1190) (by decide) (fun q0 => ?_) (fun q0 => ?_)
  · refine j_goto X (tgt := 1578) dL_law_1190 (by decide) ?_
    refine j_sub [2, 3, 4, 5, 6] (Ls2 := [(0, .ref (b)), (1, .ref (zA Z (6) (0) (0))), (2, .ref (zA Z (7) (0) (0))), (3, .ref (zA Z 8 0 0)), (4, .int (nI (i)))]) rfl ?_
    exact k
  · refine j_aload_n X dL_law_1178 rfl rfl (q := 5) rfl ?_
    refine j_iconst X dL_law_1179 rfl (v := 0) (by decide) ?_
    refine j_lald X hO dL_law_1180 rfl ?_
    refine j_iload X dL_law_1181 rfl (q := 0) rfl ?_
    refine j_i2l X dL_law_1183 rfl ?_
    refine j_lcmp X dL_law_1184 rfl ?_
    refine j_if_eq_t X (tgt := 1190) dL_law_1185 (by decide) (by rw [hv q0]; exact lg_cmp_self _) ?_
    refine j_goto X (tgt := 1578) dL_law_1190 (by decide) ?_
    refine j_sub [2, 3, 4, 5, 6] (Ls2 := [(0, .ref (b)), (1, .ref (zA Z (6) (0) (0))), (2, .ref (zA Z (7) (0) (0))), (3, .ref (zA Z 8 0 0)), (4, .int (nI (i)))]) rfl ?_
    exact k
set_option maxRecDepth 100000 in
set_option maxHeartbeats 4000000 in
theorem lc_commits {p : Program} {l : Launch} {e : Env} {s : State} {mi : MethodId} {args : Array Value} {below : List Frame} {meth : Method} {c : Code} {Z : wZ} {A0 : Nat → Prop} {cells slots : Nat} {Q : State → Prop} (X : JX p s mi args meth c cL_law 7 RL Z A0) {b L : Nat} {xs : Nat → Int32} (hX : LSc s A0 b L xs) {i : Nat} {S S1 S2 : St} {h h1 h2 : Hl} {v v6 : Int32} {fr lo fr6 lo6 : Nat} (hT : Ci l yX5_commits cX5_commits 1 .int fr lo Z [.ref (zA Z (6) (0) (0))] S h v S1 h1) (hC : Ci l yX6_commits cX6_commits 1 .int fr6 lo6 Z [.ref (zA Z (7) (0) (0))] S1 h1 v6 S2 h2) (hf : fr + 1 ≤ 13 ∧ 8 + (1 + 11) + lo ≤ 504) (hf6 : fr6 + 1 ≤ 13 ∧ 8 + (1 + 11) + lo6 ≤ 504) (hv : v = v6) (hcs : cells ≤ 601024 ∧ slots ≤ 7293034) (k : J p l e room_1 s mi args below meth c 7 Z A0 cells slots Q S2 h2 [(0, .ref (b)), (1, .ref (zA Z (6) (0) (0))), (2, .ref (zA Z (7) (0) (0))), (3, .ref (zA Z 8 0 0)), (4, .int (nI (i)))] 1578 []) : J p l e room_1 s mi args below meth c 7 Z A0 cells slots Q S h [(0, .ref (b)), (1, .ref (zA Z (6) (0) (0))), (2, .ref (zA Z (7) (0) (0))), (3, .ref (zA Z 8 0 0)), (4, .int (nI (i)))] 1193 [] := by
  refine j_aload_n X dL_law_1193 rfl rfl (q := 1) rfl ?_
  refine j_calli X hT (wm_top (by decide)) ((fun _ => rfl) _) rfl lk_RL_149 mi_X5_commits ms_X5_commits ini_RX5 mc_X5_commits md_X5_commits hf hcs rfl (Nat.le_of_ble_eq_true rfl) (as := []) (rest := []) rfl dL_law_1194 rfl ?_
  refine j_aload_n X dL_law_1197 rfl rfl (q := 2) rfl ?_
  refine j_calli X hC (wm_ref (by decide)) ((fun _ => rfl) _) rfl lk_RL_152 mi_X6_commits ms_X6_commits ini_RX6 mc_X6_commits md_X6_commits hf6 hcs rfl (Nat.le_of_ble_eq_true rfl) (as := []) (rest := [.int (v)]) rfl dL_law_1198 rfl ?_
  refine j_icmp_eq_t X (tgt := 1578) dL_law_1201 (by decide) hv ?_
  exact k
set_option maxRecDepth 100000 in
set_option maxHeartbeats 4000000 in
theorem lc_commit {p : Program} {l : Launch} {e : Env} {s : State} {mi : MethodId} {args : Array Value} {below : List Frame} {meth : Method} {c : Code} {Z : wZ} {A0 : Nat → Prop} {cells slots : Nat} {Q : State → Prop} (X : JX p s mi args meth c cL_law 7 RL Z A0) {b L : Nat} {xs : Nat → Int32} (hX : LSc s A0 b L xs) {i : Nat} (hO : zO Z = true) (hSt : hStr s) (hZ : hZq A0 s s.heap) {S S1 S2 : St} {h h1 : Hl} {r v : Int32} {fr lo fr6 lo6 : Nat} (hi : i + 4 ≤ L) (hW : Cw l yL_commit cL_commit 5 [(0, 10, 13, 30), (0, 10, 17, 13)] fr lo Z [.ref (zA Z (6) (0) (0)), .int (xs (i + 1)), .int (xs (i + 2)), .ref (zA Z 8 0 0)] S h r S1 h1) (hC : Ci l yX6_commit cX6_commit 4 .int fr6 lo6 Z [.ref (zA Z (7) (0) (0)), .int (xs (i + 1)), .int (xs (i + 2))] S1 h1 v S2 h1) (hf : fr + 1 ≤ 13 ∧ 8 + (5 + 11) + lo ≤ 504) (hf6 : fr6 + 1 ≤ 13 ∧ 8 + (4 + 11) + lo6 ≤ 504) (ht : S2 7 0 0 9 = r) (hv : r = 0 → h1 1 = v.toInt64) (hcs : cells + 1 ≤ 601024 ∧ slots + 6 ≤ 7293034) (k : J p l e room_1 s mi args below meth c 7 Z A0 (cells + 1) (slots + 6) Q S2 h1 [(0, .ref (b)), (1, .ref (zA Z (6) (0) (0))), (2, .ref (zA Z (7) (0) (0))), (3, .ref (zA Z 8 0 0)), (4, .int (nI (i)))] 1578 []) : J p l e room_1 s mi args below meth c 7 Z A0 cells slots Q S h [(0, .ref (b)), (1, .ref (zA Z (6) (0) (0))), (2, .ref (zA Z (7) (0) (0))), (3, .ref (zA Z 8 0 0)), (4, .int (nI (i)))] 1206 [] := by
  refine j_aload_n X dL_law_1206 rfl rfl (q := 1) rfl ?_
  refine j_aload_n X dL_law_1207 rfl rfl (q := 0) rfl ?_
  refine j_iload X dL_law_1208 rfl (q := 4) rfl ?_
  refine j_iconst X dL_law_1210 rfl (v := 1) (by decide) ?_
  refine j_iadd X dL_law_1211 rfl ?_
  refine j_topeq (y := nI (i + 1)) (nI_add i 1) ?_
  refine j_sld X hX (k := i + 1) (by omega) dL_law_1212 rfl ?_
  refine j_aload_n X dL_law_1213 rfl rfl (q := 0) rfl ?_
  refine j_iload X dL_law_1214 rfl (q := 4) rfl ?_
  refine j_iconst X dL_law_1216 rfl (v := 2) (by decide) ?_
  refine j_iadd X dL_law_1217 rfl ?_
  refine j_topeq (y := nI (i + 2)) (nI_add i 2) ?_
  refine j_sld X hX (k := i + 2) (by omega) dL_law_1218 rfl ?_
  refine j_aload_n X dL_law_1219 rfl rfl (q := 3) rfl ?_
  refine j_callW X hSt hZ hW (List.mem_of_getElem? (i := 671) (by decide +kernel)) (List.mem_of_getElem? (i := 672) (by decide +kernel)) ini_RL (List.mem_of_getElem? (i := 673) (by decide +kernel)) (na := 4) ⟨rfl, by decide +kernel, by decide +kernel, by decide +kernel⟩ hf hcs rfl (Nat.le_of_ble_eq_true rfl) (as := [.ref (zA Z (6) (0) (0)), .int (xs (i + 1)), .int (xs (i + 2)), .ref (zA Z 8 0 0)]) (rest := []) rfl dL_law_1220 rfl ?_
  refine j_istore X dL_law_1223 rfl (by decide) (Ls2 := [(5, .int (r)), (0, .ref (b)), (1, .ref (zA Z (6) (0) (0))), (2, .ref (zA Z (7) (0) (0))), (3, .ref (zA Z 8 0 0)), (4, .int (nI (i)))]) rfl ?_
  refine j_aload_n X dL_law_1225 rfl rfl (q := 3) rfl ?_
  refine j_aload_n X dL_law_1226 rfl rfl (q := 1) rfl ?_
  refine j_iload X dL_law_1227 rfl (q := 5) rfl ?_
  refine j_iconst X dL_law_1229 rfl (v := 1) (by decide) ?_
  refine j_iadd X dL_law_1230 rfl ?_
  refine j_topeq (y := nI (i + 1)) (nI_add i 1) ?_
  refine j_sld X hX (k := i + 1) (by omega) dL_law_1231 rfl ?_
  refine j_aload_n X dL_law_1232 rfl rfl (q := 1) rfl ?_
  refine j_iload X dL_law_1233 rfl (q := 5) rfl ?_
  refine j_iconst X dL_law_1235 rfl (v := 2) (by decide) ?_
  refine j_iadd X dL_law_1236 rfl ?_
  refine j_topeq (y := nI (i + 2)) (nI_add i 2) ?_
  refine j_sld X hX (k := i + 2) (by omega) dL_law_1237 rfl ?_
  refine j_calli X hC (wm_ref (by decide)) ((fun _ => rfl) _) rfl lk_RL_155 mi_X6_commit ms_X6_commit ini_RX6 mc_X6_commit md_X6_commit hf6 hcs rfl (Nat.le_of_ble_eq_true rfl) (as := [.int (xs (i + 1)), .int (xs (i + 2))]) (rest := []) rfl dL_law_1238 rfl ?_
  refine j_istore X dL_law_1241 rfl (by decide) (Ls2 := [(6, .int (v)), (5, .int (r)), (0, .ref (b)), (1, .ref (zA Z (6) (0) (0))), (2, .ref (zA Z (7) (0) (0))), (3, .ref (zA Z 8 0 0)), (4, .int (nI (i)))]) rfl ?_
  refine j_aload_n X dL_law_1243 rfl rfl (q := 4) rfl ?_
  refine j_calli X (c_X6_thrown l Z S2 h1) (wm_ref (by decide)) ((fun _ => rfl) _) rfl lk_RL_94 mi_X6_thrown ms_X6_thrown ini_RX6 mc_X6_thrown md_X6_thrown ⟨Nat.le_of_ble_eq_true rfl, Nat.le_of_ble_eq_true rfl⟩ hcs rfl (Nat.le_of_ble_eq_true rfl) (as := []) (rest := []) rfl dL_law_1244 rfl ?_
  refine j_topeq (y := r) ht ?_
  refine j_iload X dL_law_1247 rfl (q := 1) rfl ?_
  refine j_icmp_eq_t X (tgt := 1254) dL_law_1249 (by decide) rfl ?_
  refine j_iload X dL_law_1254 rfl (q := 1) rfl ?_
  refine j_if_ne X dL_law_1256 rfl (tgt := 1271) (by decide) (fun q0 => ?_) (fun q0 => ?_)
  · refine j_goto X (tgt := 1578) dL_law_1271 (by decide) ?_
    refine j_sub [2, 3, 4, 5, 6] (Ls2 := [(0, .ref (b)), (1, .ref (zA Z (6) (0) (0))), (2, .ref (zA Z (7) (0) (0))), (3, .ref (zA Z 8 0 0)), (4, .int (nI (i)))]) rfl ?_
    exact k
  · refine j_aload_n X dL_law_1259 rfl rfl (q := 5) rfl ?_
    refine j_iconst X dL_law_1260 rfl (v := 0) (by decide) ?_
    refine j_lald X hO dL_law_1261 rfl ?_
    refine j_iload X dL_law_1262 rfl (q := 0) rfl ?_
    refine j_i2l X dL_law_1264 rfl ?_
    refine j_lcmp X dL_law_1265 rfl ?_
    refine j_if_eq_t X (tgt := 1271) dL_law_1266 (by decide) (by rw [hv q0]; exact lg_cmp_self _) ?_
    refine j_goto X (tgt := 1578) dL_law_1271 (by decide) ?_
    refine j_sub [2, 3, 4, 5, 6] (Ls2 := [(0, .ref (b)), (1, .ref (zA Z (6) (0) (0))), (2, .ref (zA Z (7) (0) (0))), (3, .ref (zA Z 8 0 0)), (4, .int (nI (i)))]) rfl ?_
    exact k
set_option maxRecDepth 100000 in
set_option maxHeartbeats 4000000 in
theorem lc_commitValue {p : Program} {l : Launch} {e : Env} {s : State} {mi : MethodId} {args : Array Value} {below : List Frame} {meth : Method} {c : Code} {Z : wZ} {A0 : Nat → Prop} {cells slots : Nat} {Q : State → Prop} (X : JX p s mi args meth c cL_law 7 RL Z A0) {b L : Nat} {xs : Nat → Int32} (hX : LSc s A0 b L xs) {i : Nat} (hO : zO Z = true) (hSt : hStr s) (hZ : hZq A0 s s.heap) {S S1 S2 : St} {h h1 : Hl} {r v : Int32} {fr lo fr6 lo6 : Nat} (hi : i + 4 ≤ L) (hW : Cw l yL_commitValue cL_commitValue 6 [(0, 12, 15, 30)] fr lo Z [.ref (zA Z (6) (0) (0)), .int (xs (i + 1)), .int (xs (i + 2)), .int (bI (decide (xs (i + 3) ≠ 0))), .ref (zA Z 8 0 0)] S h r S1 h1) (hC : Ci l yX6_commitValue cX6_commitValue 4 .int fr6 lo6 Z [.ref (zA Z (7) (0) (0)), .int (xs (i + 1)), .int (xs (i + 2)), .int (bI (decide (xs (i + 3) ≠ 0)))] S1 h1 v S2 h1) (hf : fr + 1 ≤ 13 ∧ 8 + (6 + 11) + lo ≤ 504) (hf6 : fr6 + 1 ≤ 13 ∧ 8 + (4 + 11) + lo6 ≤ 504) (ht : S2 7 0 0 9 = r) (hv : r = 0 → h1 1 = v.toInt64) (hcs : cells + 1 ≤ 601024 ∧ slots + 6 ≤ 7293034) (k : J p l e room_1 s mi args below meth c 7 Z A0 (cells + 1) (slots + 6) Q S2 h1 [(0, .ref (b)), (1, .ref (zA Z (6) (0) (0))), (2, .ref (zA Z (7) (0) (0))), (3, .ref (zA Z 8 0 0)), (4, .int (nI (i)))] 1578 []) : J p l e room_1 s mi args below meth c 7 Z A0 cells slots Q S h [(0, .ref (b)), (1, .ref (zA Z (6) (0) (0))), (2, .ref (zA Z (7) (0) (0))), (3, .ref (zA Z 8 0 0)), (4, .int (nI (i)))] 1274 [] := by
  refine j_aload_n X dL_law_1274 rfl rfl (q := 1) rfl ?_
  refine j_aload_n X dL_law_1275 rfl rfl (q := 0) rfl ?_
  refine j_iload X dL_law_1276 rfl (q := 4) rfl ?_
  refine j_iconst X dL_law_1278 rfl (v := 1) (by decide) ?_
  refine j_iadd X dL_law_1279 rfl ?_
  refine j_topeq (y := nI (i + 1)) (nI_add i 1) ?_
  refine j_sld X hX (k := i + 1) (by omega) dL_law_1280 rfl ?_
  refine j_aload_n X dL_law_1281 rfl rfl (q := 0) rfl ?_
  refine j_iload X dL_law_1282 rfl (q := 4) rfl ?_
  refine j_iconst X dL_law_1284 rfl (v := 2) (by decide) ?_
  refine j_iadd X dL_law_1285 rfl ?_
  refine j_topeq (y := nI (i + 2)) (nI_add i 2) ?_
  refine j_sld X hX (k := i + 2) (by omega) dL_law_1286 rfl ?_
  refine j_aload_n X dL_law_1287 rfl rfl (q := 0) rfl ?_
  refine j_iload X dL_law_1288 rfl (q := 4) rfl ?_
  refine j_iconst X dL_law_1290 rfl (v := 3) (by decide) ?_
  refine j_iadd X dL_law_1291 rfl ?_
  refine j_topeq (y := nI (i + 3)) (nI_add i 3) ?_
  refine j_sld X hX (k := i + 3) (by omega) dL_law_1292 rfl ?_
  refine j_neB X dL_law_1293 dL_law_1296 dL_law_1297 dL_law_1300 rfl ?_
  refine j_aload_n X dL_law_1301 rfl rfl (q := 3) rfl ?_
  refine j_callW X hSt hZ hW (List.mem_of_getElem? (i := 688) (by decide +kernel)) (List.mem_of_getElem? (i := 689) (by decide +kernel)) ini_RL (List.mem_of_getElem? (i := 690) (by decide +kernel)) (na := 5) ⟨rfl, by decide +kernel, by decide +kernel, by decide +kernel⟩ hf hcs rfl (Nat.le_of_ble_eq_true rfl) (as := [.ref (zA Z (6) (0) (0)), .int (xs (i + 1)), .int (xs (i + 2)), .int (bI (decide (xs (i + 3) ≠ 0))), .ref (zA Z 8 0 0)]) (rest := []) rfl dL_law_1302 rfl ?_
  refine j_istore X dL_law_1305 rfl (by decide) (Ls2 := [(5, .int (r)), (0, .ref (b)), (1, .ref (zA Z (6) (0) (0))), (2, .ref (zA Z (7) (0) (0))), (3, .ref (zA Z 8 0 0)), (4, .int (nI (i)))]) rfl ?_
  refine j_aload_n X dL_law_1307 rfl rfl (q := 3) rfl ?_
  refine j_aload_n X dL_law_1308 rfl rfl (q := 1) rfl ?_
  refine j_iload X dL_law_1309 rfl (q := 5) rfl ?_
  refine j_iconst X dL_law_1311 rfl (v := 1) (by decide) ?_
  refine j_iadd X dL_law_1312 rfl ?_
  refine j_topeq (y := nI (i + 1)) (nI_add i 1) ?_
  refine j_sld X hX (k := i + 1) (by omega) dL_law_1313 rfl ?_
  refine j_aload_n X dL_law_1314 rfl rfl (q := 1) rfl ?_
  refine j_iload X dL_law_1315 rfl (q := 5) rfl ?_
  refine j_iconst X dL_law_1317 rfl (v := 2) (by decide) ?_
  refine j_iadd X dL_law_1318 rfl ?_
  refine j_topeq (y := nI (i + 2)) (nI_add i 2) ?_
  refine j_sld X hX (k := i + 2) (by omega) dL_law_1319 rfl ?_
  refine j_aload_n X dL_law_1320 rfl rfl (q := 1) rfl ?_
  refine j_iload X dL_law_1321 rfl (q := 5) rfl ?_
  refine j_iconst X dL_law_1323 rfl (v := 3) (by decide) ?_
  refine j_iadd X dL_law_1324 rfl ?_
  refine j_topeq (y := nI (i + 3)) (nI_add i 3) ?_
  refine j_sld X hX (k := i + 3) (by omega) dL_law_1325 rfl ?_
  refine j_neB X dL_law_1326 dL_law_1329 dL_law_1330 dL_law_1333 rfl ?_
  refine j_calli X hC (wm_ref (by decide)) ((fun _ => rfl) _) rfl lk_RL_159 mi_X6_commitValue ms_X6_commitValue ini_RX6 mc_X6_commitValue md_X6_commitValue hf6 hcs rfl (Nat.le_of_ble_eq_true rfl) (as := [.int (xs (i + 1)), .int (xs (i + 2)), .int (bI (decide (xs (i + 3) ≠ 0)))]) (rest := []) rfl dL_law_1334 rfl ?_
  refine j_istore X dL_law_1337 rfl (by decide) (Ls2 := [(6, .int (v)), (5, .int (r)), (0, .ref (b)), (1, .ref (zA Z (6) (0) (0))), (2, .ref (zA Z (7) (0) (0))), (3, .ref (zA Z 8 0 0)), (4, .int (nI (i)))]) rfl ?_
  refine j_aload_n X dL_law_1339 rfl rfl (q := 4) rfl ?_
  refine j_calli X (c_X6_thrown l Z S2 h1) (wm_ref (by decide)) ((fun _ => rfl) _) rfl lk_RL_94 mi_X6_thrown ms_X6_thrown ini_RX6 mc_X6_thrown md_X6_thrown ⟨Nat.le_of_ble_eq_true rfl, Nat.le_of_ble_eq_true rfl⟩ hcs rfl (Nat.le_of_ble_eq_true rfl) (as := []) (rest := []) rfl dL_law_1340 rfl ?_
  refine j_topeq (y := r) ht ?_
  refine j_iload X dL_law_1343 rfl (q := 1) rfl ?_
  refine j_icmp_eq_t X (tgt := 1350) dL_law_1345 (by decide) rfl ?_
  refine j_iload X dL_law_1350 rfl (q := 1) rfl ?_
  refine j_if_ne X dL_law_1352 rfl (tgt := 1367) (by decide) (fun q0 => ?_) (fun q0 => ?_)
  · refine j_goto X (tgt := 1578) dL_law_1367 (by decide) ?_
    refine j_sub [2, 3, 4, 5, 6] (Ls2 := [(0, .ref (b)), (1, .ref (zA Z (6) (0) (0))), (2, .ref (zA Z (7) (0) (0))), (3, .ref (zA Z 8 0 0)), (4, .int (nI (i)))]) rfl ?_
    exact k
  · refine j_aload_n X dL_law_1355 rfl rfl (q := 5) rfl ?_
    refine j_iconst X dL_law_1356 rfl (v := 0) (by decide) ?_
    refine j_lald X hO dL_law_1357 rfl ?_
    refine j_iload X dL_law_1358 rfl (q := 0) rfl ?_
    refine j_i2l X dL_law_1360 rfl ?_
    refine j_lcmp X dL_law_1361 rfl ?_
    refine j_if_eq_t X (tgt := 1367) dL_law_1362 (by decide) (by rw [hv q0]; exact lg_cmp_self _) ?_
    refine j_goto X (tgt := 1578) dL_law_1367 (by decide) ?_
    refine j_sub [2, 3, 4, 5, 6] (Ls2 := [(0, .ref (b)), (1, .ref (zA Z (6) (0) (0))), (2, .ref (zA Z (7) (0) (0))), (3, .ref (zA Z 8 0 0)), (4, .int (nI (i)))]) rfl ?_
    exact k
set_option maxRecDepth 100000 in
set_option maxHeartbeats 4000000 in
theorem lc_serializable {p : Program} {l : Launch} {e : Env} {s : State} {mi : MethodId} {args : Array Value} {below : List Frame} {meth : Method} {c : Code} {Z : wZ} {A0 : Nat → Prop} {cells slots : Nat} {Q : State → Prop} (X : JX p s mi args meth c cL_law 7 RL Z A0) {b L : Nat} {xs : Nat → Int32} (hX : LSc s A0 b L xs) {i : Nat} {S S1 S2 : St} {h h1 h2 : Hl} {v v6 : Int32} {fr lo fr6 lo6 : Nat} (hT : Ci l yX5_serializable cX5_serializable 1 .boolean fr lo Z [.ref (zA Z (6) (0) (0))] S h v S1 h1) (hC : Ci l yX6_serializable cX6_serializable 5 .boolean fr6 lo6 Z [.ref (zA Z (7) (0) (0))] S1 h1 v6 S2 h2) (hf : fr + 1 ≤ 13 ∧ 8 + (1 + 11) + lo ≤ 504) (hf6 : fr6 + 1 ≤ 13 ∧ 8 + (5 + 11) + lo6 ≤ 504) (hv : v = v6) (hcs : cells ≤ 601024 ∧ slots ≤ 7293034) (k : J p l e room_1 s mi args below meth c 7 Z A0 cells slots Q S2 h2 [(0, .ref (b)), (1, .ref (zA Z (6) (0) (0))), (2, .ref (zA Z (7) (0) (0))), (3, .ref (zA Z 8 0 0)), (4, .int (nI (i)))] 1578 []) : J p l e room_1 s mi args below meth c 7 Z A0 cells slots Q S h [(0, .ref (b)), (1, .ref (zA Z (6) (0) (0))), (2, .ref (zA Z (7) (0) (0))), (3, .ref (zA Z 8 0 0)), (4, .int (nI (i)))] 1370 [] := by
  refine j_aload_n X dL_law_1370 rfl rfl (q := 1) rfl ?_
  refine j_calli X hT (wm_top (by decide)) ((fun _ => rfl) _) rfl lk_RL_160 mi_X5_serializable ms_X5_serializable ini_RX5 mc_X5_serializable md_X5_serializable hf hcs rfl (Nat.le_of_ble_eq_true rfl) (as := []) (rest := []) rfl dL_law_1371 rfl ?_
  refine j_aload_n X dL_law_1374 rfl rfl (q := 2) rfl ?_
  refine j_calli X hC (wm_ref (by decide)) ((fun _ => rfl) _) rfl lk_RL_164 mi_X6_serializable ms_X6_serializable ini_RX6 mc_X6_serializable md_X6_serializable hf6 hcs rfl (Nat.le_of_ble_eq_true rfl) (as := []) (rest := [.int (v)]) rfl dL_law_1375 rfl ?_
  refine j_icmp_eq_t X (tgt := 1578) dL_law_1378 (by decide) hv ?_
  exact k
set_option maxRecDepth 100000 in
set_option maxHeartbeats 4000000 in
theorem lc_finish {p : Program} {l : Launch} {e : Env} {s : State} {mi : MethodId} {args : Array Value} {below : List Frame} {meth : Method} {c : Code} {Z : wZ} {A0 : Nat → Prop} {cells slots : Nat} {Q : State → Prop} (X : JX p s mi args meth c cL_law 7 RL Z A0) {b L : Nat} {xs : Nat → Int32} (hX : LSc s A0 b L xs) {i : Nat} (hO : zO Z = true) (hSt : hStr s) (hZ : hZq A0 s s.heap) {S S1 S2 : St} {h h1 : Hl} {r v : Int32} {fr lo fr6 lo6 : Nat} (hi : i + 4 ≤ L) (hW : Cw l yL_finish cL_finish 4 [(0, 9, 12, 13)] fr lo Z [.ref (zA Z (6) (0) (0)), .int (xs (i + 1)), .ref (zA Z 8 0 0)] S h r S1 h1) (hC : Ci l yX6_finish cX6_finish 2 .int fr6 lo6 Z [.ref (zA Z (7) (0) (0)), .int (xs (i + 1))] S1 h1 v S2 h1) (hf : fr + 1 ≤ 13 ∧ 8 + (4 + 11) + lo ≤ 504) (hf6 : fr6 + 1 ≤ 13 ∧ 8 + (2 + 11) + lo6 ≤ 504) (ht : S2 7 0 0 9 = r) (hv : r = 0 → h1 1 = v.toInt64) (hcs : cells + 1 ≤ 601024 ∧ slots + 6 ≤ 7293034) (k : J p l e room_1 s mi args below meth c 7 Z A0 (cells + 1) (slots + 6) Q S2 h1 [(0, .ref (b)), (1, .ref (zA Z (6) (0) (0))), (2, .ref (zA Z (7) (0) (0))), (3, .ref (zA Z 8 0 0)), (4, .int (nI (i)))] 1578 []) : J p l e room_1 s mi args below meth c 7 Z A0 cells slots Q S h [(0, .ref (b)), (1, .ref (zA Z (6) (0) (0))), (2, .ref (zA Z (7) (0) (0))), (3, .ref (zA Z 8 0 0)), (4, .int (nI (i)))] 1383 [] := by
  refine j_aload_n X dL_law_1383 rfl rfl (q := 1) rfl ?_
  refine j_aload_n X dL_law_1384 rfl rfl (q := 0) rfl ?_
  refine j_iload X dL_law_1385 rfl (q := 4) rfl ?_
  refine j_iconst X dL_law_1387 rfl (v := 1) (by decide) ?_
  refine j_iadd X dL_law_1388 rfl ?_
  refine j_topeq (y := nI (i + 1)) (nI_add i 1) ?_
  refine j_sld X hX (k := i + 1) (by omega) dL_law_1389 rfl ?_
  refine j_aload_n X dL_law_1390 rfl rfl (q := 3) rfl ?_
  refine j_callW X hSt hZ hW (List.mem_of_getElem? (i := 722) (by decide +kernel)) (List.mem_of_getElem? (i := 723) (by decide +kernel)) ini_RL (List.mem_of_getElem? (i := 724) (by decide +kernel)) (na := 3) ⟨rfl, by decide +kernel, by decide +kernel, by decide +kernel⟩ hf hcs rfl (Nat.le_of_ble_eq_true rfl) (as := [.ref (zA Z (6) (0) (0)), .int (xs (i + 1)), .ref (zA Z 8 0 0)]) (rest := []) rfl dL_law_1391 rfl ?_
  refine j_istore X dL_law_1394 rfl (by decide) (Ls2 := [(5, .int (r)), (0, .ref (b)), (1, .ref (zA Z (6) (0) (0))), (2, .ref (zA Z (7) (0) (0))), (3, .ref (zA Z 8 0 0)), (4, .int (nI (i)))]) rfl ?_
  refine j_aload_n X dL_law_1396 rfl rfl (q := 3) rfl ?_
  refine j_aload_n X dL_law_1397 rfl rfl (q := 1) rfl ?_
  refine j_iload X dL_law_1398 rfl (q := 5) rfl ?_
  refine j_iconst X dL_law_1400 rfl (v := 1) (by decide) ?_
  refine j_iadd X dL_law_1401 rfl ?_
  refine j_topeq (y := nI (i + 1)) (nI_add i 1) ?_
  refine j_sld X hX (k := i + 1) (by omega) dL_law_1402 rfl ?_
  refine j_calli X hC (wm_ref (by decide)) ((fun _ => rfl) _) rfl lk_RL_167 mi_X6_finish ms_X6_finish ini_RX6 mc_X6_finish md_X6_finish hf6 hcs rfl (Nat.le_of_ble_eq_true rfl) (as := [.int (xs (i + 1))]) (rest := []) rfl dL_law_1403 rfl ?_
  refine j_istore X dL_law_1406 rfl (by decide) (Ls2 := [(6, .int (v)), (5, .int (r)), (0, .ref (b)), (1, .ref (zA Z (6) (0) (0))), (2, .ref (zA Z (7) (0) (0))), (3, .ref (zA Z 8 0 0)), (4, .int (nI (i)))]) rfl ?_
  refine j_aload_n X dL_law_1408 rfl rfl (q := 4) rfl ?_
  refine j_calli X (c_X6_thrown l Z S2 h1) (wm_ref (by decide)) ((fun _ => rfl) _) rfl lk_RL_94 mi_X6_thrown ms_X6_thrown ini_RX6 mc_X6_thrown md_X6_thrown ⟨Nat.le_of_ble_eq_true rfl, Nat.le_of_ble_eq_true rfl⟩ hcs rfl (Nat.le_of_ble_eq_true rfl) (as := []) (rest := []) rfl dL_law_1409 rfl ?_
  refine j_topeq (y := r) ht ?_
  refine j_iload X dL_law_1412 rfl (q := 1) rfl ?_
  refine j_icmp_eq_t X (tgt := 1419) dL_law_1414 (by decide) rfl ?_
  refine j_iload X dL_law_1419 rfl (q := 1) rfl ?_
  refine j_if_ne X dL_law_1421 rfl (tgt := 1436) (by decide) (fun q0 => ?_) (fun q0 => ?_)
  · refine j_goto X (tgt := 1578) dL_law_1436 (by decide) ?_
    refine j_sub [2, 3, 4, 5, 6] (Ls2 := [(0, .ref (b)), (1, .ref (zA Z (6) (0) (0))), (2, .ref (zA Z (7) (0) (0))), (3, .ref (zA Z 8 0 0)), (4, .int (nI (i)))]) rfl ?_
    exact k
  · refine j_aload_n X dL_law_1424 rfl rfl (q := 5) rfl ?_
    refine j_iconst X dL_law_1425 rfl (v := 0) (by decide) ?_
    refine j_lald X hO dL_law_1426 rfl ?_
    refine j_iload X dL_law_1427 rfl (q := 0) rfl ?_
    refine j_i2l X dL_law_1429 rfl ?_
    refine j_lcmp X dL_law_1430 rfl ?_
    refine j_if_eq_t X (tgt := 1436) dL_law_1431 (by decide) (by rw [hv q0]; exact lg_cmp_self _) ?_
    refine j_goto X (tgt := 1578) dL_law_1436 (by decide) ?_
    refine j_sub [2, 3, 4, 5, 6] (Ls2 := [(0, .ref (b)), (1, .ref (zA Z (6) (0) (0))), (2, .ref (zA Z (7) (0) (0))), (3, .ref (zA Z 8 0 0)), (4, .int (nI (i)))]) rfl ?_
    exact k
set_option maxRecDepth 100000 in
set_option maxHeartbeats 4000000 in
theorem lc_abortsWith {p : Program} {l : Launch} {e : Env} {s : State} {mi : MethodId} {args : Array Value} {below : List Frame} {meth : Method} {c : Code} {Z : wZ} {A0 : Nat → Prop} {cells slots : Nat} {Q : State → Prop} (X : JX p s mi args meth c cL_law 7 RL Z A0) {b L : Nat} {xs : Nat → Int32} (hX : LSc s A0 b L xs) {i : Nat} (hO : zO Z = true) (hSt : hStr s) (hZ : hZq A0 s s.heap) {S S1 S2 : St} {h h1 : Hl} {r v : Int32} {fr lo fr6 lo6 : Nat} (hi : i + 4 ≤ L) (hW : Cw l yL_abortsWith cL_abortsWith 5 [(0, 10, 13, 13)] fr lo Z [.ref (zA Z (6) (0) (0)), .int (xs (i + 1)), .int (xs (i + 2)), .ref (zA Z 8 0 0)] S h r S1 h1) (hC : Ci l yX6_abortsWith cX6_abortsWith 5 .int fr6 lo6 Z [.ref (zA Z (7) (0) (0)), .int (xs (i + 1)), .int (xs (i + 2))] S1 h1 v S2 h1) (hf : fr + 1 ≤ 13 ∧ 8 + (5 + 11) + lo ≤ 504) (hf6 : fr6 + 1 ≤ 13 ∧ 8 + (5 + 11) + lo6 ≤ 504) (ht : S2 7 0 0 9 = r) (hv : r = 0 → h1 1 = v.toInt64) (hcs : cells + 1 ≤ 601024 ∧ slots + 6 ≤ 7293034) (k : J p l e room_1 s mi args below meth c 7 Z A0 (cells + 1) (slots + 6) Q S2 h1 [(0, .ref (b)), (1, .ref (zA Z (6) (0) (0))), (2, .ref (zA Z (7) (0) (0))), (3, .ref (zA Z 8 0 0)), (4, .int (nI (i)))] 1578 []) : J p l e room_1 s mi args below meth c 7 Z A0 cells slots Q S h [(0, .ref (b)), (1, .ref (zA Z (6) (0) (0))), (2, .ref (zA Z (7) (0) (0))), (3, .ref (zA Z 8 0 0)), (4, .int (nI (i)))] 1439 [] := by
  refine j_aload_n X dL_law_1439 rfl rfl (q := 1) rfl ?_
  refine j_aload_n X dL_law_1440 rfl rfl (q := 0) rfl ?_
  refine j_iload X dL_law_1441 rfl (q := 4) rfl ?_
  refine j_iconst X dL_law_1443 rfl (v := 1) (by decide) ?_
  refine j_iadd X dL_law_1444 rfl ?_
  refine j_topeq (y := nI (i + 1)) (nI_add i 1) ?_
  refine j_sld X hX (k := i + 1) (by omega) dL_law_1445 rfl ?_
  refine j_aload_n X dL_law_1446 rfl rfl (q := 0) rfl ?_
  refine j_iload X dL_law_1447 rfl (q := 4) rfl ?_
  refine j_iconst X dL_law_1449 rfl (v := 2) (by decide) ?_
  refine j_iadd X dL_law_1450 rfl ?_
  refine j_topeq (y := nI (i + 2)) (nI_add i 2) ?_
  refine j_sld X hX (k := i + 2) (by omega) dL_law_1451 rfl ?_
  refine j_aload_n X dL_law_1452 rfl rfl (q := 3) rfl ?_
  refine j_callW X hSt hZ hW (List.mem_of_getElem? (i := 752) (by decide +kernel)) (List.mem_of_getElem? (i := 753) (by decide +kernel)) ini_RL (List.mem_of_getElem? (i := 754) (by decide +kernel)) (na := 4) ⟨rfl, by decide +kernel, by decide +kernel, by decide +kernel⟩ hf hcs rfl (Nat.le_of_ble_eq_true rfl) (as := [.ref (zA Z (6) (0) (0)), .int (xs (i + 1)), .int (xs (i + 2)), .ref (zA Z 8 0 0)]) (rest := []) rfl dL_law_1453 rfl ?_
  refine j_istore X dL_law_1456 rfl (by decide) (Ls2 := [(5, .int (r)), (0, .ref (b)), (1, .ref (zA Z (6) (0) (0))), (2, .ref (zA Z (7) (0) (0))), (3, .ref (zA Z 8 0 0)), (4, .int (nI (i)))]) rfl ?_
  refine j_aload_n X dL_law_1458 rfl rfl (q := 3) rfl ?_
  refine j_aload_n X dL_law_1459 rfl rfl (q := 1) rfl ?_
  refine j_iload X dL_law_1460 rfl (q := 5) rfl ?_
  refine j_iconst X dL_law_1462 rfl (v := 1) (by decide) ?_
  refine j_iadd X dL_law_1463 rfl ?_
  refine j_topeq (y := nI (i + 1)) (nI_add i 1) ?_
  refine j_sld X hX (k := i + 1) (by omega) dL_law_1464 rfl ?_
  refine j_aload_n X dL_law_1465 rfl rfl (q := 1) rfl ?_
  refine j_iload X dL_law_1466 rfl (q := 5) rfl ?_
  refine j_iconst X dL_law_1468 rfl (v := 2) (by decide) ?_
  refine j_iadd X dL_law_1469 rfl ?_
  refine j_topeq (y := nI (i + 2)) (nI_add i 2) ?_
  refine j_sld X hX (k := i + 2) (by omega) dL_law_1470 rfl ?_
  refine j_calli X hC (wm_ref (by decide)) ((fun _ => rfl) _) rfl lk_RL_170 mi_X6_abortsWith ms_X6_abortsWith ini_RX6 mc_X6_abortsWith md_X6_abortsWith hf6 hcs rfl (Nat.le_of_ble_eq_true rfl) (as := [.int (xs (i + 1)), .int (xs (i + 2))]) (rest := []) rfl dL_law_1471 rfl ?_
  refine j_istore X dL_law_1474 rfl (by decide) (Ls2 := [(6, .int (v)), (5, .int (r)), (0, .ref (b)), (1, .ref (zA Z (6) (0) (0))), (2, .ref (zA Z (7) (0) (0))), (3, .ref (zA Z 8 0 0)), (4, .int (nI (i)))]) rfl ?_
  refine j_aload_n X dL_law_1476 rfl rfl (q := 4) rfl ?_
  refine j_calli X (c_X6_thrown l Z S2 h1) (wm_ref (by decide)) ((fun _ => rfl) _) rfl lk_RL_94 mi_X6_thrown ms_X6_thrown ini_RX6 mc_X6_thrown md_X6_thrown ⟨Nat.le_of_ble_eq_true rfl, Nat.le_of_ble_eq_true rfl⟩ hcs rfl (Nat.le_of_ble_eq_true rfl) (as := []) (rest := []) rfl dL_law_1477 rfl ?_
  refine j_topeq (y := r) ht ?_
  refine j_iload X dL_law_1480 rfl (q := 1) rfl ?_
  refine j_icmp_eq_t X (tgt := 1487) dL_law_1482 (by decide) rfl ?_
  refine j_iload X dL_law_1487 rfl (q := 1) rfl ?_
  refine j_if_ne X dL_law_1489 rfl (tgt := 1504) (by decide) (fun q0 => ?_) (fun q0 => ?_)
  · refine j_goto X (tgt := 1578) dL_law_1504 (by decide) ?_
    refine j_sub [2, 3, 4, 5, 6] (Ls2 := [(0, .ref (b)), (1, .ref (zA Z (6) (0) (0))), (2, .ref (zA Z (7) (0) (0))), (3, .ref (zA Z 8 0 0)), (4, .int (nI (i)))]) rfl ?_
    exact k
  · refine j_aload_n X dL_law_1492 rfl rfl (q := 5) rfl ?_
    refine j_iconst X dL_law_1493 rfl (v := 0) (by decide) ?_
    refine j_lald X hO dL_law_1494 rfl ?_
    refine j_iload X dL_law_1495 rfl (q := 0) rfl ?_
    refine j_i2l X dL_law_1497 rfl ?_
    refine j_lcmp X dL_law_1498 rfl ?_
    refine j_if_eq_t X (tgt := 1504) dL_law_1499 (by decide) (by rw [hv q0]; exact lg_cmp_self _) ?_
    refine j_goto X (tgt := 1578) dL_law_1504 (by decide) ?_
    refine j_sub [2, 3, 4, 5, 6] (Ls2 := [(0, .ref (b)), (1, .ref (zA Z (6) (0) (0))), (2, .ref (zA Z (7) (0) (0))), (3, .ref (zA Z 8 0 0)), (4, .int (nI (i)))]) rfl ?_
    exact k
set_option maxRecDepth 100000 in
set_option maxHeartbeats 4000000 in
theorem lc_bestPolicy {p : Program} {l : Launch} {e : Env} {s : State} {mi : MethodId} {args : Array Value} {below : List Frame} {meth : Method} {c : Code} {Z : wZ} {A0 : Nat → Prop} {cells slots : Nat} {Q : State → Prop} (X : JX p s mi args meth c cL_law 7 RL Z A0) {b L : Nat} {xs : Nat → Int32} (hX : LSc s A0 b L xs) {i : Nat} {S S1 S2 : St} {h h1 h2 : Hl} {v v6 : Int32} {fr lo fr6 lo6 : Nat} (hT : Ci l yX5_bestPolicy cX5_bestPolicy 5 .int fr lo Z [.ref (zA Z (6) (0) (0))] S h v S1 h1) (hC : Ci l yX6_bestPolicy cX6_bestPolicy 6 .int fr6 lo6 Z [.ref (zA Z (7) (0) (0))] S1 h1 v6 S2 h2) (hf : fr + 1 ≤ 13 ∧ 8 + (5 + 11) + lo ≤ 504) (hf6 : fr6 + 1 ≤ 13 ∧ 8 + (6 + 11) + lo6 ≤ 504) (hv : v = v6) (hcs : cells ≤ 601024 ∧ slots ≤ 7293034) (k : J p l e room_1 s mi args below meth c 7 Z A0 cells slots Q S2 h2 [(0, .ref (b)), (1, .ref (zA Z (6) (0) (0))), (2, .ref (zA Z (7) (0) (0))), (3, .ref (zA Z 8 0 0)), (4, .int (nI (i)))] 1578 []) : J p l e room_1 s mi args below meth c 7 Z A0 cells slots Q S h [(0, .ref (b)), (1, .ref (zA Z (6) (0) (0))), (2, .ref (zA Z (7) (0) (0))), (3, .ref (zA Z 8 0 0)), (4, .int (nI (i)))] 1507 [] := by
  refine j_aload_n X dL_law_1507 rfl rfl (q := 1) rfl ?_
  refine j_calli X hT (wm_top (by decide)) ((fun _ => rfl) _) rfl lk_RL_171 mi_X5_bestPolicy ms_X5_bestPolicy ini_RX5 mc_X5_bestPolicy md_X5_bestPolicy hf hcs rfl (Nat.le_of_ble_eq_true rfl) (as := []) (rest := []) rfl dL_law_1508 rfl ?_
  refine j_aload_n X dL_law_1511 rfl rfl (q := 2) rfl ?_
  refine j_calli X hC (wm_ref (by decide)) ((fun _ => rfl) _) rfl lk_RL_174 mi_X6_bestPolicy ms_X6_bestPolicy ini_RX6 mc_X6_bestPolicy md_X6_bestPolicy hf6 hcs rfl (Nat.le_of_ble_eq_true rfl) (as := []) (rest := [.int (v)]) rfl dL_law_1512 rfl ?_
  refine j_icmp_eq_t X (tgt := 1578) dL_law_1515 (by decide) hv ?_
  exact k
set_option maxRecDepth 100000 in
set_option maxHeartbeats 4000000 in
theorem lc_undo {p : Program} {l : Launch} {e : Env} {s : State} {mi : MethodId} {args : Array Value} {below : List Frame} {meth : Method} {c : Code} {Z : wZ} {A0 : Nat → Prop} {cells slots : Nat} {Q : State → Prop} (X : JX p s mi args meth c cL_law 7 RL Z A0) {b L : Nat} {xs : Nat → Int32} (hX : LSc s A0 b L xs) {i : Nat} (hO : zO Z = true) (hSt : hStr s) (hZ : hZq A0 s s.heap) {S S1 S2 : St} {h h1 : Hl} {r v : Int32} {fr lo fr6 lo6 : Nat} (hi : i + 4 ≤ L) (hW : Cw l yL_undo cL_undo 3 [(0, 8, 11, 25)] fr lo Z [.ref (zA Z (6) (0) (0)), .ref (zA Z 8 0 0)] S h r S1 h1) (hC : Ci l yX6_undo cX6_undo 1 .int fr6 lo6 Z [.ref (zA Z (7) (0) (0))] S1 h1 v S2 h1) (hf : fr + 1 ≤ 13 ∧ 8 + (3 + 11) + lo ≤ 504) (hf6 : fr6 + 1 ≤ 13 ∧ 8 + (1 + 11) + lo6 ≤ 504) (ht : S2 7 0 0 9 = r) (hv : r = 0 → h1 1 = v.toInt64) (hcs : cells + 1 ≤ 601024 ∧ slots + 6 ≤ 7293034) (k : J p l e room_1 s mi args below meth c 7 Z A0 (cells + 1) (slots + 6) Q S2 h1 [(0, .ref (b)), (1, .ref (zA Z (6) (0) (0))), (2, .ref (zA Z (7) (0) (0))), (3, .ref (zA Z 8 0 0)), (4, .int (nI (i)))] 1578 []) : J p l e room_1 s mi args below meth c 7 Z A0 cells slots Q S h [(0, .ref (b)), (1, .ref (zA Z (6) (0) (0))), (2, .ref (zA Z (7) (0) (0))), (3, .ref (zA Z 8 0 0)), (4, .int (nI (i)))] 1520 [] := by
  refine j_aload_n X dL_law_1520 rfl rfl (q := 1) rfl ?_
  refine j_aload_n X dL_law_1521 rfl rfl (q := 3) rfl ?_
  refine j_callW X hSt hZ hW (List.mem_of_getElem? (i := 771) (by decide +kernel)) (List.mem_of_getElem? (i := 772) (by decide +kernel)) ini_RL (List.mem_of_getElem? (i := 773) (by decide +kernel)) (na := 2) ⟨rfl, by decide +kernel, by decide +kernel, by decide +kernel⟩ hf hcs rfl (Nat.le_of_ble_eq_true rfl) (as := [.ref (zA Z (6) (0) (0)), .ref (zA Z 8 0 0)]) (rest := []) rfl dL_law_1522 rfl ?_
  refine j_istore X dL_law_1525 rfl (by decide) (Ls2 := [(5, .int (r)), (0, .ref (b)), (1, .ref (zA Z (6) (0) (0))), (2, .ref (zA Z (7) (0) (0))), (3, .ref (zA Z 8 0 0)), (4, .int (nI (i)))]) rfl ?_
  refine j_aload_n X dL_law_1527 rfl rfl (q := 3) rfl ?_
  refine j_calli X hC (wm_ref (by decide)) ((fun _ => rfl) _) rfl lk_RL_178 mi_X6_undo ms_X6_undo ini_RX6 mc_X6_undo md_X6_undo hf6 hcs rfl (Nat.le_of_ble_eq_true rfl) (as := []) (rest := []) rfl dL_law_1528 rfl ?_
  refine j_istore X dL_law_1531 rfl (by decide) (Ls2 := [(6, .int (v)), (5, .int (r)), (0, .ref (b)), (1, .ref (zA Z (6) (0) (0))), (2, .ref (zA Z (7) (0) (0))), (3, .ref (zA Z 8 0 0)), (4, .int (nI (i)))]) rfl ?_
  refine j_aload_n X dL_law_1533 rfl rfl (q := 4) rfl ?_
  refine j_calli X (c_X6_thrown l Z S2 h1) (wm_ref (by decide)) ((fun _ => rfl) _) rfl lk_RL_94 mi_X6_thrown ms_X6_thrown ini_RX6 mc_X6_thrown md_X6_thrown ⟨Nat.le_of_ble_eq_true rfl, Nat.le_of_ble_eq_true rfl⟩ hcs rfl (Nat.le_of_ble_eq_true rfl) (as := []) (rest := []) rfl dL_law_1534 rfl ?_
  refine j_topeq (y := r) ht ?_
  refine j_iload X dL_law_1537 rfl (q := 1) rfl ?_
  refine j_icmp_eq_t X (tgt := 1544) dL_law_1539 (by decide) rfl ?_
  refine j_iload X dL_law_1544 rfl (q := 1) rfl ?_
  refine j_if_ne X dL_law_1546 rfl (tgt := 1561) (by decide) (fun q0 => ?_) (fun q0 => ?_)
  · refine j_goto X (tgt := 1578) dL_law_1561 (by decide) ?_
    refine j_sub [2, 3, 4, 5, 6] (Ls2 := [(0, .ref (b)), (1, .ref (zA Z (6) (0) (0))), (2, .ref (zA Z (7) (0) (0))), (3, .ref (zA Z 8 0 0)), (4, .int (nI (i)))]) rfl ?_
    exact k
  · refine j_aload_n X dL_law_1549 rfl rfl (q := 5) rfl ?_
    refine j_iconst X dL_law_1550 rfl (v := 0) (by decide) ?_
    refine j_lald X hO dL_law_1551 rfl ?_
    refine j_iload X dL_law_1552 rfl (q := 0) rfl ?_
    refine j_i2l X dL_law_1554 rfl ?_
    refine j_lcmp X dL_law_1555 rfl ?_
    refine j_if_eq_t X (tgt := 1561) dL_law_1556 (by decide) (by rw [hv q0]; exact lg_cmp_self _) ?_
    refine j_goto X (tgt := 1578) dL_law_1561 (by decide) ?_
    refine j_sub [2, 3, 4, 5, 6] (Ls2 := [(0, .ref (b)), (1, .ref (zA Z (6) (0) (0))), (2, .ref (zA Z (7) (0) (0))), (3, .ref (zA Z 8 0 0)), (4, .int (nI (i)))]) rfl ?_
    exact k
set_option maxRecDepth 100000 in
set_option maxHeartbeats 4000000 in
theorem lc_digest {p : Program} {l : Launch} {e : Env} {s : State} {mi : MethodId} {args : Array Value} {below : List Frame} {meth : Method} {c : Code} {Z : wZ} {A0 : Nat → Prop} {cells slots : Nat} {Q : State → Prop} (X : JX p s mi args meth c cL_law 7 RL Z A0) {b L : Nat} {xs : Nat → Int32} (hX : LSc s A0 b L xs) {i : Nat} {S S1 S2 : St} {h h1 h2 : Hl} {v v6 : Int64} {fr lo fr6 lo6 : Nat} (hT : Cl l yX5_digest cX5_digest 4 fr lo Z [.ref (zA Z (6) (0) (0))] S h v S1 h1) (hC : Cl l yX6_digest cX6_digest 2 fr6 lo6 Z [.ref (zA Z (7) (0) (0))] S1 h1 v6 S2 h2) (hf : fr + 1 ≤ 13 ∧ 8 + (4 + 11) + lo ≤ 504) (hf6 : fr6 + 1 ≤ 13 ∧ 8 + (2 + 11) + lo6 ≤ 504) (hv : v = v6) (hcs : cells ≤ 601024 ∧ slots ≤ 7293034) (k : J p l e room_1 s mi args below meth c 7 Z A0 cells slots Q S2 h2 [(0, .ref (b)), (1, .ref (zA Z (6) (0) (0))), (2, .ref (zA Z (7) (0) (0))), (3, .ref (zA Z 8 0 0)), (4, .int (nI (i)))] 1578 []) : J p l e room_1 s mi args below meth c 7 Z A0 cells slots Q S h [(0, .ref (b)), (1, .ref (zA Z (6) (0) (0))), (2, .ref (zA Z (7) (0) (0))), (3, .ref (zA Z 8 0 0)), (4, .int (nI (i)))] 1564 [] := by
  refine j_aload_n X dL_law_1564 rfl rfl (q := 1) rfl ?_
  refine j_calll X hT (wm_top (by decide)) ((fun _ => rfl) _) rfl lk_RL_179 mi_X5_digest ms_X5_digest ini_RX5 mc_X5_digest md_X5_digest hf hcs rfl (Nat.le_of_ble_eq_true rfl) (as := []) (rest := []) rfl dL_law_1565 rfl ?_
  refine j_aload_n X dL_law_1568 rfl rfl (q := 2) rfl ?_
  refine j_calll X hC (wm_ref (by decide)) ((fun _ => rfl) _) rfl lk_RL_183 mi_X6_digest ms_X6_digest ini_RX6 mc_X6_digest md_X6_digest hf6 hcs rfl (Nat.le_of_ble_eq_true rfl) (as := []) (rest := [.long (v)]) rfl dL_law_1569 rfl ?_
  refine j_lcmp X dL_law_1572 rfl ?_
  refine j_if_eq_t X (tgt := 1578) dL_law_1573 (by decide) (by rw [hv]; exact lg_cmp_self _) ?_
  exact k

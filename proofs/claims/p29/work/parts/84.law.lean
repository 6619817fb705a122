/-! the law, from the new object on -/
section LAW
variable {p : Program} {l : Launch} {e : Env} {R : Room} {s : State} {mi : MethodId} {args : Array Value} {below : List Frame} {meth : Method} {c : Code} {Z : wZ} {A0 : Nat → Prop} {Q : State → Prop} {cells slots : Nat} {S : St} {h : Hl} {nn N P n a b L hw : Nat} {x u8 : Int32} {xs : Nat → Int32}
set_option maxRecDepth 100000 in
set_option maxHeartbeats 4000000 in
theorem law_3 (X : JX p s mi args meth c cL_law 14 RL Z A0) (hSt : hStr s) (hZ : hZq A0 s s.heap) (hX : LSc s A0 b L xs) (hfl : l.stackTraces = false) (hO : zO Z = false) (hI : LI S nn N P 0) (ha : a < nn) (hn : n < 14) (hP : P < 400) (hN : N + 1 < 2 ^ 30) (hR : 13 ≤ R.frames ∧ 528 ≤ R.locals ∧ cells + 1 ≤ R.cells ∧ slots + 6 ≤ R.slots) (K : ∀ (S2 : St) (ce sl : Nat), ce ≤ cells + 1 → sl ≤ slots + 6 → LI S2 nn (N + 1) (P) 0 → J p l e R s mi args below meth c 14 Z A0 ce sl Q S2 h [(4, .int (nI (n + 1))), (3, .int (nI (nn))), (1, .ref (zA Z (6) (0) (0))), (0, .ref (b))] 186 []) : J p l e R s mi args below meth c 14 Z A0 cells slots Q S h [(6, .int (nI (a))), (5, .int (x)), (4, .int (nI (n))), (3, .int (nI (nn))), (1, .ref (zA Z (6) (0) (0))), (0, .ref (b))] 456 [] := by
  refine j_iload X dL_law_456 rfl (q := 2) rfl ?_
  refine j_iconst X dL_law_458 rfl (v := 4) (by decide) ?_
  refine j_irem X dL_law_459 rfl (by decide) ?_
  refine j_topeq (y := nI ((n) % 4)) (pk_rem (by omega) (by decide) (by decide)) ?_
  refine j_iconst X dL_law_460 rfl (v := 3) (by decide) ?_
  refine j_icmpN_ne X (a := (n) % 4) (b := 3) (by omega) (by omega) dL_law_461 rfl (tgt := 519) (by decide) (fun c_461 => ?_) (fun c_461 => ?_)
  · refine j_iinc X dL_law_519 rfl (q := 2) rfl (v := (nI (n + 1))) (nI_1 _) (by decide) (Ls2 := [(4, .int (nI (n + 1))), (6, .int (nI (a))), (5, .int (x)), (3, .int (nI (nn))), (1, .ref (zA Z (6) (0) (0))), (0, .ref (b))]) rfl ?_
    refine j_goto X (tgt := 186) dL_law_522 (by decide) ?_
    refine j_sub [0, 3, 4, 5] (Ls2 := [(4, .int (nI (n + 1))), (3, .int (nI (nn))), (1, .ref (zA Z (6) (0) (0))), (0, .ref (b))]) rfl ?_
    exact K _ _ _ (by omega) (by omega) (LI_mono hI (by omega) (by omega) (Nat.zero_le _))
  · refine j_aload_n X dL_law_464 rfl rfl (q := 4) rfl ?_
    refine j_callQ X hSt hZ (c_L_commits l Z S h) lk_RL_182 mt_L_commits ini_RL mc_L_commits md_L_commits ⟨by omega, by omega⟩ ⟨by omega, by omega⟩ rfl (Nat.le_of_ble_eq_true rfl) (as := [.ref (zA Z (6) (0) (0))]) (rest := []) rfl dL_law_465 rfl ?_
    refine j_i2l X dL_law_468 rfl ?_
    refine j_lstore X dL_law_469 rfl (by decide) (Ls2 := [(11, .long ((S 0 4 4 7).toInt64)), (6, .int (nI (a))), (5, .int (x)), (4, .int (nI (n))), (3, .int (nI (nn))), (1, .ref (zA Z (6) (0) (0))), (0, .ref (b))]) rfl ?_
    refine j_aload_n X dL_law_471 rfl rfl (q := 5) rfl ?_
    refine j_iconst X dL_law_472 rfl (v := 4) (by decide) ?_
    refine j_callQW X hSt hZ (w_value l Z S S h (4) _ (c_X5_value l Z S h 4 (by decide) (ccn hI.cc.1 hI.cc.2))) lk_RL_97 mt_L_value ini_RL mc_L_value md_L_value ⟨by omega, by omega⟩ ⟨by omega, by omega⟩ rfl (Nat.le_of_ble_eq_true rfl) (as := [.ref (zA Z (6) (0) (0)), .int (4)]) (rest := []) rfl dL_law_473 rfl ?_
    refine j_istore X dL_law_476 rfl (by decide) (Ls2 := [(13, .int (pMFact S 0 4)), (11, .long ((S 0 4 4 7).toInt64)), (6, .int (nI (a))), (5, .int (x)), (4, .int (nI (n))), (3, .int (nI (nn))), (1, .ref (zA Z (6) (0) (0))), (0, .ref (b))]) rfl ?_
    refine j_aload_n X dL_law_478 rfl rfl (q := 6) rfl ?_
    refine j_iload X dL_law_479 rfl (q := 2) rfl ?_
    obtain ⟨r1, S1, i1, g1, g2, g3, hc1⟩ := q_step (l := l) (Z := Z) (h := h) (k := 0) hfl hI ha hP (by omega)
    refine j_callQX X hSt hZ hc1 lk_RL_147 mt_L_step ini_RL mc_L_step md_L_step ⟨by omega, by omega⟩ ⟨by omega, by omega⟩ rfl (Nat.le_of_ble_eq_true rfl) (as := [.ref (zA Z (6) (0) (0)), .int (nI (a))]) (rest := []) rfl dL_law_481 rfl ?_
    refine j_ldc X (v := -1000000902) dL_law_484 rfl (List.mem_of_getElem? (i := 4) (by decide +kernel)) ?_
    refine j_icmp_eq X dL_law_486 rfl (tgt := 519) (by decide) (fun c_486 => ?_) (fun c_486 => ?_)
    · refine j_iinc X dL_law_519 rfl (q := 4) rfl (v := (nI (n + 1))) (nI_1 _) (by decide) (Ls2 := [(4, .int (nI (n + 1))), (13, .int (pMFact S 0 4)), (11, .long ((S 0 4 4 7).toInt64)), (6, .int (nI (a))), (5, .int (x)), (3, .int (nI (nn))), (1, .ref (zA Z (6) (0) (0))), (0, .ref (b))]) rfl ?_
      refine j_goto X (tgt := 186) dL_law_522 (by decide) ?_
      refine j_sub [0, 5, 6, 7] (Ls2 := [(4, .int (nI (n + 1))), (3, .int (nI (nn))), (1, .ref (zA Z (6) (0) (0))), (0, .ref (b))]) rfl ?_
      exact K _ _ _ (by omega) (by omega) (LI_mono i1 (by omega) (by omega) (Nat.zero_le _))
    · refine j_aload_n X dL_law_489 rfl rfl (q := 6) rfl ?_
      obtain ⟨r2, w1, w2, w3, w4, hc2⟩ := q_unstep (l := l) (Z := Z) (h := h) (a := a) hI (by have z := i1; rw [if_neg (fun w => c_486 (g1.mpr w))] at z; exact z) (g3 c_486).2.1 (g3 c_486).2.2.2
      refine j_callQW X hSt hZ hc2 lk_RL_161 mt_L_undo ini_RL mc_L_undo md_L_undo ⟨by omega, by omega⟩ ⟨by omega, by omega⟩ rfl (Nat.le_of_ble_eq_true rfl) (as := [.ref (zA Z (6) (0) (0))]) (rest := []) rfl dL_law_490 rfl ?_
      refine j_if_lt_f X dL_law_493 rfl (tgt := 517) (by decide) w1 ?_
      refine j_aload_n X dL_law_496 rfl rfl (q := 6) rfl ?_
      refine j_callQ X hSt hZ (c_L_commits l Z ((pUndo S1)) h) lk_RL_182 mt_L_commits ini_RL mc_L_commits md_L_commits ⟨by omega, by omega⟩ ⟨by omega, by omega⟩ rfl (Nat.le_of_ble_eq_true rfl) (as := [.ref (zA Z (6) (0) (0))]) (rest := []) rfl dL_law_497 rfl ?_
      refine j_i2l X dL_law_500 rfl ?_
      refine j_lload X dL_law_501 rfl (q := 1) rfl ?_
      refine j_lcmp X dL_law_503 rfl ?_
      refine j_if_ne_f X dL_law_504 rfl (tgt := 517) (by decide) (by rw [w3]; exact lg_cmp_self _) ?_
      refine j_aload_n X dL_law_507 rfl rfl (q := 6) rfl ?_
      refine j_iconst X dL_law_508 rfl (v := 4) (by decide) ?_
      refine j_callQW X hSt hZ (w_value l Z ((pUndo S1)) ((pUndo S1)) h (4) _ (c_X5_value l Z ((pUndo S1)) h 4 (by decide) (ccn w2.cc.1 w2.cc.2))) lk_RL_97 mt_L_value ini_RL mc_L_value md_L_value ⟨by omega, by omega⟩ ⟨by omega, by omega⟩ rfl (Nat.le_of_ble_eq_true rfl) (as := [.ref (zA Z (6) (0) (0)), .int (4)]) (rest := []) rfl dL_law_509 rfl ?_
      refine j_iload X dL_law_512 rfl (q := 0) rfl ?_
      refine j_icmp_eq_t X (tgt := 519) dL_law_514 (by decide) w4 ?_
      refine j_iinc X dL_law_519 rfl (q := 4) rfl (v := (nI (n + 1))) (nI_1 _) (by decide) (Ls2 := [(4, .int (nI (n + 1))), (13, .int (pMFact S 0 4)), (11, .long ((S 0 4 4 7).toInt64)), (6, .int (nI (a))), (5, .int (x)), (3, .int (nI (nn))), (1, .ref (zA Z (6) (0) (0))), (0, .ref (b))]) rfl ?_
      refine j_goto X (tgt := 186) dL_law_522 (by decide) ?_
      refine j_sub [0, 5, 6, 7] (Ls2 := [(4, .int (nI (n + 1))), (3, .int (nI (nn))), (1, .ref (zA Z (6) (0) (0))), (0, .ref (b))]) rfl ?_
      exact K _ _ _ (by omega) (by omega) (LI_mono w2 (by omega) (by omega) (Nat.zero_le _))
set_option maxRecDepth 100000 in
set_option maxHeartbeats 4000000 in
theorem law_2 (X : JX p s mi args meth c cL_law 14 RL Z A0) (hSt : hStr s) (hZ : hZq A0 s s.heap) (hX : LSc s A0 b L xs) (hfl : l.stackTraces = false) (hO : zO Z = false) (hI : LI S nn N P 0) (ha : a < nn) (hn : n < 14) (hP : P < 400) (hN : N + 202 < 2 ^ 30) (hR : 13 ≤ R.frames ∧ 528 ≤ R.locals ∧ cells + 5 ≤ R.cells ∧ slots + 38 ≤ R.slots) (K : ∀ (S2 : St) (ce sl : Nat), ce ≤ cells + 5 → sl ≤ slots + 38 → LI S2 nn (N + 201) (P) 0 → J p l e R s mi args below meth c 14 Z A0 ce sl Q S2 h [(4, .int (nI (n + 1))), (3, .int (nI (nn))), (1, .ref (zA Z (6) (0) (0))), (0, .ref (b))] 186 []) : J p l e R s mi args below meth c 14 Z A0 cells slots Q S h [(6, .int (nI (a))), (5, .int (x)), (4, .int (nI (n))), (3, .int (nI (nn))), (1, .ref (zA Z (6) (0) (0))), (0, .ref (b))] 426 [] := by
  refine j_aload_n X dL_law_426 rfl rfl (q := 4) rfl ?_
  obtain ⟨S1, i1, m1, m2, hc1⟩ := q_lines (l := l) (h := h) hO hI (by omega)
  refine j_callQ X hSt hZ hc1 lk_RL_157 mt_L_lines ini_RL mc_L_lines md_L_lines ⟨by omega, by omega⟩ ⟨by omega, by omega⟩ rfl (Nat.le_of_ble_eq_true rfl) (as := [.ref (zA Z (6) (0) (0))]) (rest := []) rfl dL_law_427 rfl ?_
  refine j_if_ne_t X (tgt := 435) dL_law_430 (by decide) (by decide) ?_
  refine j_iload X dL_law_435 rfl (q := 2) rfl ?_
  refine j_iconst X dL_law_437 rfl (v := 5) (by decide) ?_
  refine j_irem X dL_law_438 rfl (by decide) ?_
  refine j_topeq (y := nI ((n) % 5)) (pk_rem (by omega) (by decide) (by decide)) ?_
  refine j_iconst X dL_law_439 rfl (v := 4) (by decide) ?_
  refine j_icmpN_ne X (a := (n) % 5) (b := 4) (by omega) (by omega) dL_law_440 rfl (tgt := 456) (by decide) (fun c_440 => ?_) (fun c_440 => ?_)
  · exact law_3 X hSt hZ hX hfl hO i1 ha hn hP (by omega) ⟨by omega, by omega, by omega, by omega⟩ (fun S9 ce sl k1 k2 k3 => K S9 ce sl (by omega) (by omega) (LI_mono k3 (by omega) (Nat.le_refl _) (Nat.le_refl _)))
  · refine j_aload_n X dL_law_443 rfl rfl (q := 4) rfl ?_
    refine j_iload X dL_law_444 rfl (q := 1) rfl ?_
    refine j_iconst X dL_law_446 rfl (v := 5) (by decide) ?_
    refine j_ishr X dL_law_447 rfl ?_
    obtain ⟨S2, i2, hc2⟩ := q_runs (l := l) (h := h) hO i1 hP (by omega) ((x) >>> ((5) &&& 31))
    refine j_callQ X hSt hZ hc2 lk_RL_178 mt_L_runs ini_RL mc_L_runs md_L_runs ⟨by omega, by omega⟩ ⟨by omega, by omega⟩ rfl (Nat.le_of_ble_eq_true rfl) (as := [.ref (zA Z (6) (0) (0)), .int ((x) >>> ((5) &&& 31))]) (rest := []) rfl dL_law_448 rfl ?_
    refine j_if_ne_t X (tgt := 456) dL_law_451 (by decide) (by decide) ?_
    exact law_3 X hSt hZ hX hfl hO i2 ha hn hP (by omega) ⟨by omega, by omega, by omega, by omega⟩ (fun S9 ce sl k1 k2 k3 => K S9 ce sl (by omega) (by omega) (LI_mono k3 (by omega) (Nat.le_refl _) (Nat.le_refl _)))
set_option maxRecDepth 100000 in
set_option maxHeartbeats 4000000 in
theorem law_1a (X : JX p s mi args meth c cL_law 14 RL Z A0) (hSt : hStr s) (hZ : hZq A0 s s.heap) (hX : LSc s A0 b L xs) (hfl : l.stackTraces = false) (hO : zO Z = false) (hI : LI S nn N P 0) (ha : a < nn) (hn : n < 14) (hw8 : hw < 8) (hP : P < 400) (hN : N + 202 < 2 ^ 30) (hR : 13 ≤ R.frames ∧ 528 ≤ R.locals ∧ cells + 5 ≤ R.cells ∧ slots + 38 ≤ R.slots) (K : ∀ (S2 : St) (ce sl : Nat), ce ≤ cells + 5 → sl ≤ slots + 38 → LI S2 nn (N + 201) (P) 0 → J p l e R s mi args below meth c 14 Z A0 ce sl Q S2 h [(4, .int (nI (n + 1))), (3, .int (nI (nn))), (1, .ref (zA Z (6) (0) (0))), (0, .ref (b))] 186 []) (hw4 : hw < 4) : J p l e R s mi args below meth c 14 Z A0 cells slots Q S h [(9, .int (1)), (8, .int (u8)), (7, .int (nI (hw))), (6, .int (nI (a))), (5, .int (x)), (4, .int (nI (n))), (3, .int (nI (nn))), (1, .ref (zA Z (6) (0) (0))), (0, .ref (b))] 354 [.int (-1000000902)] := by
  refine j_istore X dL_law_354 rfl (by decide) (Ls2 := [(10, .int (-1000000902)), (9, .int (1)), (8, .int (u8)), (7, .int (nI (hw))), (6, .int (nI (a))), (5, .int (x)), (4, .int (nI (n))), (3, .int (nI (nn))), (1, .ref (zA Z (6) (0) (0))), (0, .ref (b))]) rfl ?_
  refine j_iload X dL_law_356 rfl (q := 0) rfl ?_
  refine j_if_ge_f X dL_law_358 rfl (tgt := 368) (by decide) (by decide) ?_
  refine j_iload X dL_law_361 rfl (q := 0) rfl ?_
  refine j_ldc X (v := -1000000902) dL_law_363 rfl (List.mem_of_getElem? (i := 4) (by decide +kernel)) ?_
  refine j_icmp_ne_f X dL_law_365 rfl (tgt := 433) (by decide) (by decide) ?_
  refine j_iload X dL_law_368 rfl (q := 3) rfl ?_
  refine j_iconst X dL_law_370 rfl (v := 4) (by decide) ?_
  refine j_icmp_ge_f X dL_law_371 rfl (tgt := 400) (by decide) (nI_ge hw4 (by decide)) ?_
  refine j_iload X dL_law_374 rfl (q := 0) rfl ?_
  refine j_ldc X (v := -1000000902) dL_law_376 rfl (List.mem_of_getElem? (i := 4) (by decide +kernel)) ?_
  refine j_icmp_ne_f X dL_law_378 rfl (tgt := 385) (by decide) (by decide) ?_
  refine j_iconst X dL_law_381 rfl (v := 1) (by decide) ?_
  refine j_goto X (tgt := 386) dL_law_382 (by decide) ?_
  refine j_iload X dL_law_386 rfl (q := 1) rfl ?_
  refine j_iconst X dL_law_388 rfl (v := 1) (by decide) ?_
  refine j_icmp_ne_f X dL_law_389 rfl (tgt := 396) (by decide) (by decide) ?_
  refine j_iconst X dL_law_392 rfl (v := 1) (by decide) ?_
  refine j_goto X (tgt := 397) dL_law_393 (by decide) ?_
  refine j_icmp_ne_f X dL_law_397 rfl (tgt := 433) (by decide) (by decide) ?_
  refine j_iload X dL_law_400 rfl (q := 3) rfl ?_
  refine j_iconst X dL_law_402 rfl (v := 4) (by decide) ?_
  refine j_icmp_ge_f X dL_law_403 rfl (tgt := 426) (by decide) (nI_ge hw4 (by decide)) ?_
  refine j_iload X dL_law_406 rfl (q := 0) rfl ?_
  refine j_ldc X (v := -1000000902) dL_law_408 rfl (List.mem_of_getElem? (i := 4) (by decide +kernel)) ?_
  refine j_icmp_eq_t X (tgt := 426) dL_law_410 (by decide) (by decide) ?_
  refine j_sub [4, 5, 6, 7, 8, 9] (Ls2 := [(6, .int (nI (a))), (5, .int (x)), (4, .int (nI (n))), (3, .int (nI (nn))), (1, .ref (zA Z (6) (0) (0))), (0, .ref (b))]) rfl ?_
  exact law_2 X hSt hZ hX hfl hO hI ha hn hP hN ⟨by omega, by omega, by omega, by omega⟩ K
set_option maxRecDepth 100000 in
set_option maxHeartbeats 4000000 in
theorem law_1b (X : JX p s mi args meth c cL_law 14 RL Z A0) (hSt : hStr s) (hZ : hZq A0 s s.heap) (hX : LSc s A0 b L xs) (hfl : l.stackTraces = false) (hO : zO Z = false) {r : Int32} (hI : LI S nn N P 0) (ha : a < nn) (hn : n < 14) (hw8 : hw < 8) (hP : P < 400) (hN : N + 202 < 2 ^ 30) (hR : 13 ≤ R.frames ∧ 528 ≤ R.locals ∧ cells + 5 ≤ R.cells ∧ slots + 38 ≤ R.slots) (K : ∀ (S2 : St) (ce sl : Nat), ce ≤ cells + 5 → sl ≤ slots + 38 → LI S2 nn (N + 201) (P) 0 → J p l e R s mi args below meth c 14 Z A0 ce sl Q S2 h [(4, .int (nI (n + 1))), (3, .int (nI (nn))), (1, .ref (zA Z (6) (0) (0))), (0, .ref (b))] 186 []) (hw4 : hw < 4) (hr : 0 ≤ r) (hne : ¬ r = -1000000902) (hct : S 0 4 3 7 = u8 + 1) : J p l e R s mi args below meth c 14 Z A0 cells slots Q S h [(9, .int (0)), (8, .int (u8)), (7, .int (nI (hw))), (6, .int (nI (a))), (5, .int (x)), (4, .int (nI (n))), (3, .int (nI (nn))), (1, .ref (zA Z (6) (0) (0))), (0, .ref (b))] 354 [.int (r)] := by
  refine j_istore X dL_law_354 rfl (by decide) (Ls2 := [(10, .int (r)), (9, .int (0)), (8, .int (u8)), (7, .int (nI (hw))), (6, .int (nI (a))), (5, .int (x)), (4, .int (nI (n))), (3, .int (nI (nn))), (1, .ref (zA Z (6) (0) (0))), (0, .ref (b))]) rfl ?_
  refine j_iload X dL_law_356 rfl (q := 0) rfl ?_
  refine j_if_ge_t X (tgt := 368) dL_law_358 (by decide) hr ?_
  refine j_iload X dL_law_368 rfl (q := 3) rfl ?_
  refine j_iconst X dL_law_370 rfl (v := 4) (by decide) ?_
  refine j_icmp_ge_f X dL_law_371 rfl (tgt := 400) (by decide) (nI_ge hw4 (by decide)) ?_
  refine j_iload X dL_law_374 rfl (q := 0) rfl ?_
  refine j_ldc X (v := -1000000902) dL_law_376 rfl (List.mem_of_getElem? (i := 4) (by decide +kernel)) ?_
  refine j_icmp_ne_t X (tgt := 385) dL_law_378 (by decide) hne ?_
  refine j_iconst X dL_law_385 rfl (v := 0) (by decide) ?_
  refine j_iload X dL_law_386 rfl (q := 1) rfl ?_
  refine j_iconst X dL_law_388 rfl (v := 1) (by decide) ?_
  refine j_icmp_ne_t X (tgt := 396) dL_law_389 (by decide) (by decide) ?_
  refine j_iconst X dL_law_396 rfl (v := 0) (by decide) ?_
  refine j_icmp_ne_f X dL_law_397 rfl (tgt := 433) (by decide) (by decide) ?_
  refine j_iload X dL_law_400 rfl (q := 3) rfl ?_
  refine j_iconst X dL_law_402 rfl (v := 4) (by decide) ?_
  refine j_icmp_ge_f X dL_law_403 rfl (tgt := 426) (by decide) (nI_ge hw4 (by decide)) ?_
  refine j_iload X dL_law_406 rfl (q := 0) rfl ?_
  refine j_ldc X (v := -1000000902) dL_law_408 rfl (List.mem_of_getElem? (i := 4) (by decide +kernel)) ?_
  refine j_icmp_eq_f X dL_law_410 rfl (tgt := 426) (by decide) hne ?_
  refine j_aload_n X dL_law_413 rfl rfl (q := 8) rfl ?_
  refine j_bipush X dL_law_414 rfl (v := 7) (by decide) ?_
  refine j_callQW X hSt hZ (w_counter l Z S S h (7) _ (c_X5_counter l Z S h 7 (by decide))) lk_RL_114 mt_L_counter ini_RL mc_L_counter md_L_counter ⟨by omega, by omega⟩ ⟨by omega, by omega⟩ rfl (Nat.le_of_ble_eq_true rfl) (as := [.ref (zA Z (6) (0) (0)), .int (7)]) (rest := []) rfl dL_law_416 rfl ?_
  refine j_iload X dL_law_419 rfl (q := 2) rfl ?_
  refine j_iconst X dL_law_421 rfl (v := 1) (by decide) ?_
  refine j_iadd X dL_law_422 rfl ?_
  refine j_icmp_ne_f X dL_law_423 rfl (tgt := 433) (by decide) hct ?_
  refine j_sub [4, 5, 6, 7, 8, 9] (Ls2 := [(6, .int (nI (a))), (5, .int (x)), (4, .int (nI (n))), (3, .int (nI (nn))), (1, .ref (zA Z (6) (0) (0))), (0, .ref (b))]) rfl ?_
  exact law_2 X hSt hZ hX hfl hO hI ha hn hP hN ⟨by omega, by omega, by omega, by omega⟩ K
set_option maxRecDepth 100000 in
set_option maxHeartbeats 4000000 in
theorem law_1c (X : JX p s mi args meth c cL_law 14 RL Z A0) (hSt : hStr s) (hZ : hZq A0 s s.heap) (hX : LSc s A0 b L xs) (hfl : l.stackTraces = false) (hO : zO Z = false) {r f9 : Int32} (hI : LI S nn N P 0) (ha : a < nn) (hn : n < 14) (hw8 : hw < 8) (hP : P < 400) (hN : N + 202 < 2 ^ 30) (hR : 13 ≤ R.frames ∧ 528 ≤ R.locals ∧ cells + 5 ≤ R.cells ∧ slots + 38 ≤ R.slots) (K : ∀ (S2 : St) (ce sl : Nat), ce ≤ cells + 5 → sl ≤ slots + 38 → LI S2 nn (N + 201) (P) 0 → J p l e R s mi args below meth c 14 Z A0 ce sl Q S2 h [(4, .int (nI (n + 1))), (3, .int (nI (nn))), (1, .ref (zA Z (6) (0) (0))), (0, .ref (b))] 186 []) (hw4 : 4 ≤ hw) (hr : r < 0 → r = -1000000902) : J p l e R s mi args below meth c 14 Z A0 cells slots Q S h [(9, .int (f9)), (8, .int (u8)), (7, .int (nI (hw))), (6, .int (nI (a))), (5, .int (x)), (4, .int (nI (n))), (3, .int (nI (nn))), (1, .ref (zA Z (6) (0) (0))), (0, .ref (b))] 354 [.int (r)] := by
  refine j_istore X dL_law_354 rfl (by decide) (Ls2 := [(10, .int (r)), (9, .int (f9)), (8, .int (u8)), (7, .int (nI (hw))), (6, .int (nI (a))), (5, .int (x)), (4, .int (nI (n))), (3, .int (nI (nn))), (1, .ref (zA Z (6) (0) (0))), (0, .ref (b))]) rfl ?_
  refine j_iload X dL_law_356 rfl (q := 0) rfl ?_
  refine j_if_ge X dL_law_358 rfl (tgt := 368) (by decide) (fun c_358 => ?_) (fun c_358 => ?_)
  · refine j_iload X dL_law_368 rfl (q := 3) rfl ?_
    refine j_iconst X dL_law_370 rfl (v := 4) (by decide) ?_
    refine j_icmp_ge_t X (tgt := 400) dL_law_371 (by decide) (nI_le hw4 (by omega)) ?_
    refine j_iload X dL_law_400 rfl (q := 3) rfl ?_
    refine j_iconst X dL_law_402 rfl (v := 4) (by decide) ?_
    refine j_icmp_ge_t X (tgt := 426) dL_law_403 (by decide) (nI_le hw4 (by omega)) ?_
    refine j_sub [4, 5, 6, 7, 8, 9] (Ls2 := [(6, .int (nI (a))), (5, .int (x)), (4, .int (nI (n))), (3, .int (nI (nn))), (1, .ref (zA Z (6) (0) (0))), (0, .ref (b))]) rfl ?_
    exact law_2 X hSt hZ hX hfl hO hI ha hn hP hN ⟨by omega, by omega, by omega, by omega⟩ K
  · refine j_iload X dL_law_361 rfl (q := 0) rfl ?_
    refine j_ldc X (v := -1000000902) dL_law_363 rfl (List.mem_of_getElem? (i := 4) (by decide +kernel)) ?_
    refine j_icmp_ne_f X dL_law_365 rfl (tgt := 433) (by decide) (hr (Int32.not_le.mp c_358)) ?_
    refine j_iload X dL_law_368 rfl (q := 3) rfl ?_
    refine j_iconst X dL_law_370 rfl (v := 4) (by decide) ?_
    refine j_icmp_ge_t X (tgt := 400) dL_law_371 (by decide) (nI_le hw4 (by omega)) ?_
    refine j_iload X dL_law_400 rfl (q := 3) rfl ?_
    refine j_iconst X dL_law_402 rfl (v := 4) (by decide) ?_
    refine j_icmp_ge_t X (tgt := 426) dL_law_403 (by decide) (nI_le hw4 (by omega)) ?_
    refine j_sub [4, 5, 6, 7, 8, 9] (Ls2 := [(6, .int (nI (a))), (5, .int (x)), (4, .int (nI (n))), (3, .int (nI (nn))), (1, .ref (zA Z (6) (0) (0))), (0, .ref (b))]) rfl ?_
    exact law_2 X hSt hZ hX hfl hO hI ha hn hP hN ⟨by omega, by omega, by omega, by omega⟩ K
set_option maxRecDepth 100000 in
set_option maxHeartbeats 4000000 in
theorem law_0 (X : JX p s mi args meth c cL_law 14 RL Z A0) (hSt : hStr s) (hZ : hZq A0 s s.heap) (hX : LSc s A0 b L xs) (hfl : l.stackTraces = false) (hO : zO Z = false) {f9 : Int32} (hI : LI S nn N P 0) (ha : a < nn) (hn : n < 14) (hw8 : hw < 8) (hP : P + 9 < 400) (hN : N + 300 < 2 ^ 30) (hR : 13 ≤ R.frames ∧ 528 ≤ R.locals ∧ cells + 6 ≤ R.cells ∧ slots + 44 ≤ R.slots) (hf9 : (f9 = 1 ∧ pFin S 0 a = true) ∨ (f9 = 0 ∧ pFin S 0 a = false)) (K : ∀ (S2 : St) (ce sl : Nat), ce ≤ cells + 6 → sl ≤ slots + 44 → LI S2 nn (N + 300) (P + 9) 0 → J p l e R s mi args below meth c 14 Z A0 ce sl Q S2 h [(4, .int (nI (n + 1))), (3, .int (nI (nn))), (1, .ref (zA Z (6) (0) (0))), (0, .ref (b))] 186 []) : J p l e R s mi args below meth c 14 Z A0 cells slots Q S h [(9, .int (f9)), (8, .int (S 0 4 3 7)), (7, .int (nI (hw))), (6, .int (nI (a))), (5, .int (x)), (4, .int (nI (n))), (3, .int (nI (nn))), (1, .ref (zA Z (6) (0) (0))), (0, .ref (b))] 255 [] := by
  refine j_iload X dL_law_255 rfl (q := 2) rfl ?_
  refine j_iconst X dL_law_257 rfl (v := 4) (by decide) ?_
  refine j_icmpN_ge X (a := hw) (b := 4) (by omega) (by omega) dL_law_258 rfl (tgt := 270) (by decide) (fun c_258 => ?_) (fun c_258 => ?_)
  · refine j_iload X dL_law_270 rfl (q := 2) rfl ?_
    refine j_iconst X dL_law_272 rfl (v := 4) (by decide) ?_
    refine j_icmpN_ne X (a := hw) (b := 4) (by omega) (by omega) dL_law_273 rfl (tgt := 293) (by decide) (fun c_273 => ?_) (fun c_273 => ?_)
    · refine j_iload X dL_law_293 rfl (q := 2) rfl ?_
      refine j_iconst X dL_law_295 rfl (v := 5) (by decide) ?_
      refine j_icmpN_ne X (a := hw) (b := 5) (by omega) (by omega) dL_law_296 rfl (tgt := 325) (by decide) (fun c_296 => ?_) (fun c_296 => ?_)
      · refine j_iload X dL_law_325 rfl (q := 2) rfl ?_
        refine j_bipush X dL_law_327 rfl (v := 6) (by decide) ?_
        refine j_icmpN_ne X (a := hw) (b := 6) (by omega) (by omega) dL_law_329 rfl (tgt := 341) (by decide) (fun c_329 => ?_) (fun c_329 => ?_)
        · refine j_aload_n X dL_law_341 rfl rfl (q := 7) rfl ?_
          refine j_iload X dL_law_342 rfl (q := 4) rfl ?_
          refine j_bipush X dL_law_344 rfl (v := 7) (by decide) ?_
          refine j_ishr X dL_law_346 rfl ?_
          refine j_iconst X dL_law_347 rfl (v := 3) (by decide) ?_
          obtain ⟨u348, hu348, eu348⟩ := low_ok ((x) >>> ((7) &&& 31)) (k := 3) (by omega) (by omega)
          refine j_callQ X hSt hZ (c_L_low l Z S h ((x) >>> ((7) &&& 31)) (3) (by decide)) lk_RL_89 mt_L_low ini_RL mc_L_low md_L_low ⟨by omega, by omega⟩ ⟨by omega, by omega⟩ rfl (Nat.le_of_ble_eq_true rfl) (as := [.int ((x) >>> ((7) &&& 31)), .int (3)]) (rest := [.ref (zA Z (6) (0) (0))]) rfl dL_law_348 rfl ?_
          refine j_topeq (y := nI u348) eu348 ?_
          obtain ⟨r1, S1, i1, g1, hc1⟩ := q_pol (l := l) (Z := Z) (h := h) (j := u348) hI (by omega)
          refine j_callQX X hSt hZ hc1 lk_RL_139 mt_L_setPolicy ini_RL mc_L_setPolicy md_L_setPolicy ⟨by omega, by omega⟩ ⟨by omega, by omega⟩ rfl (Nat.le_of_ble_eq_true rfl) (as := [.ref (zA Z (6) (0) (0)), .int (nI (u348))]) (rest := []) rfl dL_law_351 rfl ?_
          exact law_1c X hSt hZ hX hfl hO (LI_mono i1 (N' := N + 30) (P' := P + 9) (k' := 0) (by omega) (by omega) (Nat.zero_le _)) ha hn hw8 (by omega) (by omega) ⟨by omega, by omega, by omega, by omega⟩ (fun S9 ce sl k1 k2 k3 => K S9 ce sl (by omega) (by omega) (LI_mono k3 (by omega) (Nat.le_refl _) (Nat.le_refl _))) (by omega) (fun z => absurd z g1)
        · refine j_aload_n X dL_law_332 rfl rfl (q := 7) rfl ?_
          refine j_iload X dL_law_333 rfl (q := 3) rfl ?_
          obtain ⟨r1, S1, i1, g1, hc1⟩ := q_again (l := l) (Z := Z) (h := h) hfl hI ha
          refine j_callQX X hSt hZ hc1 lk_RL_145 mt_L_again ini_RL mc_L_again md_L_again ⟨by omega, by omega⟩ ⟨by omega, by omega⟩ rfl (Nat.le_of_ble_eq_true rfl) (as := [.ref (zA Z (6) (0) (0)), .int (nI (a))]) (rest := []) rfl dL_law_335 rfl ?_
          refine j_goto X (tgt := 354) dL_law_338 (by decide) ?_
          exact law_1c X hSt hZ hX hfl hO (LI_mono i1 (N' := N + 30) (P' := P + 9) (k' := 0) (by omega) (by omega) (Nat.zero_le _)) ha hn hw8 (by omega) (by omega) ⟨by omega, by omega, by omega, by omega⟩ (fun S9 ce sl k1 k2 k3 => K S9 ce sl (by omega) (by omega) (LI_mono k3 (by omega) (Nat.le_refl _) (Nat.le_refl _))) (by omega) g1
      · refine j_aload_n X dL_law_299 rfl rfl (q := 7) rfl ?_
        refine j_iload X dL_law_300 rfl (q := 4) rfl ?_
        refine j_bipush X dL_law_302 rfl (v := 7) (by decide) ?_
        refine j_ishr X dL_law_304 rfl ?_
        refine j_iconst X dL_law_305 rfl (v := 3) (by decide) ?_
        obtain ⟨u306, hu306, eu306⟩ := low_ok ((x) >>> ((7) &&& 31)) (k := 3) (by omega) (by omega)
        refine j_callQ X hSt hZ (c_L_low l Z S h ((x) >>> ((7) &&& 31)) (3) (by decide)) lk_RL_89 mt_L_low ini_RL mc_L_low md_L_low ⟨by omega, by omega⟩ ⟨by omega, by omega⟩ rfl (Nat.le_of_ble_eq_true rfl) (as := [.int ((x) >>> ((7) &&& 31)), .int (3)]) (rest := [.ref (zA Z (6) (0) (0))]) rfl dL_law_306 rfl ?_
        refine j_topeq (y := nI u306) eu306 ?_
        refine j_iload X dL_law_309 rfl (q := 4) rfl ?_
        refine j_bipush X dL_law_311 rfl (v := 9) (by decide) ?_
        refine j_ishr X dL_law_313 rfl ?_
        refine j_bipush X dL_law_314 rfl (v := 90) (by decide) ?_
        obtain ⟨u316, hu316, eu316⟩ := low_ok ((x) >>> ((9) &&& 31)) (k := 90) (by omega) (by omega)
        refine j_callQ X hSt hZ (c_L_low l Z S h ((x) >>> ((9) &&& 31)) (90) (by decide)) lk_RL_89 mt_L_low ini_RL mc_L_low md_L_low ⟨by omega, by omega⟩ ⟨by omega, by omega⟩ rfl (Nat.le_of_ble_eq_true rfl) (as := [.int ((x) >>> ((9) &&& 31)), .int (90)]) (rest := [.int (nI (u306)), .ref (zA Z (6) (0) (0))]) rfl dL_law_316 rfl ?_
        refine j_topeq (y := nI u316) eu316 ?_
        obtain ⟨r1, S1, i1, g1, hc1⟩ := q_poke (l := l) (Z := Z) (h := h) (j := u306) (v := nI u316) hI (by omega) (by omega)
        refine j_callQX X hSt hZ hc1 lk_RL_151 mt_L_poke ini_RL mc_L_poke md_L_poke ⟨by omega, by omega⟩ ⟨by omega, by omega⟩ rfl (Nat.le_of_ble_eq_true rfl) (as := [.ref (zA Z (6) (0) (0)), .int (nI (u306)), .int (nI (u316))]) (rest := []) rfl dL_law_319 rfl ?_
        refine j_goto X (tgt := 354) dL_law_322 (by decide) ?_
        exact law_1c X hSt hZ hX hfl hO (LI_mono i1 (N' := N + 30) (P' := P + 9) (k' := 0) (by omega) (by omega) (Nat.zero_le _)) ha hn hw8 (by omega) (by omega) ⟨by omega, by omega, by omega, by omega⟩ (fun S9 ce sl k1 k2 k3 => K S9 ce sl (by omega) (by omega) (LI_mono k3 (by omega) (Nat.le_refl _) (Nat.le_refl _))) (by omega) (fun z => absurd z g1)
    · refine j_aload_n X dL_law_276 rfl rfl (q := 7) rfl ?_
      refine j_iload X dL_law_277 rfl (q := 4) rfl ?_
      refine j_bipush X dL_law_279 rfl (v := 7) (by decide) ?_
      refine j_ishr X dL_law_281 rfl ?_
      refine j_bipush X dL_law_282 rfl (v := 30) (by decide) ?_
      obtain ⟨u284, hu284, eu284⟩ := low_ok ((x) >>> ((7) &&& 31)) (k := 30) (by omega) (by omega)
      refine j_callQ X hSt hZ (c_L_low l Z S h ((x) >>> ((7) &&& 31)) (30) (by decide)) lk_RL_89 mt_L_low ini_RL mc_L_low md_L_low ⟨by omega, by omega⟩ ⟨by omega, by omega⟩ rfl (Nat.le_of_ble_eq_true rfl) (as := [.int ((x) >>> ((7) &&& 31)), .int (30)]) (rest := [.ref (zA Z (6) (0) (0))]) rfl dL_law_284 rfl ?_
      refine j_topeq (y := nI u284) eu284 ?_
      obtain ⟨r1, S1, i1, g1, hc1⟩ := q_runX (l := l) (Z := Z) (h := h) (b := u284) hI (by omega) (by omega) (by omega)
      refine j_callQX X hSt hZ hc1 lk_RL_149 mt_L_run ini_RL mc_L_run md_L_run ⟨by omega, by omega⟩ ⟨by omega, by omega⟩ rfl (Nat.le_of_ble_eq_true rfl) (as := [.ref (zA Z (6) (0) (0)), .int (nI (u284))]) (rest := []) rfl dL_law_287 rfl ?_
      refine j_goto X (tgt := 354) dL_law_290 (by decide) ?_
      exact law_1c X hSt hZ hX hfl hO (LI_mono i1 (N' := N + 30) (P' := P + 9) (k' := 0) (by omega) (by omega) (Nat.zero_le _)) ha hn hw8 (by omega) (by omega) ⟨by omega, by omega, by omega, by omega⟩ (fun S9 ce sl k1 k2 k3 => K S9 ce sl (by omega) (by omega) (LI_mono k3 (by omega) (Nat.le_refl _) (Nat.le_refl _))) (by omega) (fun z => absurd z g1)
  · refine j_aload_n X dL_law_261 rfl rfl (q := 7) rfl ?_
    refine j_iload X dL_law_262 rfl (q := 3) rfl ?_
    obtain ⟨r1, S1, i1, g1, g2, g3, hc1⟩ := q_step (l := l) (Z := Z) (h := h) (k := 0) hfl hI ha (by omega) (by omega)
    refine j_callQX X hSt hZ hc1 lk_RL_147 mt_L_step ini_RL mc_L_step md_L_step ⟨by omega, by omega⟩ ⟨by omega, by omega⟩ rfl (Nat.le_of_ble_eq_true rfl) (as := [.ref (zA Z (6) (0) (0)), .int (nI (a))]) (rest := []) rfl dL_law_264 rfl ?_
    refine j_goto X (tgt := 354) dL_law_267 (by decide) ?_
    by_cases hr : r1 = -1000000902
    · have hf := g1.mp hr
      obtain ⟨e9, -⟩ := hf9.resolve_right (fun z => nt z.2 hf)
      subst e9; subst hr
      exact law_1a X hSt hZ hX hfl hO (LI_mono i1 (N' := N + 30) (P' := P + 9) (k' := 0) (by omega) (by omega) (Nat.zero_le _)) ha hn hw8 (by omega) (by omega) ⟨by omega, by omega, by omega, by omega⟩ (fun S9 ce sl k1 k2 k3 => K S9 ce sl (by omega) (by omega) (LI_mono k3 (by omega) (Nat.le_refl _) (Nat.le_refl _))) (by omega)
    · obtain ⟨e9, -⟩ := hf9.resolve_left (fun z => hr (g1.mpr z.2))
      subst e9
      exact law_1b X hSt hZ hX hfl hO (LI_mono i1 (N' := N + 30) (P' := P + 9) (k' := 0) (by omega) (by omega) (Nat.zero_le _)) ha hn hw8 (by omega) (by omega) ⟨by omega, by omega, by omega, by omega⟩ (fun S9 ce sl k1 k2 k3 => K S9 ce sl (by omega) (by omega) (LI_mono k3 (by omega) (Nat.le_refl _) (Nat.le_refl _))) (by omega) (Int32.not_lt.mp (fun z => hr (g2 z))) hr (g3 hr).1
set_option maxRecDepth 100000 in
set_option maxHeartbeats 4000000 in
theorem law_acts (X : JX p s mi args meth c cL_law 14 RL Z A0) (hSt : hStr s) (hZ : hZq A0 s s.heap) (hX : LSc s A0 b L xs) (hfl : l.stackTraces = false) (hO : zO Z = false) (h0 : 0 < nn) : ∀ (m n : Nat) (S : St) (N P cells slots : Nat), m + n = 14 → LI S nn N P 0 → N + 300 * m < 2 ^ 30 → P + 9 * m < 400 → (13 ≤ R.frames ∧ 528 ≤ R.locals ∧ cells + 6 * m ≤ R.cells ∧ slots + 44 * m ≤ R.slots) → (∀ (S2 : St) (ce sl : Nat), ce ≤ cells + 6 * m → sl ≤ slots + 44 * m → LI S2 nn (N + 300 * m) (P + 9 * m) 0 → J p l e R s mi args below meth c 14 Z A0 ce sl Q S2 h [(3, .int (nI (nn))), (1, .ref (zA Z (6) (0) (0))), (0, .ref (b))] 525 []) → J p l e R s mi args below meth c 14 Z A0 cells slots Q S h [(4, .int (nI (n))), (3, .int (nI (nn))), (1, .ref (zA Z (6) (0) (0))), (0, .ref (b))] 186 [] := by
  intro m
  induction m with
  | zero =>
    intro n S N P cells slots hmn hI hN hP hR K
    refine j_iload X dL_law_186 rfl (q := 0) rfl ?_
    refine j_bipush X dL_law_188 rfl (v := 14) (by decide) ?_
    refine j_icmp_ge_t X (tgt := 525) dL_law_190 (by decide) (nI_le (a := 14) (by omega) (by omega)) ?_
    refine j_sub [1, 2, 3] (Ls2 := [(3, .int (nI (nn))), (1, .ref (zA Z (6) (0) (0))), (0, .ref (b))]) rfl ?_
    exact K _ _ _ (by omega) (by omega) (LI_mono hI (by omega) (by omega) (Nat.zero_le _))
  | succ m ih =>
    intro n S N P cells slots hmn hI hN hP hR K
    have hn4 := hI.cc.2
    refine j_iload X dL_law_186 rfl (q := 0) rfl ?_
    refine j_bipush X dL_law_188 rfl (v := 14) (by decide) ?_
    refine j_icmp_ge_f X dL_law_190 rfl (tgt := 525) (by decide) (nI_ge (a := n) (b := 14) (by omega) (by decide)) ?_
    refine j_aload_n X dL_law_193 rfl rfl (q := 3) rfl ?_
    refine j_bipush X dL_law_194 rfl (v := 38) (by decide) ?_
    refine j_iload X dL_law_196 rfl (q := 0) rfl ?_
    refine j_iadd X dL_law_198 rfl ?_
    refine j_topeq (y := nI (38 + n)) (nI_add 38 n) ?_
    refine j_callX X hX (c_L_cell l Z S h b L xs (38 + n) (by omega)) lk_RL_164 mt_L_cell ini_RL mc_L_cell md_L_cell ⟨by omega, by omega⟩ ⟨by omega, by omega⟩ rfl (Nat.le_of_ble_eq_true rfl) (as := [.ref (b), .int (nI (38 + n))]) (rest := []) rfl dL_law_199 rfl ?_
    generalize pCell L xs (38 + n) = x
    refine j_istore X dL_law_202 rfl (by decide) (Ls2 := [(5, .int (x)), (4, .int (nI (n))), (3, .int (nI (nn))), (1, .ref (zA Z (6) (0) (0))), (0, .ref (b))]) rfl ?_
    refine j_iload X dL_law_204 rfl (q := 0) rfl ?_
    refine j_iload_n X dL_law_206 rfl rfl (q := 2) rfl ?_
    obtain ⟨u207, hu207, eu207⟩ := low_ok (x) (k := nn) (by omega) (by omega)
    refine j_callQ X hSt hZ (c_L_low l Z S h (x) (nI (nn)) (fun z => absurd ((nI_eq (a := nn) (b := 0) (by omega) (by omega)).mp z) (by omega))) lk_RL_89 mt_L_low ini_RL mc_L_low md_L_low ⟨by omega, by omega⟩ ⟨by omega, by omega⟩ rfl (Nat.le_of_ble_eq_true rfl) (as := [.int (x), .int (nI (nn))]) (rest := []) rfl dL_law_207 rfl ?_
    refine j_topeq (y := nI u207) eu207 ?_
    refine j_istore X dL_law_210 rfl (by decide) (Ls2 := [(6, .int (nI (u207))), (5, .int (x)), (4, .int (nI (n))), (3, .int (nI (nn))), (1, .ref (zA Z (6) (0) (0))), (0, .ref (b))]) rfl ?_
    refine j_iload X dL_law_212 rfl (q := 1) rfl ?_
    refine j_iconst X dL_law_214 rfl (v := 3) (by decide) ?_
    refine j_ishr X dL_law_215 rfl ?_
    refine j_bipush X dL_law_216 rfl (v := 8) (by decide) ?_
    obtain ⟨u218, hu218, eu218⟩ := low_ok ((x) >>> ((3) &&& 31)) (k := 8) (by omega) (by omega)
    refine j_callQ X hSt hZ (c_L_low l Z S h ((x) >>> ((3) &&& 31)) (8) (by decide)) lk_RL_89 mt_L_low ini_RL mc_L_low md_L_low ⟨by omega, by omega⟩ ⟨by omega, by omega⟩ rfl (Nat.le_of_ble_eq_true rfl) (as := [.int ((x) >>> ((3) &&& 31)), .int (8)]) (rest := []) rfl dL_law_218 rfl ?_
    refine j_topeq (y := nI u218) eu218 ?_
    refine j_istore X dL_law_221 rfl (by decide) (Ls2 := [(7, .int (nI (u218))), (6, .int (nI (u207))), (5, .int (x)), (4, .int (nI (n))), (3, .int (nI (nn))), (1, .ref (zA Z (6) (0) (0))), (0, .ref (b))]) rfl ?_
    refine j_aload_n X dL_law_223 rfl rfl (q := 5) rfl ?_
    refine j_bipush X dL_law_224 rfl (v := 7) (by decide) ?_
    refine j_callQW X hSt hZ (w_counter l Z S S h (7) _ (c_X5_counter l Z S h 7 (by decide))) lk_RL_114 mt_L_counter ini_RL mc_L_counter md_L_counter ⟨by omega, by omega⟩ ⟨by omega, by omega⟩ rfl (Nat.le_of_ble_eq_true rfl) (as := [.ref (zA Z (6) (0) (0)), .int (7)]) (rest := []) rfl dL_law_226 rfl ?_
    refine j_istore X dL_law_229 rfl (by decide) (Ls2 := [(8, .int (S 0 4 3 7)), (7, .int (nI (u218))), (6, .int (nI (u207))), (5, .int (x)), (4, .int (nI (n))), (3, .int (nI (nn))), (1, .ref (zA Z (6) (0) (0))), (0, .ref (b))]) rfl ?_
    refine j_aload_n X dL_law_231 rfl rfl (q := 6) rfl ?_
    refine j_iload X dL_law_232 rfl (q := 2) rfl ?_
    refine j_iconst X dL_law_234 rfl (v := 1) (by decide) ?_
    refine j_callQW X hSt hZ (w_core l Z S S h (nI (u207)) (1) _ (c_X5_core l Z S h u207 (by omega) (hI.hC hu207) 1 (by decide))) lk_RL_109 mt_L_core ini_RL mc_L_core md_L_core ⟨by omega, by omega⟩ ⟨by omega, by omega⟩ rfl (Nat.le_of_ble_eq_true rfl) (as := [.ref (zA Z (6) (0) (0)), .int (nI (u207)), .int (1)]) (rest := []) rfl dL_law_235 rfl ?_
    refine j_topeq (y := (S 0 u207 0 3)) rfl ?_
    refine j_aload_n X dL_law_238 rfl rfl (q := 6) rfl ?_
    refine j_iload X dL_law_239 rfl (q := 2) rfl ?_
    refine j_iconst X dL_law_241 rfl (v := 2) (by decide) ?_
    refine j_callQW X hSt hZ (w_core l Z S S h (nI (u207)) (2) _ (c_X5_core l Z S h u207 (by omega) (hI.hC hu207) 2 (by decide))) lk_RL_109 mt_L_core ini_RL mc_L_core md_L_core ⟨by omega, by omega⟩ ⟨by omega, by omega⟩ rfl (Nat.le_of_ble_eq_true rfl) (as := [.ref (zA Z (6) (0) (0)), .int (nI (u207)), .int (2)]) (rest := [.int (S 0 u207 0 3)]) rfl dL_law_242 rfl ?_
    refine j_topeq (y := (S 0 u207 3 2)) rfl ?_
    refine j_icmp_ne X dL_law_245 rfl (tgt := 252) (by decide) (fun c_245 => ?_) (fun c_245 => ?_)
    · refine j_iconst X dL_law_252 rfl (v := 0) (by decide) ?_
      refine j_istore X dL_law_253 rfl (by decide) (Ls2 := [(9, .int (0)), (8, .int (S 0 4 3 7)), (7, .int (nI (u218))), (6, .int (nI (u207))), (5, .int (x)), (4, .int (nI (n))), (3, .int (nI (nn))), (1, .ref (zA Z (6) (0) (0))), (0, .ref (b))]) rfl ?_
      exact law_0 X hSt hZ hX hfl hO hI hu207 (by omega) hu218 (by omega) (by omega) ⟨by omega, by omega, by omega, by omega⟩ (Or.inr ⟨rfl, Bool.eq_false_iff.mpr (fun w => c_245 ((fin_iff hI hu207).mp w))⟩) (fun S9 ce sl k1 k2 k3 => ih (n + 1) S9 _ _ ce sl (by omega) k3 (by omega) (by omega) ⟨by omega, by omega, by omega, by omega⟩ (fun S8 ce8 sl8 q1 q2 q3 => K S8 ce8 sl8 (by omega) (by omega) (LI_mono q3 (by omega) (by omega) (Nat.le_refl _))))
    · refine j_iconst X dL_law_248 rfl (v := 1) (by decide) ?_
      refine j_goto X (tgt := 253) dL_law_249 (by decide) ?_
      refine j_istore X dL_law_253 rfl (by decide) (Ls2 := [(9, .int (1)), (8, .int (S 0 4 3 7)), (7, .int (nI (u218))), (6, .int (nI (u207))), (5, .int (x)), (4, .int (nI (n))), (3, .int (nI (nn))), (1, .ref (zA Z (6) (0) (0))), (0, .ref (b))]) rfl ?_
      exact law_0 X hSt hZ hX hfl hO hI hu207 (by omega) hu218 (by omega) (by omega) ⟨by omega, by omega, by omega, by omega⟩ (Or.inl ⟨rfl, (fin_iff hI hu207).mpr c_245⟩) (fun S9 ce sl k1 k2 k3 => ih (n + 1) S9 _ _ ce sl (by omega) k3 (by omega) (by omega) ⟨by omega, by omega, by omega, by omega⟩ (fun S8 ce8 sl8 q1 q2 q3 => K S8 ce8 sl8 (by omega) (by omega) (LI_mono q3 (by omega) (by omega) (Nat.le_refl _))))
set_option maxRecDepth 100000 in
set_option maxHeartbeats 4000000 in
theorem law_types (X : JX p s mi args meth c cL_law 14 RL Z A0) (hSt : hStr s) (hZ : hZq A0 s s.heap) (hX : LSc s A0 b L xs) (hfl : l.stackTraces = false) (hO : zO Z = false) {many q : Nat} (hm9 : many ≤ 9) (hq4 : q < 4) (hR : 13 ≤ R.frames ∧ 528 ≤ R.locals ∧ cells + 0 ≤ R.cells ∧ slots + 0 ≤ R.slots) : ∀ (m k : Nat) (S : St) (tl : Nat), m + k = many → LI S nn N P 0 → PR (S 6 0 1) k tl → S 6 0 0 1 = nI tl → tl ≤ 5 * k → (∀ a, a < 4 ∧ q ≤ a → S 0 a 0 5 = -1) → (∀ (S2 : St) (t2 : Nat), LI S2 nn N P 0 → PR (S2 6 0 1) many t2 → S2 6 0 0 1 = nI t2 → t2 ≤ 5 * many → (∀ a, a < 4 ∧ q ≤ a → S2 0 a 0 5 = -1) → J p l e R s mi args below meth c 14 Z A0 cells slots Q S2 h [(5, .int (nI (many))), (4, .int (nI (q))), (3, .int (nI (nn))), (1, .ref (zA Z (6) (0) (0))), (0, .ref (b))] 164 []) → J p l e R s mi args below meth c 14 Z A0 cells slots Q S h [(6, .int (nI (k))), (5, .int (nI (many))), (4, .int (nI (q))), (3, .int (nI (nn))), (1, .ref (zA Z (6) (0) (0))), (0, .ref (b))] 117 [] := by
  intro m
  induction m with
  | zero =>
    intro k S tl hmk hI hPR htl ht5 hnt K
    refine j_iload X dL_law_117 rfl (q := 0) rfl ?_
    refine j_iload X dL_law_119 rfl (q := 1) rfl ?_
    refine j_icmp_ge_t X (tgt := 164) dL_law_121 (by decide) (nI_le (a := many) (b := k) (by omega) (by omega)) ?_
    refine j_sub [1, 2, 3, 4, 5] (Ls2 := [(5, .int (nI (many))), (4, .int (nI (q))), (3, .int (nI (nn))), (1, .ref (zA Z (6) (0) (0))), (0, .ref (b))]) rfl ?_
    obtain rfl : k = many := by omega
    exact K S tl hI hPR htl (by omega) hnt
  | succ m ih =>
    intro k S tl hmk hI hPR htl ht5 hnt K
    refine j_iload X dL_law_117 rfl (q := 0) rfl ?_
    refine j_iload X dL_law_119 rfl (q := 1) rfl ?_
    refine j_icmp_ge_f X dL_law_121 rfl (tgt := 164) (by decide) (nI_ge (a := k) (b := many) (by omega) (by omega)) ?_
    refine j_aload_n X dL_law_124 rfl rfl (q := 4) rfl ?_
    refine j_iload X dL_law_125 rfl (q := 0) rfl ?_
    refine j_if_ne X dL_law_127 rfl (tgt := 134) (by decide) (fun c_127 => ?_) (fun c_127 => ?_)
    · refine j_aload_n X dL_law_134 rfl rfl (q := 5) rfl ?_
      refine j_iconst X dL_law_135 rfl (v := 1) (by decide) ?_
      refine j_bipush X dL_law_136 rfl (v := 9) (by decide) ?_
      refine j_iload X dL_law_138 rfl (q := 2) rfl ?_
      refine j_imul X dL_law_140 rfl ?_
      refine j_topeq (y := nI (9 * q)) (pk_mul 9 q) ?_
      refine j_iadd X dL_law_141 rfl ?_
      refine j_topeq (y := nI (1 + (9 * q))) (nI_add 1 (9 * q)) ?_
      refine j_iload X dL_law_142 rfl (q := 0) rfl ?_
      refine j_iadd X dL_law_144 rfl ?_
      refine j_topeq (y := nI ((1 + (9 * q)) + k)) (nI_add (1 + (9 * q)) k) ?_
      refine j_callX X hX (c_L_cell l Z S h b L xs ((1 + (9 * q)) + k) (by omega)) lk_RL_164 mt_L_cell ini_RL mc_L_cell md_L_cell ⟨by omega, by omega⟩ ⟨by omega, by omega⟩ rfl (Nat.le_of_ble_eq_true rfl) (as := [.ref (b), .int (nI ((1 + (9 * q)) + k))]) (rest := [.ref (zA Z (6) (0) (0))]) rfl dL_law_145 rfl ?_
      refine j_iconst X dL_law_148 rfl (v := 3) (by decide) ?_
      obtain ⟨cs, q1, q2, q3, hc⟩ := q_types (l := l) (Z := Z) (S := S) (h := h) (pCell L xs ((1 + (9 * q)) + k)) htl (by omega)
      obtain ⟨v1, v2, v3⟩ := apL_at cs S tl htl (by omega)
      refine j_callQ X hSt hZ hc lk_RL_175 mt_L_types ini_RL mc_L_types md_L_types ⟨by omega, by omega⟩ ⟨by omega, by omega⟩ rfl (Nat.le_of_ble_eq_true rfl) (as := [.ref (zA Z (6) (0) (0)), .int (pCell L xs ((1 + (9 * q)) + k)), .int (3)]) (rest := []) rfl dL_law_149 rfl ?_
      refine j_iconst X dL_law_152 rfl (v := 2) (by decide) ?_
      refine j_icmp_ge_t X (tgt := 158) dL_law_153 (by decide) (nI_le (a := 2) (b := tl + cs.length) (by omega) (by omega)) ?_
      refine j_iinc X dL_law_158 rfl (q := 0) rfl (v := (nI (k + 1))) (nI_1 _) (by decide) (Ls2 := [(6, .int (nI (k + 1))), (5, .int (nI (many))), (4, .int (nI (q))), (3, .int (nI (nn))), (1, .ref (zA Z (6) (0) (0))), (0, .ref (b))]) rfl ?_
      refine j_goto X (tgt := 117) dL_law_161 (by decide) ?_
      exact ih (k + 1) (apL cs S) (tl + cs.length) (by omega) (LI_apL cs S tl hI htl (by omega)) (PR_add hPR (by omega) q1 v2 v3) v1 (by omega) (fun a9 h9 => by rw [apL_m (by omega)]; exact hnt a9 h9) K
    · refine j_iconst X dL_law_130 rfl (v := 0) (by decide) ?_
      refine j_goto X (tgt := 148) dL_law_131 (by decide) ?_
      refine j_iconst X dL_law_148 rfl (v := 3) (by decide) ?_
      obtain ⟨cs, q1, q2, q3, hc⟩ := q_types (l := l) (Z := Z) (S := S) (h := h) (0) htl (by omega)
      obtain ⟨v1, v2, v3⟩ := apL_at cs S tl htl (by omega)
      refine j_callQ X hSt hZ hc lk_RL_175 mt_L_types ini_RL mc_L_types md_L_types ⟨by omega, by omega⟩ ⟨by omega, by omega⟩ rfl (Nat.le_of_ble_eq_true rfl) (as := [.ref (zA Z (6) (0) (0)), .int (0), .int (3)]) (rest := []) rfl dL_law_149 rfl ?_
      refine j_iconst X dL_law_152 rfl (v := 2) (by decide) ?_
      refine j_icmp_ge_t X (tgt := 158) dL_law_153 (by decide) (nI_le (a := 2) (b := tl + cs.length) (by omega) (by omega)) ?_
      refine j_iinc X dL_law_158 rfl (q := 0) rfl (v := (nI (k + 1))) (nI_1 _) (by decide) (Ls2 := [(6, .int (nI (k + 1))), (5, .int (nI (many))), (4, .int (nI (q))), (3, .int (nI (nn))), (1, .ref (zA Z (6) (0) (0))), (0, .ref (b))]) rfl ?_
      refine j_goto X (tgt := 117) dL_law_161 (by decide) ?_
      exact ih (k + 1) (apL cs S) (tl + cs.length) (by omega) (LI_apL cs S tl hI htl (by omega)) (PR_add hPR (by omega) q1 v2 v3) v1 (by omega) (fun a9 h9 => by rw [apL_m (by omega)]; exact hnt a9 h9) K
set_option maxRecDepth 100000 in
set_option maxHeartbeats 4000000 in
theorem law_loads (X : JX p s mi args meth c cL_law 14 RL Z A0) (hSt : hStr s) (hZ : hZq A0 s s.heap) (hX : LSc s A0 b L xs) (hfl : l.stackTraces = false) (hO : zO Z = false) (hR : 13 ≤ R.frames ∧ 528 ≤ R.locals ∧ cells + 0 ≤ R.cells ∧ slots + 0 ≤ R.slots) : ∀ (m q : Nat) (S : St) (P : Nat), m + q = nn → LI S nn N P 0 → (∀ a, a < 4 ∧ q ≤ a → S 0 a 0 5 = -1) → (∀ S2 : St, LI S2 nn N (P + 9 * m) 0 → J p l e R s mi args below meth c 14 Z A0 cells slots Q S2 h [(3, .int (nI (nn))), (1, .ref (zA Z (6) (0) (0))), (0, .ref (b))] 183 []) → J p l e R s mi args below meth c 14 Z A0 cells slots Q S h [(4, .int (nI (q))), (3, .int (nI (nn))), (1, .ref (zA Z (6) (0) (0))), (0, .ref (b))] 83 [] := by
  intro m
  induction m with
  | zero =>
    intro q S P hmq hI hnt K
    have hn4 := hI.cc.2
    refine j_iload X dL_law_83 rfl (q := 0) rfl ?_
    refine j_iload_n X dL_law_85 rfl rfl (q := 1) rfl ?_
    refine j_icmp_ge_t X (tgt := 183) dL_law_86 (by decide) (nI_le (a := nn) (b := q) (by omega) (by omega)) ?_
    refine j_sub [1, 2, 3] (Ls2 := [(3, .int (nI (nn))), (1, .ref (zA Z (6) (0) (0))), (0, .ref (b))]) rfl ?_
    exact K S (LI_mono hI (by omega) (by omega) (Nat.le_refl _))
  | succ m ih =>
    intro q S P hmq hI hnt K
    have hn4 := hI.cc.2
    refine j_iload X dL_law_83 rfl (q := 0) rfl ?_
    refine j_iload_n X dL_law_85 rfl rfl (q := 1) rfl ?_
    refine j_icmp_ge_f X dL_law_86 rfl (tgt := 183) (by decide) (nI_ge (a := q) (b := nn) (by omega) (by omega)) ?_
    refine j_iconst X dL_law_89 rfl (v := 2) (by decide) ?_
    refine j_aload_n X dL_law_90 rfl rfl (q := 3) rfl ?_
    refine j_iconst X dL_law_91 rfl (v := 1) (by decide) ?_
    refine j_bipush X dL_law_92 rfl (v := 9) (by decide) ?_
    refine j_iload X dL_law_94 rfl (q := 0) rfl ?_
    refine j_imul X dL_law_96 rfl ?_
    refine j_topeq (y := nI (9 * q)) (pk_mul 9 q) ?_
    refine j_iadd X dL_law_97 rfl ?_
    refine j_topeq (y := nI (1 + (9 * q))) (nI_add 1 (9 * q)) ?_
    refine j_callX X hX (c_L_cell l Z S h b L xs (1 + (9 * q)) (by omega)) lk_RL_164 mt_L_cell ini_RL mc_L_cell md_L_cell ⟨by omega, by omega⟩ ⟨by omega, by omega⟩ rfl (Nat.le_of_ble_eq_true rfl) (as := [.ref (b), .int (nI (1 + (9 * q)))]) (rest := [.int (2)]) rfl dL_law_98 rfl ?_
    refine j_bipush X dL_law_101 rfl (v := 8) (by decide) ?_
    obtain ⟨u103, hu103, eu103⟩ := low_ok (pCell L xs (1 + (9 * q))) (k := 8) (by omega) (by omega)
    refine j_callQ X hSt hZ (c_L_low l Z S h (pCell L xs (1 + (9 * q))) (8) (by decide)) lk_RL_89 mt_L_low ini_RL mc_L_low md_L_low ⟨by omega, by omega⟩ ⟨by omega, by omega⟩ rfl (Nat.le_of_ble_eq_true rfl) (as := [.int (pCell L xs (1 + (9 * q))), .int (8)]) (rest := [.int (2)]) rfl dL_law_103 rfl ?_
    refine j_topeq (y := nI u103) eu103 ?_
    refine j_iadd X dL_law_106 rfl ?_
    refine j_topeq (y := nI (2 + u103)) (nI_add 2 u103) ?_
    refine j_istore X dL_law_107 rfl (by decide) (Ls2 := [(5, .int (nI (2 + u103))), (4, .int (nI (q))), (3, .int (nI (nn))), (1, .ref (zA Z (6) (0) (0))), (0, .ref (b))]) rfl ?_
    refine j_aload_n X dL_law_109 rfl rfl (q := 3) rfl ?_
    refine j_calli X (c_X5_clearText l Z S h ) (wm_top (by decide)) ((fun _ => rfl) _) rfl lk_RL_172 mi_X5_clearText ms_X5_clearText ini_RX5 mc_X5_clearText md_X5_clearText ⟨by omega, by omega⟩ ⟨by omega, by omega⟩ rfl (Nat.le_of_ble_eq_true rfl) (as := []) (rest := []) rfl dL_law_110 rfl ?_
    refine j_name (fun S1 eS1 => ?_)
    refine j_pop X dL_law_113 rfl rfl ?_
    refine j_iconst X dL_law_114 rfl (v := 0) (by decide) ?_
    refine j_istore X dL_law_115 rfl (by decide) (Ls2 := [(6, .int (0)), (5, .int (nI (2 + u103))), (4, .int (nI (q))), (3, .int (nI (nn))), (1, .ref (zA Z (6) (0) (0))), (0, .ref (b))]) rfl ?_
    refine j_sub [0, 1, 2, 3, 4, 5] (Ls2 := [(6, .int (0)), (5, .int (nI (2 + u103))), (4, .int (nI (q))), (3, .int (nI (nn))), (1, .ref (zA Z (6) (0) (0))), (0, .ref (b))]) rfl ?_
    refine law_types X hSt hZ hX hfl hO (many := 2 + u103) (q := q) (nn := nn) (N := N) (P := P) (by omega) (by omega) ⟨by omega, by omega, by omega, by omega⟩ (2 + u103) 0 S1 0 (by omega) (by rw [eS1]; exact LI_clr hI) (PR_0 _) (by rw [eS1, sF_eq (by omega)]; rfl) (by omega) (fun a9 h9 => by rw [eS1, setF_m (by omega)]; exact hnt a9 h9) (fun S2 tl i2 hPR htl ht5 hnt2 => ?_)
    refine j_aload_n X dL_law_164 rfl rfl (q := 3) rfl ?_
    refine j_iload X dL_law_165 rfl (q := 1) rfl ?_
    obtain ⟨S3, i3, f3, hc⟩ := q_load (l := l) (Z := Z) (h := h) i2 (a := q) (by omega) (hnt2 q (by omega)) hPR htl (by omega) (by omega)
    refine j_callQW X hSt hZ hc lk_RL_143 mt_L_load ini_RL mc_L_load md_L_load ⟨by omega, by omega⟩ ⟨by omega, by omega⟩ rfl (Nat.le_of_ble_eq_true rfl) (as := [.ref (zA Z (6) (0) (0)), .int (nI (q))]) (rest := []) rfl dL_law_167 rfl ?_
    refine j_iload X dL_law_170 rfl (q := 0) rfl ?_
    refine j_icmp_eq_t X (tgt := 177) dL_law_172 (by decide) rfl ?_
    refine j_iinc X dL_law_177 rfl (q := 1) rfl (v := (nI (q + 1))) (nI_1 _) (by decide) (Ls2 := [(4, .int (nI (q + 1))), (5, .int (nI (2 + u103))), (3, .int (nI (nn))), (1, .ref (zA Z (6) (0) (0))), (0, .ref (b))]) rfl ?_
    refine j_goto X (tgt := 83) dL_law_180 (by decide) ?_
    refine j_sub [0, 2, 3, 4] (Ls2 := [(4, .int (nI (q + 1))), (3, .int (nI (nn))), (1, .ref (zA Z (6) (0) (0))), (0, .ref (b))]) rfl ?_
    exact ih (q + 1) S3 (P + 9) (by omega) i3 (fun a9 h9 => by rw [f3 a9 (by omega)]; exact hnt2 a9 (by omega)) (fun S9 k9 => K S9 (LI_mono k9 (by omega) (by omega) (Nat.le_refl _)))
set_option maxRecDepth 100000 in
set_option maxHeartbeats 4000000 in
theorem law_end (X : JX p s mi args meth c cL_law 14 RL Z A0) (hSt : hStr s) (hZ : hZq A0 s s.heap) (hX : LSc s A0 b L xs) (hfl : l.stackTraces = false) (hO : zO Z = false) (hI : LI S nn N P 0) (hN : N < 2 ^ 30) (hR : 13 ≤ R.frames ∧ 528 ≤ R.locals ∧ cells + 22 ≤ R.cells ∧ slots + 136 ≤ R.slots) (K : ∀ (S2 : St) (ce sl : Nat) (Ls : List (Nat × Value)) (pc : Nat), ce ≤ cells + 22 → sl ≤ slots + 136 → decode cL_law pc = .ok (.ireturn, 1) → J p l e R s mi args below meth c 14 Z A0 ce sl Q S2 h Ls pc [.int 1]) : J p l e R s mi args below meth c 14 Z A0 cells slots Q S h [(3, .int (nI (nn))), (1, .ref (zA Z (6) (0) (0))), (0, .ref (b))] 525 [] := by
  refine j_aload_n X dL_law_525 rfl rfl (q := 1) rfl ?_
  refine j_callQ X hSt hZ (q_refuses (l := l) (Z := Z) (h := h) hfl hI) lk_RL_169 mt_L_refuses ini_RL mc_L_refuses md_L_refuses ⟨by omega, by omega⟩ ⟨by omega, by omega⟩ rfl (Nat.le_of_ble_eq_true rfl) (as := [.ref (zA Z (6) (0) (0))]) (rest := []) rfl dL_law_526 rfl ?_
  refine j_if_eq_f X dL_law_529 rfl (tgt := 543) (by decide) (by decide) ?_
  refine j_aload_n X dL_law_532 rfl rfl (q := 1) rfl ?_
  obtain ⟨S1, i1, m1, m2, hc1⟩ := q_lines (l := l) (h := h) hO hI (by omega)
  refine j_callQ X hSt hZ hc1 lk_RL_157 mt_L_lines ini_RL mc_L_lines md_L_lines ⟨by omega, by omega⟩ ⟨by omega, by omega⟩ rfl (Nat.le_of_ble_eq_true rfl) (as := [.ref (zA Z (6) (0) (0))]) (rest := []) rfl dL_law_533 rfl ?_
  refine j_if_eq_f X dL_law_536 rfl (tgt := 543) (by decide) (by decide) ?_
  refine j_iconst X dL_law_539 rfl (v := 1) (by decide) ?_
  refine j_goto X (tgt := 544) dL_law_540 (by decide) ?_
  exact K _ _ _ _ _ (by omega) (by omega) dL_law_544
set_option maxRecDepth 100000 in
set_option maxHeartbeats 4000000 in
theorem law_run (X : JX p s mi args meth c cL_law 14 RL Z A0) (hSt : hStr s) (hZ : hZq A0 s s.heap) (hX : LSc s A0 b L xs) (hfl : l.stackTraces = false) (hO : zO Z = false) (hI : LI S 2 0 0 0) (e0 : S 0 4 4 7 = 0) (e1 : S 0 4 0 7 = 1) (hR : 13 ≤ R.frames ∧ 528 ≤ R.locals ∧ cells + 200 ≤ R.cells ∧ slots + 1200 ≤ R.slots) (K : ∀ (S2 : St) (ce sl : Nat) (Ls : List (Nat × Value)) (pc : Nat), ce ≤ cells + 200 → sl ≤ slots + 1200 → decode cL_law pc = .ok (.ireturn, 1) → J p l e R s mi args below meth c 14 Z A0 ce sl Q S2 h Ls pc [.int 1]) : J p l e R s mi args below meth c 14 Z A0 cells slots Q S h [(1, .ref (zA Z (6) (0) (0))), (0, .ref (b))] 8 [] := by
  refine j_aload_n X dL_law_8 rfl rfl (q := 1) rfl ?_
  refine j_iconst X dL_law_9 rfl (v := 0) (by decide) ?_
  refine j_callX X hX (c_L_cell l Z S h b L xs (0) (by omega)) lk_RL_164 mt_L_cell ini_RL mc_L_cell md_L_cell ⟨by omega, by omega⟩ ⟨by omega, by omega⟩ rfl (Nat.le_of_ble_eq_true rfl) (as := [.ref (b), .int (0)]) (rest := []) rfl dL_law_10 rfl ?_
  generalize pCell L xs (0) = x0
  refine j_istore_n X dL_law_13 rfl rfl (by decide) (Ls2 := [(2, .int (x0)), (1, .ref (zA Z (6) (0) (0))), (0, .ref (b))]) rfl ?_
  refine j_iconst X dL_law_14 rfl (v := 2) (by decide) ?_
  refine j_iload_n X dL_law_15 rfl rfl (q := 0) rfl ?_
  refine j_iconst X dL_law_16 rfl (v := 3) (by decide) ?_
  obtain ⟨u17, hu17, eu17⟩ := low_ok (x0) (k := 3) (by omega) (by omega)
  refine j_callQ X hSt hZ (c_L_low l Z S h (x0) (3) (by decide)) lk_RL_89 mt_L_low ini_RL mc_L_low md_L_low ⟨by omega, by omega⟩ ⟨by omega, by omega⟩ rfl (Nat.le_of_ble_eq_true rfl) (as := [.int (x0), .int (3)]) (rest := [.int (2)]) rfl dL_law_17 rfl ?_
  refine j_topeq (y := nI u17) eu17 ?_
  refine j_iadd X dL_law_20 rfl ?_
  refine j_topeq (y := nI (2 + u17)) (nI_add 2 u17) ?_
  generalize hnn : 2 + u17 = nn
  refine j_istore_n X dL_law_21 rfl rfl (by decide) (Ls2 := [(3, .int (nI (nn))), (2, .int (x0)), (1, .ref (zA Z (6) (0) (0))), (0, .ref (b))]) rfl ?_
  refine j_aload_n X dL_law_22 rfl rfl (q := 2) rfl ?_
  obtain ⟨S1, i1, m1, m2, hc1⟩ := q_lines (l := l) (h := h) hO hI (by omega)
  refine j_callQ X hSt hZ hc1 lk_RL_157 mt_L_lines ini_RL mc_L_lines md_L_lines ⟨by omega, by omega⟩ ⟨by omega, by omega⟩ rfl (Nat.le_of_ble_eq_true rfl) (as := [.ref (zA Z (6) (0) (0))]) (rest := []) rfl dL_law_23 rfl ?_
  refine j_if_eq_f X dL_law_26 rfl (tgt := 78) (by decide) (by decide) ?_
  refine j_aload_n X dL_law_29 rfl rfl (q := 2) rfl ?_
  refine j_iload_n X dL_law_30 rfl rfl (q := 0) rfl ?_
  refine j_iload_n X dL_law_31 rfl rfl (q := 1) rfl ?_
  refine j_iconst X dL_law_32 rfl (v := 3) (by decide) ?_
  refine j_ishr X dL_law_33 rfl ?_
  refine j_iconst X dL_law_34 rfl (v := 3) (by decide) ?_
  obtain ⟨u35, hu35, eu35⟩ := low_ok ((x0) >>> ((3) &&& 31)) (k := 3) (by omega) (by omega)
  refine j_callQ X hSt hZ (c_L_low l Z S1 h ((x0) >>> ((3) &&& 31)) (3) (by decide)) lk_RL_89 mt_L_low ini_RL mc_L_low md_L_low ⟨by omega, by omega⟩ ⟨by omega, by omega⟩ rfl (Nat.le_of_ble_eq_true rfl) (as := [.int ((x0) >>> ((3) &&& 31)), .int (3)]) (rest := [.int (nI (nn)), .ref (zA Z (6) (0) (0))]) rfl dL_law_35 rfl ?_
  refine j_topeq (y := nI u35) eu35 ?_
  refine j_iconst X dL_law_38 rfl (v := 1) (by decide) ?_
  refine j_iload_n X dL_law_39 rfl rfl (q := 1) rfl ?_
  refine j_bipush X dL_law_40 rfl (v := 6) (by decide) ?_
  refine j_ishr X dL_law_42 rfl ?_
  refine j_iconst X dL_law_43 rfl (v := 4) (by decide) ?_
  obtain ⟨u44, hu44, eu44⟩ := low_ok ((x0) >>> ((6) &&& 31)) (k := 4) (by omega) (by omega)
  refine j_callQ X hSt hZ (c_L_low l Z S1 h ((x0) >>> ((6) &&& 31)) (4) (by decide)) lk_RL_89 mt_L_low ini_RL mc_L_low md_L_low ⟨by omega, by omega⟩ ⟨by omega, by omega⟩ rfl (Nat.le_of_ble_eq_true rfl) (as := [.int ((x0) >>> ((6) &&& 31)), .int (4)]) (rest := [.int (1), .int (nI (u35)), .int (nI (nn)), .ref (zA Z (6) (0) (0))]) rfl dL_law_44 rfl ?_
  refine j_topeq (y := nI u44) eu44 ?_
  refine j_iadd X dL_law_47 rfl ?_
  refine j_topeq (y := nI (1 + u44)) (nI_add 1 u44) ?_
  obtain ⟨S2, i2, t2, n2, hc2⟩ := q_begin (l := l) (Z := Z) (h := h) (n1 := nn) (y := u35) (z := 1 + u44) i1 (by omega) (by omega) (by omega) (by omega) (by omega) (by rw [m1 0 (by omega)]; exact e0) (by rw [m1 0 (by omega)]; exact e1)
  refine j_callQW X hSt hZ hc2 lk_RL_136 mt_L_begin ini_RL mc_L_begin md_L_begin ⟨by omega, by omega⟩ ⟨by omega, by omega⟩ rfl (Nat.le_of_ble_eq_true rfl) (as := [.ref (zA Z (6) (0) (0)), .int (nI (nn)), .int (nI (u35)), .int (nI (1 + u44))]) (rest := []) rfl dL_law_48 rfl ?_
  refine j_if_ne_f X dL_law_51 rfl (tgt := 78) (by decide) (by decide) ?_
  refine j_aload_n X dL_law_54 rfl rfl (q := 2) rfl ?_
  refine j_iload_n X dL_law_55 rfl rfl (q := 1) rfl ?_
  refine j_bipush X dL_law_56 rfl (v := 9) (by decide) ?_
  refine j_ishr X dL_law_58 rfl ?_
  refine j_ldc X (v := 1000000) dL_law_59 rfl (List.mem_of_getElem? (i := 3) (by decide +kernel)) ?_
  obtain ⟨u61, hu61, eu61⟩ := low_ok ((x0) >>> ((9) &&& 31)) (k := 1000000) (by omega) (by omega)
  refine j_callQ X hSt hZ (c_L_low l Z S2 h ((x0) >>> ((9) &&& 31)) (1000000) (by decide)) lk_RL_89 mt_L_low ini_RL mc_L_low md_L_low ⟨by omega, by omega⟩ ⟨by omega, by omega⟩ rfl (Nat.le_of_ble_eq_true rfl) (as := [.int ((x0) >>> ((9) &&& 31)), .int (1000000)]) (rest := [.ref (zA Z (6) (0) (0))]) rfl dL_law_61 rfl ?_
  refine j_topeq (y := nI u61) eu61 ?_
  obtain ⟨S3, i3, t3, hc3⟩ := q_seed (l := l) (Z := Z) (h := h) i2 hu61 n2
  refine j_callQW X hSt hZ hc3 lk_RL_141 mt_L_seed ini_RL mc_L_seed md_L_seed ⟨by omega, by omega⟩ ⟨by omega, by omega⟩ rfl (Nat.le_of_ble_eq_true rfl) (as := [.ref (zA Z (6) (0) (0)), .int (nI (u61))]) (rest := []) rfl dL_law_64 rfl ?_
  refine j_iconst X dL_law_67 rfl (v := 1) (by decide) ?_
  refine j_icmp_ne_f X dL_law_68 rfl (tgt := 78) (by decide) (by decide) ?_
  refine j_aload_n X dL_law_71 rfl rfl (q := 2) rfl ?_
  refine j_callQ X hSt hZ (q_refuses (l := l) (Z := Z) (h := h) hfl i3) lk_RL_169 mt_L_refuses ini_RL mc_L_refuses md_L_refuses ⟨by omega, by omega⟩ ⟨by omega, by omega⟩ rfl (Nat.le_of_ble_eq_true rfl) (as := [.ref (zA Z (6) (0) (0))]) (rest := []) rfl dL_law_72 rfl ?_
  refine j_if_ne_t X (tgt := 80) dL_law_75 (by decide) (by decide) ?_
  refine j_iconst X dL_law_80 rfl (v := 0) (by decide) ?_
  refine j_istore X dL_law_81 rfl (by decide) (Ls2 := [(4, .int (0)), (3, .int (nI (nn))), (2, .int (x0)), (1, .ref (zA Z (6) (0) (0))), (0, .ref (b))]) rfl ?_
  refine j_sub [0, 1, 3, 4] (Ls2 := [(4, .int (0)), (3, .int (nI (nn))), (1, .ref (zA Z (6) (0) (0))), (0, .ref (b))]) rfl ?_
  refine law_loads X hSt hZ hX hfl hO (nn := nn) (N := 0) ⟨by omega, by omega, by omega, by omega⟩ nn 0 S3 0 rfl i3 (fun a9 h9 => by rw [t3 a9 h9.1]; exact t2 a9 h9.1) (fun S4 i4 => ?_)
  refine j_iconst X dL_law_183 rfl (v := 0) (by decide) ?_
  refine j_istore X dL_law_184 rfl (by decide) (Ls2 := [(4, .int (0)), (3, .int (nI (nn))), (1, .ref (zA Z (6) (0) (0))), (0, .ref (b))]) rfl ?_
  refine j_sub [0, 1, 2, 3] (Ls2 := [(4, .int (0)), (3, .int (nI (nn))), (1, .ref (zA Z (6) (0) (0))), (0, .ref (b))]) rfl ?_
  refine law_acts X hSt hZ hX hfl hO (nn := nn) (by omega) 14 0 S4 _ _ _ _ rfl i4 (by omega) (by omega) ⟨by omega, by omega, by omega, by omega⟩ (fun S5 ce sl k1 k2 i5 => ?_)
  exact law_end X hSt hZ hX hfl hO i5 (by omega) ⟨by omega, by omega, by omega, by omega⟩ (fun S9 ce9 sl9 Ls9 pc9 q1 q2 hd => K S9 ce9 sl9 Ls9 pc9 (by omega) (by omega) hd)
end LAW

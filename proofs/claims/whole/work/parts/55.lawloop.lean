/-! the law's loop -/
set_option maxRecDepth 100000 in
set_option maxHeartbeats 4000000 in
theorem law_cmd {p : Program} {l : Launch} {e : Env} {s : State} {mi : MethodId} {args : Array Value} {below : List Frame} {meth : Method} {c : Code} {Z : wZ} {A0 : Nat → Prop} {cells slots : Nat} {Q : State → Prop} (X : JX p s mi args meth c cL_law 7 RL Z A0) {b L : Nat} {xs : Nat → Int32} (hX : LSc s A0 b L xs) {i : Nat} (hO : zO Z = true) (hSt : hStr s) (hZ : hZq A0 s s.heap) (hfl : l.stackTraces = false) {S : St} {h : Hl} {N : Nat} (hI : Inv S N) (hN : N + 2000 < 2 ^ 30) (hi : i + 4 ≤ L) (hcs : cells + 1 ≤ 601024 ∧ slots + 6 ≤ 7293034) (k : ∀ (S2 : St) (h2 : Hl), Inv S2 (N + 1000) → J p l e room_1 s mi args below meth c 7 Z A0 (cells + 1) (slots + 6) Q S2 h2 [(0, .ref (b)), (1, .ref (zA Z (6) (0) (0))), (2, .ref (zA Z (7) (0) (0))), (3, .ref (zA Z 8 0 0)), (4, .int (nI (i)))] 1578 []) : J p l e room_1 s mi args below meth c 7 Z A0 cells slots Q S h [(0, .ref (b)), (1, .ref (zA Z (6) (0) (0))), (2, .ref (zA Z (7) (0) (0))), (3, .ref (zA Z 8 0 0)), (4, .int (nI (i)))] 32 [] := by
  refine lc_sel X hX hi ?_
  obtain ⟨q, hq, eq⟩ := sel_ex (xs i)
  rw [eq]
  have hc0 : cells ≤ 601024 ∧ slots ≤ 7293034 := ⟨by omega, by omega⟩
  obtain ⟨⟨f1, f2, f3⟩, ⟨f4, f5⟩, f6, f7, f8⟩ := Inv_facts hI
  have hq2 : q < 26 ∨ 26 ≤ q := by omega
  rcases hq2 with hq2 | hq2
  rotate_left
  · refine j_tableOut X (tgt := 1578) dL_law_39 (Or.inr (by rw [nI_toInt (by omega)]; omega)) (by decide) ?_
    exact j_widen (Nat.le_succ _) (by omega) (k S h (Inv_mono hI (by omega)))
  have hq3 : q = 0 ∨ q = 1 ∨ q = 2 ∨ q = 3 ∨ q = 4 ∨ q = 5 ∨ q = 6 ∨ q = 7 ∨ q = 8 ∨ q = 9 ∨ q = 10 ∨ q = 11 ∨ q = 12 ∨ q = 13 ∨ q = 14 ∨ q = 15 ∨ q = 16 ∨ q = 17 ∨ q = 18 ∨ q = 19 ∨ q = 20 ∨ q = 21 ∨ q = 22 ∨ q = 23 ∨ q = 24 ∨ q = 25 := by omega
  rcases hq3 with rfl | rfl | rfl | rfl | rfl | rfl | rfl | rfl | rfl | rfl | rfl | rfl | rfl | rfl | rfl | rfl | rfl | rfl | rfl | rfl | rfl | rfl | rfl | rfl | rfl | rfl
  · refine j_tableIn X (tgt := 156) dL_law_39 (by decide) (by decide) (off := 117) rfl (by decide) ?_
    obtain ⟨S1, S2, h1, r, v, fr, lo, fr6, lo6, hW, hC, hf, hf6, ht, hv, hI2⟩ := st_begin (l := l) (Z := Z) (h := h) hO hfl hI (xs (i + 1)) (xs (i + 2)) (xs (i + 3))
    exact lc_begin X hX hO hSt hZ hi hW hC hf hf6 ht hv hcs (k S2 h1 hI2)
  · refine j_tableIn X (tgt := 236) dL_law_39 (by decide) (by decide) (off := 197) rfl (by decide) ?_
    obtain ⟨S1, S2, h1, r, v, fr, lo, fr6, lo6, hW, hC, hf, hf6, ht, hv, hI2⟩ := st_setPolicy (l := l) (Z := Z) (h := h) hO hfl hI (xs (i + 1))
    exact lc_setPolicy X hX hO hSt hZ hi hW hC hf hf6 ht hv hcs (k S2 h1 hI2)
  · refine j_tableIn X (tgt := 292) dL_law_39 (by decide) (by decide) (off := 253) rfl (by decide) ?_
    obtain ⟨S1, S2, h1, r, v, fr, lo, fr6, lo6, hW, hC, hf, hf6, ht, hv, hI2⟩ := st_seed (l := l) (Z := Z) (h := h) hO hfl hI (xs (i + 1))
    exact lc_seed X hX hO hSt hZ hi hW hC hf hf6 ht hv hcs (k S2 h1 hI2)
  · refine j_tableIn X (tgt := 348) dL_law_39 (by decide) (by decide) (off := 309) rfl (by decide) ?_
    obtain ⟨S1, S2, h1, r, v, fr, lo, fr6, lo6, hW, hC, hf, hf6, ht, hv, hI2⟩ := st_append (l := l) (Z := Z) (h := h) hO hfl hI (xs (i + 1))
    exact lc_append X hX hO hSt hZ hi hW hC hf hf6 ht hv hcs (k S2 h1 hI2)
  · refine j_tableIn X (tgt := 404) dL_law_39 (by decide) (by decide) (off := 365) rfl (by decide) ?_
    obtain ⟨e1, e2⟩ := clearT_ok hI
    exact lc_clearText X hX (c_X5_clearText l Z S h) (c_X6_clearText l Z _ h) ⟨Nat.le_of_ble_eq_true rfl, Nat.le_of_ble_eq_true rfl⟩ ⟨Nat.le_of_ble_eq_true rfl, Nat.le_of_ble_eq_true rfl⟩ e1.symm hc0 (j_widen (Nat.le_succ _) (by omega) (k _ _ (Inv_mono e2 (by omega))))
  · refine j_tableIn X (tgt := 417) dL_law_39 (by decide) (by decide) (off := 378) rfl (by decide) ?_
    obtain ⟨S1, S2, h1, r, v, fr, lo, fr6, lo6, hW, hC, hf, hf6, ht, hv, hI2⟩ := st_load (l := l) (Z := Z) (h := h) hO hfl hI (xs (i + 1))
    exact lc_load X hX hO hSt hZ hi hW hC hf hf6 ht hv hcs (k S2 h1 hI2)
  · refine j_tableIn X (tgt := 473) dL_law_39 (by decide) (by decide) (off := 434) rfl (by decide) ?_
    obtain ⟨S1, S2, h1, r, v, fr, lo, fr6, lo6, hW, hC, hf, hf6, ht, hv, hI2⟩ := st_again (l := l) (Z := Z) (h := h) hO hfl hI (xs (i + 1))
    exact lc_again X hX hO hSt hZ hi hW hC hf hf6 ht hv hcs (k S2 h1 hI2)
  · refine j_tableIn X (tgt := 529) dL_law_39 (by decide) (by decide) (off := 490) rfl (by decide) ?_
    obtain ⟨S1, S2, h1, r, v, fr, lo, fr6, lo6, hW, hC, hf, hf6, ht, hv, hI2⟩ := st_step (l := l) (Z := Z) (h := h) hO hfl hI hN (xs (i + 1))
    exact lc_step X hX hO hSt hZ hi hW hC hf hf6 ht hv hcs (k S2 h1 hI2)
  · refine j_tableIn X (tgt := 585) dL_law_39 (by decide) (by decide) (off := 546) rfl (by decide) ?_
    obtain ⟨S1, S2, h1, r, v, fr, lo, fr6, lo6, hW, hC, hf, hf6, ht, hv, hI2⟩ := st_run (l := l) (Z := Z) (h := h) hO hfl hI hN (xs (i + 1))
    exact lc_run X hX hO hSt hZ hi hW hC hf hf6 ht hv hcs (k S2 h1 hI2)
  · refine j_tableIn X (tgt := 641) dL_law_39 (by decide) (by decide) (off := 602) rfl (by decide) ?_
    obtain ⟨S1, S2, h1, r, v, fr, lo, fr6, lo6, hW, hC, hf, hf6, ht, hv, hI2⟩ := st_poke (l := l) (Z := Z) (h := h) hO hfl hI (xs (i + 1)) (xs (i + 2))
    exact lc_poke X hX hO hSt hZ hi hW hC hf hf6 ht hv hcs (k S2 h1 hI2)
  · refine j_tableIn X (tgt := 709) dL_law_39 (by decide) (by decide) (off := 670) rfl (by decide) ?_
    obtain ⟨S1, S2, h1, r, v, fr, lo, fr6, lo6, hW, hC, hf, hf6, ht, hv, hI2⟩ := st_state (l := l) (Z := Z) (h := h) hO hfl hI (xs (i + 1)) (xs (i + 2))
    exact lc_state X hX hO hSt hZ hi hW hC hf hf6 ht hv hcs (k S2 h1 hI2)
  · refine j_tableIn X (tgt := 777) dL_law_39 (by decide) (by decide) (off := 738) rfl (by decide) ?_
    obtain ⟨S1, S2, h1, r, v, fr, lo, fr6, lo6, hW, hC, hf, hf6, ht, hv, hI2⟩ := st_cached (l := l) (Z := Z) (h := h) hO hfl hI (xs (i + 1)) (xs (i + 2))
    exact lc_cached X hX hO hSt hZ hi hW hC hf hf6 ht hv hcs (k S2 h1 hI2)
  · refine j_tableIn X (tgt := 845) dL_law_39 (by decide) (by decide) (off := 806) rfl (by decide) ?_
    obtain ⟨S1, S2, h1, r, v, fr, lo, fr6, lo6, hW, hC, hf, hf6, ht, hv, hI2⟩ := st_memory (l := l) (Z := Z) (h := h) hO hfl hI (xs (i + 1)) (decide (xs (i + 2) ≠ 0))
    exact lc_memory X hX hO hSt hZ hi hW hC hf hf6 ht hv hcs (k S2 h1 hI2)
  · refine j_tableIn X (tgt := 929) dL_law_39 (by decide) (by decide) (off := 890) rfl (by decide) ?_
    obtain ⟨S1, S2, h1, r, v, fr, lo, fr6, lo6, hW, hC, hf, hf6, ht, hv, hI2⟩ := st_set (l := l) (Z := Z) (h := h) hO hfl hI (xs (i + 1)) (decide (xs (i + 2) ≠ 0))
    exact lc_set X hX hO hSt hZ hi hW hC hf hf6 ht hv hcs (k S2 h1 hI2)
  · refine j_tableIn X (tgt := 1013) dL_law_39 (by decide) (by decide) (off := 974) rfl (by decide) ?_
    obtain ⟨S1, S2, h1, r, v, fr, lo, fr6, lo6, hW, hC, hf, hf6, ht, hv, hI2⟩ := st_core (l := l) (Z := Z) (h := h) hO hfl hI (xs (i + 1)) (xs (i + 2))
    exact lc_core X hX hO hSt hZ hi hW hC hf hf6 ht hv hcs (k S2 h1 hI2)
  · refine j_tableIn X (tgt := 1081) dL_law_39 (by decide) (by decide) (off := 1042) rfl (by decide) ?_
    obtain ⟨S1, S2, h1, r, v, fr, lo, fr6, lo6, hW, hC, hf, hf6, ht, hv, hI2⟩ := st_value (l := l) (Z := Z) (h := h) hO hfl hI (xs (i + 1))
    exact lc_value X hX hO hSt hZ hi hW hC hf hf6 ht hv hcs (k S2 h1 hI2)
  · refine j_tableIn X (tgt := 1137) dL_law_39 (by decide) (by decide) (off := 1098) rfl (by decide) ?_
    obtain ⟨S1, S2, h1, r, v, fr, lo, fr6, lo6, hW, hC, hf, hf6, ht, hv, hI2⟩ := st_counter (l := l) (Z := Z) (h := h) hO hfl hI (xs (i + 1))
    exact lc_counter X hX hO hSt hZ hi hW hC hf hf6 ht hv hcs (k S2 h1 hI2)
  · refine j_tableIn X (tgt := 1193) dL_law_39 (by decide) (by decide) (off := 1154) rfl (by decide) ?_
    obtain ⟨A, hA⟩ := Inv_rel0 (Inv_rCd 0 hI)
    exact lc_commits X hX (c_X5_commits l Z S h) (c_X6_commits l Z _ h) ⟨Nat.le_of_ble_eq_true rfl, Nat.le_of_ble_eq_true rfl⟩ ⟨Nat.le_of_ble_eq_true rfl, Nat.le_of_ble_eq_true rfl⟩ (q_cnt hA).symm hc0 (j_widen (Nat.le_succ _) (by omega) (k _ _ (Inv_mono (Inv_rCd 0 hI) (by omega))))
  · refine j_tableIn X (tgt := 1206) dL_law_39 (by decide) (by decide) (off := 1167) rfl (by decide) ?_
    obtain ⟨S1, S2, h1, r, v, fr, lo, fr6, lo6, hW, hC, hf, hf6, ht, hv, hI2⟩ := st_commit (l := l) (Z := Z) (h := h) hO hfl hI (xs (i + 1)) (xs (i + 2))
    exact lc_commit X hX hO hSt hZ hi hW hC hf hf6 ht hv hcs (k S2 h1 hI2)
  · refine j_tableIn X (tgt := 1274) dL_law_39 (by decide) (by decide) (off := 1235) rfl (by decide) ?_
    obtain ⟨S1, S2, h1, r, v, fr, lo, fr6, lo6, hW, hC, hf, hf6, ht, hv, hI2⟩ := st_commitValue (l := l) (Z := Z) (h := h) hO hfl hI (xs (i + 1)) (xs (i + 2)) (decide (xs (i + 3) ≠ 0))
    exact lc_commitValue X hX hO hSt hZ hi hW hC hf hf6 ht hv hcs (k S2 h1 hI2)
  · refine j_tableIn X (tgt := 1370) dL_law_39 (by decide) (by decide) (off := 1331) rfl (by decide) ?_
    obtain ⟨e1, e2, e3⟩ := ser_ok hI
    have e7 : (pReplay S 0 6 0 7).2 7 0 1 21 = S 7 0 1 21 := by rw [rep_frame S 7 0 1 (by omega)]
    exact lc_serializable X hX (c_X5_serializable l Z S h f5) (c_X6_serializable l Z _ h (by rw [e7]; exact f8)) ⟨Nat.le_of_ble_eq_true rfl, Nat.le_of_ble_eq_true rfl⟩ ⟨Nat.le_of_ble_eq_true rfl, Nat.le_of_ble_eq_true rfl⟩ (by rw [e1]) hc0 (j_widen (Nat.le_succ _) (by omega) (k _ _ (Inv_mono e3 (by omega))))
  · refine j_tableIn X (tgt := 1383) dL_law_39 (by decide) (by decide) (off := 1344) rfl (by decide) ?_
    obtain ⟨S1, S2, h1, r, v, fr, lo, fr6, lo6, hW, hC, hf, hf6, ht, hv, hI2⟩ := st_finish (l := l) (Z := Z) (h := h) hO hfl hI hN (xs (i + 1))
    exact lc_finish X hX hO hSt hZ hi hW hC hf hf6 ht hv hcs (k S2 h1 hI2)
  · refine j_tableIn X (tgt := 1439) dL_law_39 (by decide) (by decide) (off := 1400) rfl (by decide) ?_
    obtain ⟨S1, S2, h1, r, v, fr, lo, fr6, lo6, hW, hC, hf, hf6, ht, hv, hI2⟩ := st_abortsWith (l := l) (Z := Z) (h := h) hO hfl hI hN (xs (i + 1)) (xs (i + 2))
    exact lc_abortsWith X hX hO hSt hZ hi hW hC hf hf6 ht hv hcs (k S2 h1 hI2)
  · refine j_tableIn X (tgt := 1507) dL_law_39 (by decide) (by decide) (off := 1468) rfl (by decide) ?_
    obtain ⟨e1, e2, e3, e4⟩ := best_ok hI hN
    exact lc_bestPolicy X hX (c_X5_bestPolicy l Z S h e1) (c_X6_bestPolicy l Z _ h e2) ⟨Nat.le_of_ble_eq_true rfl, Nat.le_of_ble_eq_true rfl⟩ ⟨Nat.le_of_ble_eq_true rfl, Nat.le_of_ble_eq_true rfl⟩ e3.symm hc0 (j_widen (Nat.le_succ _) (by omega) (k _ _ (Inv_mono e4 (by omega))))
  · refine j_tableIn X (tgt := 1520) dL_law_39 (by decide) (by decide) (off := 1481) rfl (by decide) ?_
    obtain ⟨S1, S2, h1, r, v, fr, lo, fr6, lo6, hW, hC, hf, hf6, ht, hv, hI2⟩ := st_undo (l := l) (Z := Z) (h := h) hO hfl hI 
    exact lc_undo X hX hO hSt hZ hi hW hC hf hf6 ht hv hcs (k S2 h1 hI2)
  · refine j_tableIn X (tgt := 1564) dL_law_39 (by decide) (by decide) (off := 1525) rfl (by decide) ?_
    exact lc_digest X hX (c_X5_digest l Z S h f4) (c_X6_digest l Z _ h f7) ⟨Nat.le_of_ble_eq_true rfl, Nat.le_of_ble_eq_true rfl⟩ ⟨Nat.le_of_ble_eq_true rfl, Nat.le_of_ble_eq_true rfl⟩ (digest_ok hI h).symm hc0 (j_widen (Nat.le_succ _) (by omega) (k _ _ (Inv_mono (Inv_rCd 0 hI) (by omega))))
theorem law_loop {p : Program} {l : Launch} {e : Env} {s : State} {mi : MethodId} {args : Array Value} {below : List Frame} {meth : Method} {c : Code} {Z : wZ} {A0 : Nat → Prop} {Q : State → Prop} (X : JX p s mi args meth c cL_law 7 RL Z A0) {b L : Nat} {xs : Nat → Int32} (hX : LSc s A0 b L xs) (hO : zO Z = true) (hSt : hStr s) (hZ : hZq A0 s s.heap) (hfl : l.stackTraces = false) (K : ∀ (S2 : St) (h2 : Hl) (Ls2 : List (Nat × Value)) (k2 n2 : Nat), k2 ≤ 601024 → n2 ≤ 7293034 → J p l e room_1 s mi args below meth c 7 Z A0 k2 n2 Q S2 h2 Ls2 1585 [.int 1]) : ∀ (n i : Nat) (S : St) (h : Hl) (N cells slots : Nat), Inv S N → L < i + 4 * n + 4 → i ≤ L → N + 1000 * n + 2000 < 2 ^ 30 → cells + n ≤ 601024 → slots + 6 * n ≤ 7293034 → J p l e room_1 s mi args below meth c 7 Z A0 cells slots Q S h [(0, .ref (b)), (1, .ref (zA Z (6) (0) (0))), (2, .ref (zA Z (7) (0) (0))), (3, .ref (zA Z 8 0 0)), (4, .int (nI (i)))] 23 [] := by
  intro n
  induction n with
  | zero =>
    intro i S h N cells slots hI hL hi hN hc hs
    refine lc_head X hX hi (fun hh => absurd hh (by omega)) (fun _ => ?_)
    refine j_iconst X dL_law_1584 rfl (v := 1) (by decide) ?_
    exact K _ _ _ _ _ (by omega) (by omega)
  | succ n ih =>
    intro i S h N cells slots hI hL hi hN hc hs
    refine lc_head X hX hi (fun hh => ?_) (fun _ => ?_)
    · refine law_cmd X hX hO hSt hZ hfl hI (by omega) hh ⟨by omega, by omega⟩ (fun S2 h2 hI2 => ?_)
      refine j_iinc X dL_law_1578 rfl (q := 4) rfl (v := nI (i + 4)) (nI_add _ 4) (by decide) (Ls2 := [(4, .int (nI (i + 4))), (0, .ref (b)), (1, .ref (zA Z (6) (0) (0))), (2, .ref (zA Z (7) (0) (0))), (3, .ref (zA Z 8 0 0))]) rfl ?_
      refine j_goto X (tgt := 23) dL_law_1581 (by decide) ?_
      refine j_sub [1, 2, 3, 4, 0] (Ls2 := [(0, .ref (b)), (1, .ref (zA Z (6) (0) (0))), (2, .ref (zA Z (7) (0) (0))), (3, .ref (zA Z 8 0 0)), (4, .int (nI (i + 4)))]) rfl ?_
      exact ih (i + 4) S2 h2 (N + 1000) (cells + 1) (slots + 6) hI2 (by omega) (by omega) (by omega) (by omega) (by omega)
    · refine j_iconst X dL_law_1584 rfl (v := 1) (by decide) ?_
      exact K _ _ _ _ _ (by omega) (by omega)

/-! what stays: the places below the cores, and the log's count -/
theorem setM_ne {S : St} {k v k2 : _} (h : k2 ≠ k) : setF S 7 0 1 k v 7 0 1 k2 = S 7 0 1 k2 := by
  rw [setF_at, if_neg]; rintro ⟨-, -, -, h4⟩; exact h h4
theorem setO_M {S : St} {i k v k2 : _} (hi : i ≠ 1) : setF S 7 0 i k v 7 0 1 k2 = S 7 0 1 k2 := by
  rw [setF_at, if_neg]; rintro ⟨-, -, h3, -⟩; exact hi h3.symm
theorem rBump_ne {S : St} {k k2 : Nat} (h : k2 ≠ k) : rBump S k 7 0 1 k2 = S 7 0 1 k2 := setM_ne h
theorem rAbort_lo {S : St} {a u k : Nat} (hk : k < 13) : rAbort S a u 7 0 1 k = S 7 0 1 k := by
  have e : ∀ n k0 (T : St), lp (rAbF a) n k0 T 7 0 1 k = T 7 0 1 k := by
    intro n k0 T
    refine lp_ne (rAbF a) (fun T => T 7 0 1 k) (fun k1 T => ?_) n k0 T
    dsimp only [rAbF, rPut]
    split
    · rw [setM_ne (by omega), setM_ne (by omega)]
    · rfl
  simp only [rAbort, rPut]
  rw [setO_M (by omega), rBump_ne (by omega), rBump_ne (by omega), setM_ne (by omega), setM_ne (by omega), setM_ne (by omega), setM_ne (by omega), setM_ne (by omega), setM_ne (by omega), e]
theorem rAbort_21 {S : St} {a u : Nat} (hu : u < 8) : rAbort S a u 7 0 1 21 = S 7 0 1 21 := by
  have e : ∀ n k0 (T : St), lp (rAbF a) n k0 T 7 0 1 21 = T 7 0 1 21 := by
    intro n k0 T
    refine lp_ne (rAbF a) (fun T => T 7 0 1 21) (fun k1 T => ?_) n k0 T
    dsimp only [rAbF, rPut]
    split
    · rw [setM_ne (by omega), setM_ne (by omega)]
    · rfl
  simp only [rAbort, rPut]
  rw [setO_M (by omega), rBump_ne (by omega), rBump_ne (by omega), setM_ne (by omega), setM_ne (by omega), setM_ne (by omega), setM_ne (by omega), setM_ne (by omega), setM_ne (by omega), e]
/-- the places that no read or write of a line changes: below the memory, and the log's count -/
def loK (k : Nat) : Prop := k < 5 ∨ k = 21
theorem loK_ne {k n : Nat} (h : loK k) (hn : 5 ≤ n) (h2 : n ≠ 21) : k ≠ n := by unfold loK at h; omega
theorem rAbort_k {S : St} {a u k : Nat} (hu : u < 8) (hk : loK k) : rAbort S a u 7 0 1 k = S 7 0 1 k := by
  rcases hk with h | h
  · exact rAbort_lo (by omega)
  · subst h; exact rAbort_21 hu
theorem rResF_k {S : St} {a j k2 k : Nat} {w : Bool} (hk : loK k) : (rResF a j w k2 S).2 7 0 1 k = S 7 0 1 k := by
  unfold rResF
  split
  · rfl
  · split
    · split
      · exact rAbort_k (by omega) hk
      · exact rAbort_k (by omega) hk
    · rfl
theorem rRes_k {S : St} {a j k : Nat} {w : Bool} (hk : loK k) : (rRes S a j w).2 7 0 1 k = S 7 0 1 k :=
  lpE_ne (rResF a j w) (fun T => T 7 0 1 k) (fun k2 T => rResF_k hk) _ 0 S
theorem rWB_k {S : St} {a j k : Nat} (hj : j < 8) (hk : loK k) : rWB S a j 7 0 1 k = S 7 0 1 k := by
  rw [rWB, rBump_ne (loK_ne hk (by omega) (by omega)), setM_ne (loK_ne hk (by omega) (by omega))]
theorem rColF_k {S : St} {a j k2 k : Nat} (hj : j < 8) (hk : loK k) : rColF a j k2 S 7 0 1 k = S 7 0 1 k := by
  unfold rColF
  split
  · rfl
  · split
    · show setF (rWB S k2 j) 7 0 1 (22 + 96 * k2 + (20 + j)) 1 7 0 1 k = _
      rw [setM_ne (loK_ne hk (by omega) (by omega)), rWB_k hj hk]
    · rfl
theorem rCol_k {S : St} {a j k : Nat} (hj : j < 8) (hk : loK k) : rCol S a j 7 0 1 k = S 7 0 1 k :=
  lp_ne (rColF a j) (fun T => T 7 0 1 k) (fun k2 T => rColF_k hj hk) _ 0 S
theorem rOwnF_k {S : St} {a j k2 k : Nat} (hj : j < 8) (hk : loK k) : rOwnF a j k2 S 7 0 1 k = S 7 0 1 k := by
  unfold rOwnF
  split
  · rfl
  · split
    · rfl
    · unfold rPut
      rw [rBump_ne (loK_ne hk (by omega) (by omega)), setM_ne (loK_ne hk (by omega) (by omega)), setM_ne (loK_ne hk (by omega) (by omega))]
theorem rOwnL_k {S : St} {a j k n : Nat} (hj : j < 8) (hk : loK k) : lp (rOwnF a j) n 0 S 7 0 1 k = S 7 0 1 k :=
  lp_ne (rOwnF a j) (fun T => T 7 0 1 k) (fun k2 T => rOwnF_k hj hk) _ 0 S
theorem rPut_k {S : St} {a w k : Nat} {v : Int32} (hk : loK k) : rPut S a w v 7 0 1 k = S 7 0 1 k := setM_ne (loK_ne hk (by omega) (by omega))
theorem setM_k {S : St} {n k : Nat} {v : Int32} (hn : 5 ≤ n) (h2 : n ≠ 21) (hk : loK k) : setF S 7 0 1 n v 7 0 1 k = S 7 0 1 k := setM_ne (loK_ne hk hn h2)
theorem rOwn_k {S : St} {a j k : Nat} (hj : j < 8) (hk : loK k) : rOwn S a j 7 0 1 k = S 7 0 1 k := by
  simp only [rOwn]
  rw [rPut_k hk]
  split
  · rw [rPut_k hk, rOwnL_k hj hk, rCol_k hj hk, rBump_ne (loK_ne hk (by omega) (by omega))]
  · rw [rOwnL_k hj hk, rCol_k hj hk, rBump_ne (loK_ne hk (by omega) (by omega))]
theorem rHold_k {S : St} {a j k : Nat} {w : Bool} (hj : j < 8) (hk : loK k) : rHold S a j w 7 0 1 k = S 7 0 1 k := by
  unfold rHold
  split
  · split
    · exact rWB_k hj hk
    · rfl
  · exact rOwn_k hj hk
theorem lo0 : loK 0 := Or.inl (by omega)
theorem lo2 : loK 2 := Or.inl (by omega)
theorem lo21 : loK 21 := Or.inr rfl
/-! a step -/
def rExec (S : St) (a : Nat) (x op : Int32) (j : Nat) : Bool × St :=
  if x = 98 then (true, rBeg S a) else if x = 99 then (true, rEnd S a) else if x = 114 then rLoad S a j else if x = 119 then rStore S a j else (true, rPut S a 0 (rOf S a 0 + op))
abbrev rPs (S : St) (a : Nat) : Nat := (rOf S a 1).toNatClampNeg
abbrev rOp (S : St) (a : Nat) : Int32 := rOf S a (36 + 2 * rPs S a + 1)
def rExe (S : St) (a : Nat) : Bool × St := rExec S a (rOf S a (36 + 2 * rPs S a)) (rOp S a) (rOp S a).toNatClampNeg
def rGoB (S : St) (a : Nat) : Bool × St := rExe (rBump (setF S 7 0 0 13 0) 20) a
def rGo (S : St) (a : Nat) : Int32 × St :=
  if (rGoB S a).1 = true then (let S1 := rPut (rGoB S a).2 a 1 (rOf (rGoB S a).2 a 1 + 1); (S1 7 0 0 13 + 0, S1)) else ((rGoB S a).2 7 0 0 13 + 8, (rGoB S a).2)
def rRun (S : St) : Int32 := S 7 0 1 0 - rFinC S
def rSelF (S : St) (k : Nat) (q : Int32 × Int32) : Bool × Int32 × Int32 := if rFin S k = true then (true, q.1 - 0, q.2) else if q.1 ≤ 0 then (false, q.1, nI k) else (true, q.1 - 1, q.2)
def rTick (S : St) : St := setF S 7 0 1 3 (pNext (S 7 0 1 3))
def rSelL (S : St) : Bool × Int32 × Int32 := lpE (rSelF (rTick S)) (rCC S) 0 (pTurn (rTick S 7 0 1 3) (rRun S), 0)
def rSel (S : St) : Nat := (rSelL S).2.2.toNatClampNeg
def rSch (S : St) : Bool × St := if rRun S = 0 then (false, S) else (!decide ((rGo (rTick S) (rSel S)).1 < 0), (rGo (rTick S) (rSel S)).2)
set_option maxRecDepth 100000 in
set_option maxHeartbeats 4000000 in
theorem c_X6_writeBack (l : Launch) (Z : wZ) (S : St) (h : Hl) (a : Nat) (ha : a < 4) (j : Nat) (hj : j < 8) : Cv l yX6_writeBack cX6_writeBack 3 2 43 Z [.ref (zA Z (7) (0) (0)), .int (nI (a)), .int (nI (j))] S h (rWB S a j) (h) := by
  refine Cv.of rfl (Nat.le_of_ble_eq_true rfl) (fun p e s mi args below meth c A0 Q X K => ?_)
  refine j_at rfl rfl (Ls3 := [(0, .ref (zA Z (7) (0) (0))), (1, .int (nI (a))), (2, .int (nI (j)))]) rfl rfl ?_
  refine j_aload_n X dX6_writeBack_0 rfl rfl (q := 0) rfl ?_
  refine jg_model X 0 (by decide) lk_RX6_7 rfl rfl dX6_writeBack_1 rfl ?_
  refine j_iconst X dX6_writeBack_4 rfl (v := 5) (by decide) ?_
  refine j_iload_n X dX6_writeBack_5 rfl rfl (q := 2) rfl ?_
  refine j_iadd X dX6_writeBack_6 rfl ?_
  refine j_topeq (y := nI (5 + j)) (nI_add 5 j) ?_
  refine j_aload_n X dX6_writeBack_7 rfl rfl (q := 0) rfl ?_
  refine j_iload_n X dX6_writeBack_8 rfl rfl (q := 1) rfl ?_
  refine j_bipush X dX6_writeBack_9 rfl (v := 28) (by decide) ?_
  refine j_iload_n X dX6_writeBack_11 rfl rfl (q := 2) rfl ?_
  refine j_iadd X dX6_writeBack_12 rfl ?_
  refine j_topeq (y := nI (28 + j)) (nI_add 28 j) ?_
  refine j_calli X (c_X6_of l Z S h a (28 + j) (by omega)) (wm_ref (by decide)) ((fun _ => rfl) _) rfl lk_RX6_97 mi_X6_of ms_X6_of ini_RX6 mc_X6_of md_X6_of ⟨Nat.le_of_ble_eq_true rfl, Nat.le_of_ble_eq_true rfl⟩ ⟨Nat.le_of_ble_eq_true rfl, Nat.le_of_ble_eq_true rfl⟩ rfl (Nat.le_of_ble_eq_true rfl) (as := [.int (nI (a)), .int (nI (28 + j))]) (rest := [.int (nI (5 + j)), .ref (zA Z (7) (0) (1))]) rfl dX6_writeBack_13 rfl ?_
  refine j_iastN X (k := 5 + j) (wm_ref (by decide)) (fun r => (fun _ => rfl) r) (by omega) (by decide) dX6_writeBack_16 rfl ?_
  refine j_name (fun S1 eS1 => ?_)
  refine j_aload_n X dX6_writeBack_17 rfl rfl (q := 0) rfl ?_
  refine jg_model X 0 (by decide) lk_RX6_7 rfl rfl dX6_writeBack_18 rfl ?_
  refine j_bipush X dX6_writeBack_21 rfl (v := 17) (by decide) ?_
  refine j_dup2 X dX6_writeBack_23 rfl rfl rfl ?_
  refine j_ialdN X (k := 17) (wm_ref (by decide)) ((fun _ => rfl) _) (by decide) (by decide) dX6_writeBack_24 rfl ?_
  refine j_iconst X dX6_writeBack_25 rfl (v := 1) (by decide) ?_
  refine j_iadd X dX6_writeBack_26 rfl ?_
  refine j_iastN X (k := 17) (wm_ref (by decide)) (fun r => (fun _ => rfl) r) (by decide) (by decide) dX6_writeBack_27 rfl ?_
  refine j_name (fun S2 eS2 => ?_)
  exact j_at (by subst eS1; subst eS2; first | with_reducible rfl | (simp [rWB, rBump]; done) | (simp_all [rWB, rBump]; done) | rfl) rfl rfl rfl (K _ _ dX6_writeBack_28)
set_option maxRecDepth 100000 in
set_option maxHeartbeats 4000000 in
theorem L_col (l : Launch) (Z : wZ) (h : Hl) (a : Nat) (ha : a < 4) (j : Nat) (hj : j < 8) (cc : Nat) (hc4 : cc ≤ 4) {p : Program} {e : Env} {s : State} {mi : MethodId} {args : Array Value} {below : List Frame} {meth : Method} {c : Code} {A0 : Nat → Prop} {Q : State → Prop} (X : JX p s mi args meth c cX6_collect 4 yX6_collect.cls Z A0) : ∀ (n k : Nat) (S : St), k + n = cc → S 7 0 1 0 = nI cc → J p l e { frames := 3, cells := 0, slots := 0, locals := 65 } s mi args below meth c 4 Z A0 0 0 Q ((lp (rColF a j) n k S)) h [] 52 [] → J p l e { frames := 3, cells := 0, slots := 0, locals := 65 } s mi args below meth c 4 Z A0 0 0 Q S h [(3, .int (nI (k))), (0, .ref (zA Z (7) (0) (0))), (1, .int (nI (a))), (2, .int (nI (j)))] 2 [] := by
  intro n
  induction n with
  | zero =>
    intro k S hkn hI hk
    have hkN : cc = k := by omega
    subst hkN
    refine j_iload_n X dX6_collect_2 rfl rfl (q := 0) rfl ?_
    refine j_aload_n X dX6_collect_3 rfl rfl (q := 1) rfl ?_
    refine jg_model X 0 (by decide) lk_RX6_7 rfl rfl dX6_collect_4 rfl ?_
    refine j_iconst X dX6_collect_7 rfl (v := 0) (by decide) ?_
    refine j_ialdN X (k := 0) (wm_ref (by decide)) ((fun _ => rfl) _) (by decide) (by decide) dX6_collect_8 rfl ?_
    refine j_topeq (y := (nI (cc))) (hI) ?_
    refine j_icmp_ge_t X (tgt := 52) dX6_collect_9 (by decide) (nI_le (Nat.le_refl _) (by omega)) ?_
    refine j_sub [] (Ls2 := []) rfl ?_
    exact hk
  | succ n ih =>
    intro k S hkn hI hk
    have hlt : k < cc := by omega
    refine j_iload_n X dX6_collect_2 rfl rfl (q := 0) rfl ?_
    refine j_aload_n X dX6_collect_3 rfl rfl (q := 1) rfl ?_
    refine jg_model X 0 (by decide) lk_RX6_7 rfl rfl dX6_collect_4 rfl ?_
    refine j_iconst X dX6_collect_7 rfl (v := 0) (by decide) ?_
    refine j_ialdN X (k := 0) (wm_ref (by decide)) ((fun _ => rfl) _) (by decide) (by decide) dX6_collect_8 rfl ?_
    refine j_topeq (y := (nI (cc))) (hI) ?_
    refine j_icmp_ge_f X dX6_collect_9 rfl (tgt := 52) (by decide) (nI_ge hlt (by omega)) ?_
    refine j_iload_n X dX6_collect_12 rfl rfl (q := 0) rfl ?_
    refine j_iload_n X dX6_collect_13 rfl rfl (q := 2) rfl ?_
    refine j_icmpN_eq X (a := k) (b := a) (by omega) (by omega) dX6_collect_14 rfl (tgt := 46) (by decide) (fun c_14 => ?_) (fun c_14 => ?_)
    · refine j_iinc X dX6_collect_46 rfl (q := 0) rfl (v := (nI (k + 1))) (nI_1 _) (by decide) (Ls2 := [(3, .int (nI (k + 1))), (0, .ref (zA Z (7) (0) (0))), (1, .int (nI (a))), (2, .int (nI (j)))]) rfl ?_
      refine j_goto X (tgt := 2) dX6_collect_49 (by decide) ?_
      have eB : (rColF a j) k S = S := by first | with_reducible rfl | (simp [rColF, c_14]; done) | (simp_all [rColF]; done) | rfl
      have eL : lp (rColF a j) (n + 1) k S = lp (rColF a j) n (k + 1) S := congrArg (lp (rColF a j) n (k + 1)) eB
      rw [eL] at hk
      exact ih (k + 1) S (by omega) (by rw [← eB, rColF_k hj lo0]; exact hI) hk
    · refine j_aload_n X dX6_collect_17 rfl rfl (q := 1) rfl ?_
      refine j_iload_n X dX6_collect_18 rfl rfl (q := 0) rfl ?_
      refine j_bipush X dX6_collect_19 rfl (v := 20) (by decide) ?_
      refine j_iload_n X dX6_collect_21 rfl rfl (q := 3) rfl ?_
      refine j_iadd X dX6_collect_22 rfl ?_
      refine j_topeq (y := nI (20 + j)) (nI_add 20 j) ?_
      refine j_calli X (c_X6_of l Z S h k (20 + j) (by omega)) (wm_ref (by decide)) ((fun _ => rfl) _) rfl lk_RX6_97 mi_X6_of ms_X6_of ini_RX6 mc_X6_of md_X6_of ⟨Nat.le_of_ble_eq_true rfl, Nat.le_of_ble_eq_true rfl⟩ ⟨Nat.le_of_ble_eq_true rfl, Nat.le_of_ble_eq_true rfl⟩ rfl (Nat.le_of_ble_eq_true rfl) (as := [.int (nI (k)), .int (nI (20 + j))]) (rest := []) rfl dX6_collect_23 rfl ?_
      refine j_iconst X dX6_collect_26 rfl (v := 2) (by decide) ?_
      refine j_icmp_ne X dX6_collect_27 rfl (tgt := 46) (by decide) (fun c_27 => ?_) (fun c_27 => ?_)
      · refine j_iinc X dX6_collect_46 rfl (q := 0) rfl (v := (nI (k + 1))) (nI_1 _) (by decide) (Ls2 := [(3, .int (nI (k + 1))), (0, .ref (zA Z (7) (0) (0))), (1, .int (nI (a))), (2, .int (nI (j)))]) rfl ?_
        refine j_goto X (tgt := 2) dX6_collect_49 (by decide) ?_
        have eB : (rColF a j) k S = S := by first | with_reducible rfl | (simp [rColF, c_14, c_27]; done) | (simp_all [rColF]; done) | rfl
        have eL : lp (rColF a j) (n + 1) k S = lp (rColF a j) n (k + 1) S := congrArg (lp (rColF a j) n (k + 1)) eB
        rw [eL] at hk
        exact ih (k + 1) S (by omega) (by rw [← eB, rColF_k hj lo0]; exact hI) hk
      · refine j_aload_n X dX6_collect_30 rfl rfl (q := 1) rfl ?_
        refine j_iload_n X dX6_collect_31 rfl rfl (q := 0) rfl ?_
        refine j_iload_n X dX6_collect_32 rfl rfl (q := 3) rfl ?_
        refine j_callv X (c_X6_writeBack l Z S h k (by omega) j (by omega)) (wm_ref (by decide)) ((fun _ => rfl) _) rfl lk_RX6_125 mi_X6_writeBack ms_X6_writeBack ini_RX6 mc_X6_writeBack md_X6_writeBack ⟨Nat.le_of_ble_eq_true rfl, Nat.le_of_ble_eq_true rfl⟩ ⟨Nat.le_of_ble_eq_true rfl, Nat.le_of_ble_eq_true rfl⟩ rfl (Nat.le_of_ble_eq_true rfl) (as := [.int (nI (k)), .int (nI (j))]) (rest := []) rfl dX6_collect_33 rfl ?_
        refine j_name (fun S1 eS1 => ?_)
        refine j_aload_n X dX6_collect_36 rfl rfl (q := 1) rfl ?_
        refine j_iload_n X dX6_collect_37 rfl rfl (q := 0) rfl ?_
        refine j_bipush X dX6_collect_38 rfl (v := 20) (by decide) ?_
        refine j_iload_n X dX6_collect_40 rfl rfl (q := 3) rfl ?_
        refine j_iadd X dX6_collect_41 rfl ?_
        refine j_topeq (y := nI (20 + j)) (nI_add 20 j) ?_
        refine j_iconst X dX6_collect_42 rfl (v := 1) (by decide) ?_
        refine j_callv X (c_X6_put l Z S1 h k (20 + j) (1) (by omega)) (wm_ref (by decide)) ((fun _ => rfl) _) rfl lk_RX6_60 mi_X6_put ms_X6_put ini_RX6 mc_X6_put md_X6_put ⟨Nat.le_of_ble_eq_true rfl, Nat.le_of_ble_eq_true rfl⟩ ⟨Nat.le_of_ble_eq_true rfl, Nat.le_of_ble_eq_true rfl⟩ rfl (Nat.le_of_ble_eq_true rfl) (as := [.int (nI (k)), .int (nI (20 + j)), .int (1)]) (rest := []) rfl dX6_collect_43 rfl ?_
        refine j_name (fun S2 eS2 => ?_)
        refine j_iinc X dX6_collect_46 rfl (q := 0) rfl (v := (nI (k + 1))) (nI_1 _) (by decide) (Ls2 := [(3, .int (nI (k + 1))), (0, .ref (zA Z (7) (0) (0))), (1, .int (nI (a))), (2, .int (nI (j)))]) rfl ?_
        refine j_goto X (tgt := 2) dX6_collect_49 (by decide) ?_
        have eB : (rColF a j) k S = S2 := by subst eS1; subst eS2; first | with_reducible rfl | (simp [rColF, c_14, c_27]; done) | (simp_all [rColF]; done) | rfl
        have eL : lp (rColF a j) (n + 1) k S = lp (rColF a j) n (k + 1) S2 := congrArg (lp (rColF a j) n (k + 1)) eB
        rw [eL] at hk
        exact ih (k + 1) S2 (by omega) (by subst eS1; subst eS2; rw [← eB, rColF_k hj lo0]; exact hI) hk
set_option maxRecDepth 100000 in
set_option maxHeartbeats 4000000 in
theorem c_X6_collect (l : Launch) (Z : wZ) (S : St) (h : Hl) (a : Nat) (ha : a < 4) (j : Nat) (hj : j < 8) (hcc : okI (S 7 0 1 0) 4) : Cv l yX6_collect cX6_collect 4 3 65 Z [.ref (zA Z (7) (0) (0)), .int (nI (a)), .int (nI (j))] S h (rCol S a j) (h) := by
  have hc4 : rCC S ≤ 4 := hcc.2
  refine Cv.of rfl (Nat.le_of_ble_eq_true rfl) (fun p e s mi args below meth c A0 Q X K => ?_)
  refine j_at rfl rfl (Ls3 := [(0, .ref (zA Z (7) (0) (0))), (1, .int (nI (a))), (2, .int (nI (j)))]) rfl rfl ?_
  refine j_iconst X dX6_collect_0 rfl (v := 0) (by decide) ?_
  refine j_istore_n X dX6_collect_1 rfl rfl (by decide) (Ls2 := [(3, .int (0)), (0, .ref (zA Z (7) (0) (0))), (1, .int (nI (a))), (2, .int (nI (j)))]) rfl ?_
  refine j_sub [0, 1, 2, 3] (Ls2 := [(3, .int (0)), (0, .ref (zA Z (7) (0) (0))), (1, .int (nI (a))), (2, .int (nI (j)))]) rfl ?_
  refine L_col l Z h a ha j hj (rCC S) hcc.2 X (rCC S) 0 S (by omega) (by exact hcc.1) ?_
  refine j_name (fun S1 eS1 => ?_)
  exact j_at (by subst eS1; first | with_reducible rfl | (simp [rCol]; done) | (simp_all [rCol]; done) | rfl) rfl rfl rfl (K _ _ dX6_collect_52)
set_option maxRecDepth 100000 in
set_option maxHeartbeats 4000000 in
theorem L_res (l : Launch) (Z : wZ) (h : Hl) (a : Nat) (ha : a < 4) (j : Nat) (hj : j < 8) (w : Bool) (cc : Nat) (hc4 : cc ≤ 4) {p : Program} {e : Env} {s : State} {mi : MethodId} {args : Array Value} {below : List Frame} {meth : Method} {c : Code} {A0 : Nat → Prop} {Q : State → Prop} (X : JX p s mi args meth c cX6_resolves 6 yX6_resolves.cls Z A0) : ∀ (n k : Nat) (S : St), k + n = cc → S 7 0 1 0 = nI cc → ((lpE (rResF a j w) n k S).1 = true → J p l e { frames := 3, cells := 0, slots := 0, locals := 67 } s mi args below meth c 6 Z A0 0 0 Q ((lpE (rResF a j w) n k S).2) h [] 111 []) → ((lpE (rResF a j w) n k S).1 = false → J p l e { frames := 3, cells := 0, slots := 0, locals := 67 } s mi args below meth c 6 Z A0 0 0 Q ((lpE (rResF a j w) n k S).2) h [] 103 []) → J p l e { frames := 3, cells := 0, slots := 0, locals := 67 } s mi args below meth c 6 Z A0 0 0 Q S h [(4, .int (nI (k))), (0, .ref (zA Z (7) (0) (0))), (1, .int (nI (a))), (2, .int (nI (j))), (3, .int (bI (w)))] 3 [] := by
  intro n
  induction n with
  | zero =>
    intro k S hkn hI hT hF
    have hkN : cc = k := by omega
    subst hkN
    refine j_iload X dX6_resolves_3 rfl (q := 0) rfl ?_
    refine j_aload_n X dX6_resolves_5 rfl rfl (q := 1) rfl ?_
    refine jg_model X 0 (by decide) lk_RX6_7 rfl rfl dX6_resolves_6 rfl ?_
    refine j_iconst X dX6_resolves_9 rfl (v := 0) (by decide) ?_
    refine j_ialdN X (k := 0) (wm_ref (by decide)) ((fun _ => rfl) _) (by decide) (by decide) dX6_resolves_10 rfl ?_
    refine j_topeq (y := (nI (cc))) (hI) ?_
    refine j_icmp_ge_t X (tgt := 111) dX6_resolves_11 (by decide) (nI_le (Nat.le_refl _) (by omega)) ?_
    refine j_sub [] (Ls2 := []) rfl ?_
    exact hT rfl
  | succ n ih =>
    intro k S hkn hI hT hF
    have hlt : k < cc := by omega
    refine j_iload X dX6_resolves_3 rfl (q := 0) rfl ?_
    refine j_aload_n X dX6_resolves_5 rfl rfl (q := 1) rfl ?_
    refine jg_model X 0 (by decide) lk_RX6_7 rfl rfl dX6_resolves_6 rfl ?_
    refine j_iconst X dX6_resolves_9 rfl (v := 0) (by decide) ?_
    refine j_ialdN X (k := 0) (wm_ref (by decide)) ((fun _ => rfl) _) (by decide) (by decide) dX6_resolves_10 rfl ?_
    refine j_topeq (y := (nI (cc))) (hI) ?_
    refine j_icmp_ge_f X dX6_resolves_11 rfl (tgt := 111) (by decide) (nI_ge hlt (by omega)) ?_
    refine j_iload X dX6_resolves_14 rfl (q := 0) rfl ?_
    refine j_iload_n X dX6_resolves_16 rfl rfl (q := 2) rfl ?_
    refine j_icmpN_eq X (a := k) (b := a) (by omega) (by omega) dX6_resolves_17 rfl (tgt := 105) (by decide) (fun c_17 => ?_) (fun c_17 => ?_)
    · refine j_iinc X dX6_resolves_105 rfl (q := 0) rfl (v := (nI (k + 1))) (nI_1 _) (by decide) (Ls2 := [(4, .int (nI (k + 1))), (0, .ref (zA Z (7) (0) (0))), (1, .int (nI (a))), (2, .int (nI (j))), (3, .int (bI (w)))]) rfl ?_
      refine j_goto X (tgt := 3) dX6_resolves_108 (by decide) ?_
      have eB : (rResF a j w) k S = (true, S) := by first | with_reducible rfl | (simp [rResF, rWins, c_17]; done) | (simp_all [rResF, rWins]; done) | rfl
      have eL : lpE (rResF a j w) (n + 1) k S = lpE (rResF a j w) n (k + 1) S := by rw [lpE, eB]; rfl
      rw [eL] at hT hF
      exact ih (k + 1) S (by omega) (by have := rResF_k (S := S) (a := a) (j := j) (k2 := k) (w := w) lo0; rw [eB] at this; exact this.trans hI) hT hF
    · refine j_aload_n X dX6_resolves_20 rfl rfl (q := 1) rfl ?_
      refine j_iload X dX6_resolves_21 rfl (q := 0) rfl ?_
      refine j_iload_n X dX6_resolves_23 rfl rfl (q := 3) rfl ?_
      refine j_iload_n X dX6_resolves_24 rfl rfl (q := 4) rfl ?_
      refine j_calli X (c_X6_isInWay l Z S h k (by omega) (nI (j)) w) (wm_ref (by decide)) ((fun _ => rfl) _) rfl lk_RX6_117 mi_X6_isInWay ms_X6_isInWay ini_RX6 mc_X6_isInWay md_X6_isInWay ⟨Nat.le_of_ble_eq_true rfl, Nat.le_of_ble_eq_true rfl⟩ ⟨Nat.le_of_ble_eq_true rfl, Nat.le_of_ble_eq_true rfl⟩ rfl (Nat.le_of_ble_eq_true rfl) (as := [.int (nI (k)), .int (nI (j)), .int (bI (w))]) (rest := []) rfl dX6_resolves_25 rfl ?_
      refine j_ifb_eq X dX6_resolves_28 rfl (tgt := 105) (by decide) (fun c_28 => ?_) (fun c_28 => ?_)
      · refine j_iinc X dX6_resolves_105 rfl (q := 0) rfl (v := (nI (k + 1))) (nI_1 _) (by decide) (Ls2 := [(4, .int (nI (k + 1))), (0, .ref (zA Z (7) (0) (0))), (1, .int (nI (a))), (2, .int (nI (j))), (3, .int (bI (w)))]) rfl ?_
        refine j_goto X (tgt := 3) dX6_resolves_108 (by decide) ?_
        have eB : (rResF a j w) k S = (true, S) := by first | with_reducible rfl | (simp [rResF, rWins, c_17, c_28]; done) | (simp_all [rResF, rWins]; done) | rfl
        have eL : lpE (rResF a j w) (n + 1) k S = lpE (rResF a j w) n (k + 1) S := by rw [lpE, eB]; rfl
        rw [eL] at hT hF
        exact ih (k + 1) S (by omega) (by have := rResF_k (S := S) (a := a) (j := j) (k2 := k) (w := w) lo0; rw [eB] at this; exact this.trans hI) hT hF
      · refine j_aload_n X dX6_resolves_31 rfl rfl (q := 1) rfl ?_
        refine j_iload_n X dX6_resolves_32 rfl rfl (q := 2) rfl ?_
        refine j_iconst X dX6_resolves_33 rfl (v := 3) (by decide) ?_
        refine j_calli X (c_X6_of l Z S h a 3 (by omega)) (wm_ref (by decide)) ((fun _ => rfl) _) rfl lk_RX6_97 mi_X6_of ms_X6_of ini_RX6 mc_X6_of md_X6_of ⟨Nat.le_of_ble_eq_true rfl, Nat.le_of_ble_eq_true rfl⟩ ⟨Nat.le_of_ble_eq_true rfl, Nat.le_of_ble_eq_true rfl⟩ rfl (Nat.le_of_ble_eq_true rfl) (as := [.int (nI (a)), .int (3)]) (rest := []) rfl dX6_resolves_34 rfl ?_
        refine j_if_eq X dX6_resolves_37 rfl (tgt := 75) (by decide) (fun c_37 => ?_) (fun c_37 => ?_)
        · refine j_iconst X dX6_resolves_75 rfl (v := 1) (by decide) ?_
          refine j_goto X (tgt := 80) dX6_resolves_76 (by decide) ?_
          refine j_istore X dX6_resolves_80 rfl (by decide) (Ls2 := [(5, .int (1)), (4, .int (nI (k))), (0, .ref (zA Z (7) (0) (0))), (1, .int (nI (a))), (2, .int (nI (j))), (3, .int (bI (w)))]) rfl ?_
          refine j_aload_n X dX6_resolves_82 rfl rfl (q := 2) rfl ?_
          refine j_iload X dX6_resolves_83 rfl (q := 0) rfl ?_
          refine j_if_eq_f X dX6_resolves_85 rfl (tgt := 93) (by decide) (by decide) ?_
          refine j_iload X dX6_resolves_88 rfl (q := 1) rfl ?_
          refine j_goto X (tgt := 94) dX6_resolves_90 (by decide) ?_
          refine j_iconst X dX6_resolves_94 rfl (v := 5) (by decide) ?_
          refine j_callv X (c_X6_abort l Z S h k (by omega) 5 (by omega)) (wm_ref (by decide)) ((fun _ => rfl) _) rfl lk_RX6_121 mi_X6_abort ms_X6_abort ini_RX6 mc_X6_abort md_X6_abort ⟨Nat.le_of_ble_eq_true rfl, Nat.le_of_ble_eq_true rfl⟩ ⟨Nat.le_of_ble_eq_true rfl, Nat.le_of_ble_eq_true rfl⟩ rfl (Nat.le_of_ble_eq_true rfl) (as := [.int (nI (k)), .int (5)]) (rest := []) rfl dX6_resolves_95 rfl ?_
          refine j_name (fun S1 eS1 => ?_)
          refine j_iload X dX6_resolves_98 rfl (q := 0) rfl ?_
          refine j_if_ne_t X (tgt := 105) dX6_resolves_100 (by decide) (by decide) ?_
          refine j_iinc X dX6_resolves_105 rfl (q := 1) rfl (v := (nI (k + 1))) (nI_1 _) (by decide) (Ls2 := [(4, .int (nI (k + 1))), (5, .int (1)), (0, .ref (zA Z (7) (0) (0))), (1, .int (nI (a))), (2, .int (nI (j))), (3, .int (bI (w)))]) rfl ?_
          refine j_goto X (tgt := 3) dX6_resolves_108 (by decide) ?_
          refine j_sub [0, 2, 3, 4, 5] (Ls2 := [(4, .int (nI (k + 1))), (0, .ref (zA Z (7) (0) (0))), (1, .int (nI (a))), (2, .int (nI (j))), (3, .int (bI (w)))]) rfl ?_
          have eB : (rResF a j w) k S = (true, S1) := by subst eS1; first | with_reducible rfl | (simp [rResF, rWins, c_17, c_28, c_37]; done) | (simp_all [rResF, rWins]; done) | rfl
          have eL : lpE (rResF a j w) (n + 1) k S = lpE (rResF a j w) n (k + 1) S1 := by rw [lpE, eB]; rfl
          rw [eL] at hT hF
          exact ih (k + 1) S1 (by omega) (by subst eS1; have := rResF_k (S := S) (a := a) (j := j) (k2 := k) (w := w) lo0; rw [eB] at this; exact this.trans hI) hT hF
        · refine j_aload_n X dX6_resolves_40 rfl rfl (q := 1) rfl ?_
          refine jg_model X 0 (by decide) lk_RX6_7 rfl rfl dX6_resolves_41 rfl ?_
          refine j_iconst X dX6_resolves_44 rfl (v := 1) (by decide) ?_
          refine j_ialdN X (k := 1) (wm_ref (by decide)) ((fun _ => rfl) _) (by decide) (by decide) dX6_resolves_45 rfl ?_
          refine j_if_eq X dX6_resolves_46 rfl (tgt := 75) (by decide) (fun c_46 => ?_) (fun c_46 => ?_)
          · refine j_iconst X dX6_resolves_75 rfl (v := 1) (by decide) ?_
            refine j_goto X (tgt := 80) dX6_resolves_76 (by decide) ?_
            refine j_istore X dX6_resolves_80 rfl (by decide) (Ls2 := [(5, .int (1)), (4, .int (nI (k))), (0, .ref (zA Z (7) (0) (0))), (1, .int (nI (a))), (2, .int (nI (j))), (3, .int (bI (w)))]) rfl ?_
            refine j_aload_n X dX6_resolves_82 rfl rfl (q := 2) rfl ?_
            refine j_iload X dX6_resolves_83 rfl (q := 0) rfl ?_
            refine j_if_eq_f X dX6_resolves_85 rfl (tgt := 93) (by decide) (by decide) ?_
            refine j_iload X dX6_resolves_88 rfl (q := 1) rfl ?_
            refine j_goto X (tgt := 94) dX6_resolves_90 (by decide) ?_
            refine j_iconst X dX6_resolves_94 rfl (v := 5) (by decide) ?_
            refine j_callv X (c_X6_abort l Z S h k (by omega) 5 (by omega)) (wm_ref (by decide)) ((fun _ => rfl) _) rfl lk_RX6_121 mi_X6_abort ms_X6_abort ini_RX6 mc_X6_abort md_X6_abort ⟨Nat.le_of_ble_eq_true rfl, Nat.le_of_ble_eq_true rfl⟩ ⟨Nat.le_of_ble_eq_true rfl, Nat.le_of_ble_eq_true rfl⟩ rfl (Nat.le_of_ble_eq_true rfl) (as := [.int (nI (k)), .int (5)]) (rest := []) rfl dX6_resolves_95 rfl ?_
            refine j_name (fun S2 eS2 => ?_)
            refine j_iload X dX6_resolves_98 rfl (q := 0) rfl ?_
            refine j_if_ne_t X (tgt := 105) dX6_resolves_100 (by decide) (by decide) ?_
            refine j_iinc X dX6_resolves_105 rfl (q := 1) rfl (v := (nI (k + 1))) (nI_1 _) (by decide) (Ls2 := [(4, .int (nI (k + 1))), (5, .int (1)), (0, .ref (zA Z (7) (0) (0))), (1, .int (nI (a))), (2, .int (nI (j))), (3, .int (bI (w)))]) rfl ?_
            refine j_goto X (tgt := 3) dX6_resolves_108 (by decide) ?_
            refine j_sub [0, 2, 3, 4, 5] (Ls2 := [(4, .int (nI (k + 1))), (0, .ref (zA Z (7) (0) (0))), (1, .int (nI (a))), (2, .int (nI (j))), (3, .int (bI (w)))]) rfl ?_
            have eB : (rResF a j w) k S = (true, S2) := by subst eS2; first | with_reducible rfl | (simp [rResF, rWins, c_17, c_28, c_37, c_46]; done) | (simp_all [rResF, rWins]; done) | rfl
            have eL : lpE (rResF a j w) (n + 1) k S = lpE (rResF a j w) n (k + 1) S2 := by rw [lpE, eB]; rfl
            rw [eL] at hT hF
            exact ih (k + 1) S2 (by omega) (by subst eS2; have := rResF_k (S := S) (a := a) (j := j) (k2 := k) (w := w) lo0; rw [eB] at this; exact this.trans hI) hT hF
          · refine j_aload_n X dX6_resolves_49 rfl rfl (q := 1) rfl ?_
            refine jg_model X 0 (by decide) lk_RX6_7 rfl rfl dX6_resolves_50 rfl ?_
            refine j_iconst X dX6_resolves_53 rfl (v := 1) (by decide) ?_
            refine j_ialdN X (k := 1) (wm_ref (by decide)) ((fun _ => rfl) _) (by decide) (by decide) dX6_resolves_54 rfl ?_
            refine j_iconst X dX6_resolves_55 rfl (v := 2) (by decide) ?_
            refine j_icmp_ne X dX6_resolves_56 rfl (tgt := 79) (by decide) (fun c_56 => ?_) (fun c_56 => ?_)
            · refine j_iconst X dX6_resolves_79 rfl (v := 0) (by decide) ?_
              refine j_istore X dX6_resolves_80 rfl (by decide) (Ls2 := [(5, .int (0)), (4, .int (nI (k))), (0, .ref (zA Z (7) (0) (0))), (1, .int (nI (a))), (2, .int (nI (j))), (3, .int (bI (w)))]) rfl ?_
              refine j_aload_n X dX6_resolves_82 rfl rfl (q := 2) rfl ?_
              refine j_iload X dX6_resolves_83 rfl (q := 0) rfl ?_
              refine j_if_eq_t X (tgt := 93) dX6_resolves_85 (by decide) (by decide) ?_
              refine j_iload_n X dX6_resolves_93 rfl rfl (q := 3) rfl ?_
              refine j_iconst X dX6_resolves_94 rfl (v := 5) (by decide) ?_
              refine j_callv X (c_X6_abort l Z S h a (by omega) 5 (by omega)) (wm_ref (by decide)) ((fun _ => rfl) _) rfl lk_RX6_121 mi_X6_abort ms_X6_abort ini_RX6 mc_X6_abort md_X6_abort ⟨Nat.le_of_ble_eq_true rfl, Nat.le_of_ble_eq_true rfl⟩ ⟨Nat.le_of_ble_eq_true rfl, Nat.le_of_ble_eq_true rfl⟩ rfl (Nat.le_of_ble_eq_true rfl) (as := [.int (nI (a)), .int (5)]) (rest := []) rfl dX6_resolves_95 rfl ?_
              refine j_name (fun S3 eS3 => ?_)
              refine j_iload X dX6_resolves_98 rfl (q := 0) rfl ?_
              refine j_if_ne_f X dX6_resolves_100 rfl (tgt := 105) (by decide) (by decide) ?_
              have eB : (rResF a j w) k S = (false, S3) := by subst eS3; first | with_reducible rfl | (simp [rResF, rWins, c_17, c_28, c_37, c_46, c_56]; done) | (simp_all [rResF, rWins]; done) | rfl
              have eL : lpE (rResF a j w) (n + 1) k S = (false, S3) := by rw [lpE, eB]; rfl
              rw [eL] at hF
              refine j_sub [] (Ls2 := []) rfl ?_
              exact hF rfl
            · refine j_aload_n X dX6_resolves_59 rfl rfl (q := 1) rfl ?_
              refine j_iload_n X dX6_resolves_60 rfl rfl (q := 2) rfl ?_
              refine j_iconst X dX6_resolves_61 rfl (v := 4) (by decide) ?_
              refine j_calli X (c_X6_of l Z S h a 4 (by omega)) (wm_ref (by decide)) ((fun _ => rfl) _) rfl lk_RX6_97 mi_X6_of ms_X6_of ini_RX6 mc_X6_of md_X6_of ⟨Nat.le_of_ble_eq_true rfl, Nat.le_of_ble_eq_true rfl⟩ ⟨Nat.le_of_ble_eq_true rfl, Nat.le_of_ble_eq_true rfl⟩ rfl (Nat.le_of_ble_eq_true rfl) (as := [.int (nI (a)), .int (4)]) (rest := []) rfl dX6_resolves_62 rfl ?_
              refine j_aload_n X dX6_resolves_65 rfl rfl (q := 1) rfl ?_
              refine j_iload X dX6_resolves_66 rfl (q := 0) rfl ?_
              refine j_iconst X dX6_resolves_68 rfl (v := 4) (by decide) ?_
              refine j_calli X (c_X6_of l Z S h k 4 (by omega)) (wm_ref (by decide)) ((fun _ => rfl) _) rfl lk_RX6_97 mi_X6_of ms_X6_of ini_RX6 mc_X6_of md_X6_of ⟨Nat.le_of_ble_eq_true rfl, Nat.le_of_ble_eq_true rfl⟩ ⟨Nat.le_of_ble_eq_true rfl, Nat.le_of_ble_eq_true rfl⟩ rfl (Nat.le_of_ble_eq_true rfl) (as := [.int (nI (k)), .int (4)]) (rest := [.int (rOf S a 4)]) rfl dX6_resolves_69 rfl ?_
              refine j_icmp_ge X dX6_resolves_72 rfl (tgt := 79) (by decide) (fun c_72 => ?_) (fun c_72 => ?_)
              · refine j_iconst X dX6_resolves_79 rfl (v := 0) (by decide) ?_
                refine j_istore X dX6_resolves_80 rfl (by decide) (Ls2 := [(5, .int (0)), (4, .int (nI (k))), (0, .ref (zA Z (7) (0) (0))), (1, .int (nI (a))), (2, .int (nI (j))), (3, .int (bI (w)))]) rfl ?_
                refine j_aload_n X dX6_resolves_82 rfl rfl (q := 2) rfl ?_
                refine j_iload X dX6_resolves_83 rfl (q := 0) rfl ?_
                refine j_if_eq_t X (tgt := 93) dX6_resolves_85 (by decide) (by decide) ?_
                refine j_iload_n X dX6_resolves_93 rfl rfl (q := 3) rfl ?_
                refine j_iconst X dX6_resolves_94 rfl (v := 5) (by decide) ?_
                refine j_callv X (c_X6_abort l Z S h a (by omega) 5 (by omega)) (wm_ref (by decide)) ((fun _ => rfl) _) rfl lk_RX6_121 mi_X6_abort ms_X6_abort ini_RX6 mc_X6_abort md_X6_abort ⟨Nat.le_of_ble_eq_true rfl, Nat.le_of_ble_eq_true rfl⟩ ⟨Nat.le_of_ble_eq_true rfl, Nat.le_of_ble_eq_true rfl⟩ rfl (Nat.le_of_ble_eq_true rfl) (as := [.int (nI (a)), .int (5)]) (rest := []) rfl dX6_resolves_95 rfl ?_
                refine j_name (fun S4 eS4 => ?_)
                refine j_iload X dX6_resolves_98 rfl (q := 0) rfl ?_
                refine j_if_ne_f X dX6_resolves_100 rfl (tgt := 105) (by decide) (by decide) ?_
                have eB : (rResF a j w) k S = (false, S4) := by subst eS4; first | with_reducible rfl | (simp [rResF, rWins, c_17, c_28, c_37, c_46, c_56, c_72]; done) | (simp_all [rResF, rWins]; done) | rfl
                have eL : lpE (rResF a j w) (n + 1) k S = (false, S4) := by rw [lpE, eB]; rfl
                rw [eL] at hF
                refine j_sub [] (Ls2 := []) rfl ?_
                exact hF rfl
              · refine j_iconst X dX6_resolves_75 rfl (v := 1) (by decide) ?_
                refine j_goto X (tgt := 80) dX6_resolves_76 (by decide) ?_
                refine j_istore X dX6_resolves_80 rfl (by decide) (Ls2 := [(5, .int (1)), (4, .int (nI (k))), (0, .ref (zA Z (7) (0) (0))), (1, .int (nI (a))), (2, .int (nI (j))), (3, .int (bI (w)))]) rfl ?_
                refine j_aload_n X dX6_resolves_82 rfl rfl (q := 2) rfl ?_
                refine j_iload X dX6_resolves_83 rfl (q := 0) rfl ?_
                refine j_if_eq_f X dX6_resolves_85 rfl (tgt := 93) (by decide) (by decide) ?_
                refine j_iload X dX6_resolves_88 rfl (q := 1) rfl ?_
                refine j_goto X (tgt := 94) dX6_resolves_90 (by decide) ?_
                refine j_iconst X dX6_resolves_94 rfl (v := 5) (by decide) ?_
                refine j_callv X (c_X6_abort l Z S h k (by omega) 5 (by omega)) (wm_ref (by decide)) ((fun _ => rfl) _) rfl lk_RX6_121 mi_X6_abort ms_X6_abort ini_RX6 mc_X6_abort md_X6_abort ⟨Nat.le_of_ble_eq_true rfl, Nat.le_of_ble_eq_true rfl⟩ ⟨Nat.le_of_ble_eq_true rfl, Nat.le_of_ble_eq_true rfl⟩ rfl (Nat.le_of_ble_eq_true rfl) (as := [.int (nI (k)), .int (5)]) (rest := []) rfl dX6_resolves_95 rfl ?_
                refine j_name (fun S5 eS5 => ?_)
                refine j_iload X dX6_resolves_98 rfl (q := 0) rfl ?_
                refine j_if_ne_t X (tgt := 105) dX6_resolves_100 (by decide) (by decide) ?_
                refine j_iinc X dX6_resolves_105 rfl (q := 1) rfl (v := (nI (k + 1))) (nI_1 _) (by decide) (Ls2 := [(4, .int (nI (k + 1))), (5, .int (1)), (0, .ref (zA Z (7) (0) (0))), (1, .int (nI (a))), (2, .int (nI (j))), (3, .int (bI (w)))]) rfl ?_
                refine j_goto X (tgt := 3) dX6_resolves_108 (by decide) ?_
                refine j_sub [0, 2, 3, 4, 5] (Ls2 := [(4, .int (nI (k + 1))), (0, .ref (zA Z (7) (0) (0))), (1, .int (nI (a))), (2, .int (nI (j))), (3, .int (bI (w)))]) rfl ?_
                have eB : (rResF a j w) k S = (true, S5) := by subst eS5; first | with_reducible rfl | (simp [rResF, rWins, c_17, c_28, c_37, c_46, c_56, c_72]; done) | (simp_all [rResF, rWins]; done) | rfl
                have eL : lpE (rResF a j w) (n + 1) k S = lpE (rResF a j w) n (k + 1) S5 := by rw [lpE, eB]; rfl
                rw [eL] at hT hF
                exact ih (k + 1) S5 (by omega) (by subst eS5; have := rResF_k (S := S) (a := a) (j := j) (k2 := k) (w := w) lo0; rw [eB] at this; exact this.trans hI) hT hF
set_option maxRecDepth 100000 in
set_option maxHeartbeats 4000000 in
theorem c_X6_resolves (l : Launch) (Z : wZ) (S : St) (h : Hl) (a : Nat) (ha : a < 4) (j : Nat) (hj : j < 8) (w : Bool) (hcc : okI (S 7 0 1 0) 4) : Ci l yX6_resolves cX6_resolves 6 .boolean 3 67 Z [.ref (zA Z (7) (0) (0)), .int (nI (a)), .int (nI (j)), .int (bI (w))] S h (bI (rRes S a j w).1) ((rRes S a j w).2) (h) := by
  have hc4 : rCC S ≤ 4 := hcc.2
  refine Ci.of rfl (bI_nar _) (Nat.le_of_ble_eq_true rfl) (fun p e s mi args below meth c A0 Q X K => ?_)
  refine j_at rfl rfl (Ls3 := [(0, .ref (zA Z (7) (0) (0))), (1, .int (nI (a))), (2, .int (nI (j))), (3, .int (bI (w)))]) rfl rfl ?_
  refine j_iconst X dX6_resolves_0 rfl (v := 0) (by decide) ?_
  refine j_istore X dX6_resolves_1 rfl (by decide) (Ls2 := [(4, .int (0)), (0, .ref (zA Z (7) (0) (0))), (1, .int (nI (a))), (2, .int (nI (j))), (3, .int (bI (w)))]) rfl ?_
  refine j_sub [0, 1, 2, 3, 4] (Ls2 := [(4, .int (0)), (0, .ref (zA Z (7) (0) (0))), (1, .int (nI (a))), (2, .int (nI (j))), (3, .int (bI (w)))]) rfl ?_
  refine L_res l Z h a ha j hj w (rCC S) hcc.2 X (rCC S) 0 S (by omega) (by exact hcc.1) (fun hb1 => ?_) (fun hb1 => ?_)
  · refine j_name (fun S2 eS2 => ?_)
    refine j_iconst X dX6_resolves_111 rfl (v := 1) (by decide) ?_
    exact j_ret (by subst eS2; first | with_reducible rfl | (simp [rRes, bI, hb1]; done) | (simp_all [rRes, bI]; done) | rfl) (by subst eS2; first | with_reducible rfl | (simp [rRes, bI, hb1]; done) | (simp_all [rRes, bI]; done) | rfl) rfl (K _ _ dX6_resolves_112)
  · refine j_name (fun S3 eS3 => ?_)
    refine j_iconst X dX6_resolves_103 rfl (v := 0) (by decide) ?_
    exact j_ret (by subst eS3; first | with_reducible rfl | (simp [rRes, bI, hb1]; done) | (simp_all [rRes, bI]; done) | rfl) (by subst eS3; first | with_reducible rfl | (simp [rRes, bI, hb1]; done) | (simp_all [rRes, bI]; done) | rfl) rfl (K _ _ dX6_resolves_104)
set_option maxRecDepth 100000 in
set_option maxHeartbeats 4000000 in
theorem c_X6_loads (l : Launch) (Z : wZ) (S : St) (h : Hl) (a : Nat) (ha : a < 4) (j : Nat) (hj : j < 8) (hcc : okI (S 7 0 1 0) 4) : Ci l yX6_loads cX6_loads 4 .boolean 4 92 Z [.ref (zA Z (7) (0) (0)), .int (nI (a)), .int (nI (j))] S h (bI (rLoad S a j).1) ((rLoad S a j).2) (h) := by
  have hc4 : rCC S ≤ 4 := hcc.2
  refine Ci.of rfl (bI_nar _) (Nat.le_of_ble_eq_true rfl) (fun p e s mi args below meth c A0 Q X K => ?_)
  refine j_at rfl rfl (Ls3 := [(0, .ref (zA Z (7) (0) (0))), (1, .int (nI (a))), (2, .int (nI (j)))]) rfl rfl ?_
  refine j_aload_n X dX6_loads_0 rfl rfl (q := 0) rfl ?_
  refine j_iload_n X dX6_loads_1 rfl rfl (q := 1) rfl ?_
  refine j_iload_n X dX6_loads_2 rfl rfl (q := 2) rfl ?_
  refine j_iconst X dX6_loads_3 rfl (v := 0) (by decide) ?_
  refine j_calli X (c_X6_resolves l Z S h a (by omega) j (by omega) false hcc) (wm_ref (by decide)) ((fun _ => rfl) _) rfl lk_RX6_128 mi_X6_resolves ms_X6_resolves ini_RX6 mc_X6_resolves md_X6_resolves ⟨Nat.le_of_ble_eq_true rfl, Nat.le_of_ble_eq_true rfl⟩ ⟨Nat.le_of_ble_eq_true rfl, Nat.le_of_ble_eq_true rfl⟩ rfl (Nat.le_of_ble_eq_true rfl) (as := [.int (nI (a)), .int (nI (j)), .int (0)]) (rest := []) rfl dX6_loads_4 rfl ?_
  refine j_name (fun S1 eS1 => ?_)
  refine j_ifb_ne X dX6_loads_7 rfl (tgt := 12) (by decide) (fun c_7 => ?_) (fun c_7 => ?_)
  · refine j_aload_n X dX6_loads_12 rfl rfl (q := 0) rfl ?_
    refine j_iload_n X dX6_loads_13 rfl rfl (q := 1) rfl ?_
    refine j_bipush X dX6_loads_14 rfl (v := 20) (by decide) ?_
    refine j_iload_n X dX6_loads_16 rfl rfl (q := 2) rfl ?_
    refine j_iadd X dX6_loads_17 rfl ?_
    refine j_topeq (y := nI (20 + j)) (nI_add 20 j) ?_
    refine j_calli X (c_X6_of l Z S1 h a (20 + j) (by omega)) (wm_ref (by decide)) ((fun _ => rfl) _) rfl lk_RX6_97 mi_X6_of ms_X6_of ini_RX6 mc_X6_of md_X6_of ⟨Nat.le_of_ble_eq_true rfl, Nat.le_of_ble_eq_true rfl⟩ ⟨Nat.le_of_ble_eq_true rfl, Nat.le_of_ble_eq_true rfl⟩ rfl (Nat.le_of_ble_eq_true rfl) (as := [.int (nI (a)), .int (nI (20 + j))]) (rest := []) rfl dX6_loads_18 rfl ?_
    refine j_if_ne X dX6_loads_21 rfl (tgt := 68) (by decide) (fun c_21 => ?_) (fun c_21 => ?_)
    · refine j_aload_n X dX6_loads_68 rfl rfl (q := 0) rfl ?_
      refine j_iload_n X dX6_loads_69 rfl rfl (q := 1) rfl ?_
      refine j_bipush X dX6_loads_70 rfl (v := 28) (by decide) ?_
      refine j_iload_n X dX6_loads_72 rfl rfl (q := 2) rfl ?_
      refine j_iadd X dX6_loads_73 rfl ?_
      refine j_topeq (y := nI (28 + j)) (nI_add 28 j) ?_
      refine j_calli X (c_X6_of l Z S1 h a (28 + j) (by omega)) (wm_ref (by decide)) ((fun _ => rfl) _) rfl lk_RX6_97 mi_X6_of ms_X6_of ini_RX6 mc_X6_of md_X6_of ⟨Nat.le_of_ble_eq_true rfl, Nat.le_of_ble_eq_true rfl⟩ ⟨Nat.le_of_ble_eq_true rfl, Nat.le_of_ble_eq_true rfl⟩ rfl (Nat.le_of_ble_eq_true rfl) (as := [.int (nI (a)), .int (nI (28 + j))]) (rest := []) rfl dX6_loads_74 rfl ?_
      refine j_istore_n X dX6_loads_77 rfl rfl (by decide) (Ls2 := [(3, .int (rOf S1 a (28 + j))), (0, .ref (zA Z (7) (0) (0))), (1, .int (nI (a))), (2, .int (nI (j)))]) rfl ?_
      refine j_aload_n X dX6_loads_78 rfl rfl (q := 1) rfl ?_
      refine j_iload_n X dX6_loads_79 rfl rfl (q := 2) rfl ?_
      refine j_iconst X dX6_loads_80 rfl (v := 0) (by decide) ?_
      refine j_iload_n X dX6_loads_81 rfl rfl (q := 0) rfl ?_
      refine j_callv X (c_X6_put l Z S1 h a 0 (rOf S1 a (28 + j)) (by omega)) (wm_ref (by decide)) ((fun _ => rfl) _) rfl lk_RX6_60 mi_X6_put ms_X6_put ini_RX6 mc_X6_put md_X6_put ⟨Nat.le_of_ble_eq_true rfl, Nat.le_of_ble_eq_true rfl⟩ ⟨Nat.le_of_ble_eq_true rfl, Nat.le_of_ble_eq_true rfl⟩ rfl (Nat.le_of_ble_eq_true rfl) (as := [.int (nI (a)), .int (0), .int (rOf S1 a (28 + j))]) (rest := []) rfl dX6_loads_82 rfl ?_
      refine j_name (fun S2 eS2 => ?_)
      refine j_aload_n X dX6_loads_85 rfl rfl (q := 1) rfl ?_
      refine j_iload_n X dX6_loads_86 rfl rfl (q := 2) rfl ?_
      refine j_iconst X dX6_loads_87 rfl (v := 3) (by decide) ?_
      refine j_calli X (c_X6_of l Z S2 h a 3 (by omega)) (wm_ref (by decide)) ((fun _ => rfl) _) rfl lk_RX6_97 mi_X6_of ms_X6_of ini_RX6 mc_X6_of md_X6_of ⟨Nat.le_of_ble_eq_true rfl, Nat.le_of_ble_eq_true rfl⟩ ⟨Nat.le_of_ble_eq_true rfl, Nat.le_of_ble_eq_true rfl⟩ rfl (Nat.le_of_ble_eq_true rfl) (as := [.int (nI (a)), .int (3)]) (rest := []) rfl dX6_loads_88 rfl ?_
      refine j_iconst X dX6_loads_91 rfl (v := 1) (by decide) ?_
      refine j_icmp_ne X dX6_loads_92 rfl (tgt := 163) (by decide) (fun c_92 => ?_) (fun c_92 => ?_)
      · refine j_iconst X dX6_loads_163 rfl (v := 1) (by decide) ?_
        exact j_ret (by subst eS1; subst eS2; first | with_reducible rfl | (simp [rLoad, rGot, rNote, rNoteA, rMiss, rBump, bI, c_7, c_21, c_92]; done) | (simp_all [rLoad, rGot, rNote, rNoteA, rMiss, rBump, bI]; done) | rfl) (by subst eS1; subst eS2; first | with_reducible rfl | (simp [rLoad, rGot, rNote, rNoteA, rMiss, rBump, bI, c_7, c_21, c_92]; done) | (simp_all [rLoad, rGot, rNote, rNoteA, rMiss, rBump, bI]; done) | rfl) rfl (K _ _ dX6_loads_164)
      · refine j_aload_n X dX6_loads_95 rfl rfl (q := 1) rfl ?_
        refine j_iload_n X dX6_loads_96 rfl rfl (q := 2) rfl ?_
        refine j_bipush X dX6_loads_97 rfl (v := 8) (by decide) ?_
        refine j_calli X (c_X6_of l Z S2 h a 8 (by omega)) (wm_ref (by decide)) ((fun _ => rfl) _) rfl lk_RX6_97 mi_X6_of ms_X6_of ini_RX6 mc_X6_of md_X6_of ⟨Nat.le_of_ble_eq_true rfl, Nat.le_of_ble_eq_true rfl⟩ ⟨Nat.le_of_ble_eq_true rfl, Nat.le_of_ble_eq_true rfl⟩ rfl (Nat.le_of_ble_eq_true rfl) (as := [.int (nI (a)), .int (8)]) (rest := []) rfl dX6_loads_99 rfl ?_
        refine j_aload_n X dX6_loads_102 rfl rfl (q := 1) rfl ?_
        refine j_iload_n X dX6_loads_103 rfl rfl (q := 2) rfl ?_
        refine j_bipush X dX6_loads_104 rfl (v := 11) (by decide) ?_
        refine j_calli X (c_X6_of l Z S2 h a 11 (by omega)) (wm_ref (by decide)) ((fun _ => rfl) _) rfl lk_RX6_97 mi_X6_of ms_X6_of ini_RX6 mc_X6_of md_X6_of ⟨Nat.le_of_ble_eq_true rfl, Nat.le_of_ble_eq_true rfl⟩ ⟨Nat.le_of_ble_eq_true rfl, Nat.le_of_ble_eq_true rfl⟩ rfl (Nat.le_of_ble_eq_true rfl) (as := [.int (nI (a)), .int (11)]) (rest := [.int (rOf S2 a 8)]) rfl dX6_loads_106 rfl ?_
        refine j_ior X dX6_loads_109 rfl ?_
        refine j_iload_n X dX6_loads_110 rfl rfl (q := 3) rfl ?_
        refine j_callSi X (c_X6_hasLine l Z S2 h ((rOf S2 a 8) ||| (rOf S2 a 11)) (nI (j))) lk_RX6_110 mt_X6_hasLine ini_RX6 mc_X6_hasLine md_X6_hasLine ⟨Nat.le_of_ble_eq_true rfl, Nat.le_of_ble_eq_true rfl⟩ ⟨Nat.le_of_ble_eq_true rfl, Nat.le_of_ble_eq_true rfl⟩ rfl (Nat.le_of_ble_eq_true rfl) (as := [.int ((rOf S2 a 8) ||| (rOf S2 a 11)), .int (nI (j))]) (rest := []) rfl dX6_loads_111 rfl ?_
        refine j_ifb_ne X dX6_loads_114 rfl (tgt := 145) (by decide) (fun c_114 => ?_) (fun c_114 => ?_)
        · refine j_aload_n X dX6_loads_145 rfl rfl (q := 1) rfl ?_
          refine j_iload_n X dX6_loads_146 rfl rfl (q := 2) rfl ?_
          refine j_bipush X dX6_loads_147 rfl (v := 7) (by decide) ?_
          refine j_aload_n X dX6_loads_149 rfl rfl (q := 1) rfl ?_
          refine j_iload_n X dX6_loads_150 rfl rfl (q := 2) rfl ?_
          refine j_bipush X dX6_loads_151 rfl (v := 7) (by decide) ?_
          refine j_calli X (c_X6_of l Z S2 h a 7 (by omega)) (wm_ref (by decide)) ((fun _ => rfl) _) rfl lk_RX6_97 mi_X6_of ms_X6_of ini_RX6 mc_X6_of md_X6_of ⟨Nat.le_of_ble_eq_true rfl, Nat.le_of_ble_eq_true rfl⟩ ⟨Nat.le_of_ble_eq_true rfl, Nat.le_of_ble_eq_true rfl⟩ rfl (Nat.le_of_ble_eq_true rfl) (as := [.int (nI (a)), .int (7)]) (rest := [.int (7), .int (nI (a)), .ref (zA Z (7) (0) (0))]) rfl dX6_loads_153 rfl ?_
          refine j_iconst X dX6_loads_156 rfl (v := 1) (by decide) ?_
          refine j_iload_n X dX6_loads_157 rfl rfl (q := 3) rfl ?_
          refine j_ishl X dX6_loads_158 rfl ?_
          refine j_ior X dX6_loads_159 rfl ?_
          refine j_callv X (c_X6_put l Z S2 h a 7 ((rOf S2 a 7) ||| ((1) <<< ((nI (j)) &&& 31))) (by omega)) (wm_ref (by decide)) ((fun _ => rfl) _) rfl lk_RX6_60 mi_X6_put ms_X6_put ini_RX6 mc_X6_put md_X6_put ⟨Nat.le_of_ble_eq_true rfl, Nat.le_of_ble_eq_true rfl⟩ ⟨Nat.le_of_ble_eq_true rfl, Nat.le_of_ble_eq_true rfl⟩ rfl (Nat.le_of_ble_eq_true rfl) (as := [.int (nI (a)), .int (7), .int ((rOf S2 a 7) ||| ((1) <<< ((nI (j)) &&& 31)))]) (rest := []) rfl dX6_loads_160 rfl ?_
          refine j_name (fun S3 eS3 => ?_)
          refine j_iconst X dX6_loads_163 rfl (v := 1) (by decide) ?_
          exact j_ret (by subst eS1; subst eS2; subst eS3; first | with_reducible rfl | (simp [rLoad, rGot, rNote, rNoteA, rMiss, rBump, bI, c_7, c_21, c_92, c_114]; done) | (simp_all [rLoad, rGot, rNote, rNoteA, rMiss, rBump, bI]; done) | rfl) (by subst eS1; subst eS2; subst eS3; first | with_reducible rfl | (simp [rLoad, rGot, rNote, rNoteA, rMiss, rBump, bI, c_7, c_21, c_92, c_114]; done) | (simp_all [rLoad, rGot, rNote, rNoteA, rMiss, rBump, bI]; done) | rfl) rfl (K _ _ dX6_loads_164)
        · refine j_aload_n X dX6_loads_117 rfl rfl (q := 1) rfl ?_
          refine j_iload_n X dX6_loads_118 rfl rfl (q := 2) rfl ?_
          refine j_bipush X dX6_loads_119 rfl (v := 11) (by decide) ?_
          refine j_aload_n X dX6_loads_121 rfl rfl (q := 1) rfl ?_
          refine j_iload_n X dX6_loads_122 rfl rfl (q := 2) rfl ?_
          refine j_bipush X dX6_loads_123 rfl (v := 11) (by decide) ?_
          refine j_calli X (c_X6_of l Z S2 h a 11 (by omega)) (wm_ref (by decide)) ((fun _ => rfl) _) rfl lk_RX6_97 mi_X6_of ms_X6_of ini_RX6 mc_X6_of md_X6_of ⟨Nat.le_of_ble_eq_true rfl, Nat.le_of_ble_eq_true rfl⟩ ⟨Nat.le_of_ble_eq_true rfl, Nat.le_of_ble_eq_true rfl⟩ rfl (Nat.le_of_ble_eq_true rfl) (as := [.int (nI (a)), .int (11)]) (rest := [.int (11), .int (nI (a)), .ref (zA Z (7) (0) (0))]) rfl dX6_loads_125 rfl ?_
          refine j_iconst X dX6_loads_128 rfl (v := 1) (by decide) ?_
          refine j_iload_n X dX6_loads_129 rfl rfl (q := 3) rfl ?_
          refine j_ishl X dX6_loads_130 rfl ?_
          refine j_ior X dX6_loads_131 rfl ?_
          refine j_callv X (c_X6_put l Z S2 h a 11 ((rOf S2 a 11) ||| ((1) <<< ((nI (j)) &&& 31))) (by omega)) (wm_ref (by decide)) ((fun _ => rfl) _) rfl lk_RX6_60 mi_X6_put ms_X6_put ini_RX6 mc_X6_put md_X6_put ⟨Nat.le_of_ble_eq_true rfl, Nat.le_of_ble_eq_true rfl⟩ ⟨Nat.le_of_ble_eq_true rfl, Nat.le_of_ble_eq_true rfl⟩ rfl (Nat.le_of_ble_eq_true rfl) (as := [.int (nI (a)), .int (11), .int ((rOf S2 a 11) ||| ((1) <<< ((nI (j)) &&& 31)))]) (rest := []) rfl dX6_loads_132 rfl ?_
          refine j_name (fun S4 eS4 => ?_)
          refine j_aload_n X dX6_loads_135 rfl rfl (q := 1) rfl ?_
          refine j_iload_n X dX6_loads_136 rfl rfl (q := 2) rfl ?_
          refine j_bipush X dX6_loads_137 rfl (v := 12) (by decide) ?_
          refine j_iload_n X dX6_loads_139 rfl rfl (q := 3) rfl ?_
          refine j_iadd X dX6_loads_140 rfl ?_
          refine j_topeq (y := nI (12 + j)) (nI_add 12 j) ?_
          refine j_iload_n X dX6_loads_141 rfl rfl (q := 0) rfl ?_
          refine j_callv X (c_X6_put l Z S4 h a (12 + j) (rOf S1 a (28 + j)) (by omega)) (wm_ref (by decide)) ((fun _ => rfl) _) rfl lk_RX6_60 mi_X6_put ms_X6_put ini_RX6 mc_X6_put md_X6_put ⟨Nat.le_of_ble_eq_true rfl, Nat.le_of_ble_eq_true rfl⟩ ⟨Nat.le_of_ble_eq_true rfl, Nat.le_of_ble_eq_true rfl⟩ rfl (Nat.le_of_ble_eq_true rfl) (as := [.int (nI (a)), .int (nI (12 + j)), .int (rOf S1 a (28 + j))]) (rest := []) rfl dX6_loads_142 rfl ?_
          refine j_name (fun S5 eS5 => ?_)
          refine j_aload_n X dX6_loads_145 rfl rfl (q := 1) rfl ?_
          refine j_iload_n X dX6_loads_146 rfl rfl (q := 2) rfl ?_
          refine j_bipush X dX6_loads_147 rfl (v := 7) (by decide) ?_
          refine j_aload_n X dX6_loads_149 rfl rfl (q := 1) rfl ?_
          refine j_iload_n X dX6_loads_150 rfl rfl (q := 2) rfl ?_
          refine j_bipush X dX6_loads_151 rfl (v := 7) (by decide) ?_
          refine j_calli X (c_X6_of l Z S5 h a 7 (by omega)) (wm_ref (by decide)) ((fun _ => rfl) _) rfl lk_RX6_97 mi_X6_of ms_X6_of ini_RX6 mc_X6_of md_X6_of ⟨Nat.le_of_ble_eq_true rfl, Nat.le_of_ble_eq_true rfl⟩ ⟨Nat.le_of_ble_eq_true rfl, Nat.le_of_ble_eq_true rfl⟩ rfl (Nat.le_of_ble_eq_true rfl) (as := [.int (nI (a)), .int (7)]) (rest := [.int (7), .int (nI (a)), .ref (zA Z (7) (0) (0))]) rfl dX6_loads_153 rfl ?_
          refine j_iconst X dX6_loads_156 rfl (v := 1) (by decide) ?_
          refine j_iload_n X dX6_loads_157 rfl rfl (q := 3) rfl ?_
          refine j_ishl X dX6_loads_158 rfl ?_
          refine j_ior X dX6_loads_159 rfl ?_
          refine j_callv X (c_X6_put l Z S5 h a 7 ((rOf S5 a 7) ||| ((1) <<< ((nI (j)) &&& 31))) (by omega)) (wm_ref (by decide)) ((fun _ => rfl) _) rfl lk_RX6_60 mi_X6_put ms_X6_put ini_RX6 mc_X6_put md_X6_put ⟨Nat.le_of_ble_eq_true rfl, Nat.le_of_ble_eq_true rfl⟩ ⟨Nat.le_of_ble_eq_true rfl, Nat.le_of_ble_eq_true rfl⟩ rfl (Nat.le_of_ble_eq_true rfl) (as := [.int (nI (a)), .int (7), .int ((rOf S5 a 7) ||| ((1) <<< ((nI (j)) &&& 31)))]) (rest := []) rfl dX6_loads_160 rfl ?_
          refine j_name (fun S6 eS6 => ?_)
          refine j_iconst X dX6_loads_163 rfl (v := 1) (by decide) ?_
          exact j_ret (by subst eS1; subst eS2; subst eS4; subst eS5; subst eS6; first | with_reducible rfl | (simp [rLoad, rGot, rNote, rNoteA, rMiss, rBump, bI, c_7, c_21, c_92, c_114]; done) | (simp_all [rLoad, rGot, rNote, rNoteA, rMiss, rBump, bI]; done) | rfl) (by subst eS1; subst eS2; subst eS4; subst eS5; subst eS6; first | with_reducible rfl | (simp [rLoad, rGot, rNote, rNoteA, rMiss, rBump, bI, c_7, c_21, c_92, c_114]; done) | (simp_all [rLoad, rGot, rNote, rNoteA, rMiss, rBump, bI]; done) | rfl) rfl (K _ _ dX6_loads_164)
    · refine j_aload_n X dX6_loads_24 rfl rfl (q := 0) rfl ?_
      refine jg_model X 0 (by decide) lk_RX6_7 rfl rfl dX6_loads_25 rfl ?_
      refine j_bipush X dX6_loads_28 rfl (v := 13) (by decide) ?_
      refine j_dup2 X dX6_loads_30 rfl rfl rfl ?_
      refine j_ialdN X (k := 13) (wm_ref (by decide)) ((fun _ => rfl) _) (by decide) (by decide) dX6_loads_31 rfl ?_
      refine j_iconst X dX6_loads_32 rfl (v := 1) (by decide) ?_
      refine j_iadd X dX6_loads_33 rfl ?_
      refine j_iastN X (k := 13) (wm_ref (by decide)) (fun r => (fun _ => rfl) r) (by decide) (by decide) dX6_loads_34 rfl ?_
      refine j_name (fun S7 eS7 => ?_)
      refine j_aload_n X dX6_loads_35 rfl rfl (q := 0) rfl ?_
      refine j_iload_n X dX6_loads_36 rfl rfl (q := 1) rfl ?_
      refine j_iload_n X dX6_loads_37 rfl rfl (q := 2) rfl ?_
      refine j_callv X (c_X6_collect l Z S7 h a (by omega) j (by omega) (by subst eS1; subst eS7; simp [setM_ne, setO_M, rCC, rQ, rRes_k, rWB_k, rCol_k, rOwn_k, rOwnL_k, rHold_k, rAbort_k, rPut_k, rBump, lo0, lo2, lo21, hj] <;> exact hcc)) (wm_ref (by decide)) ((fun _ => rfl) _) rfl lk_RX6_131 mi_X6_collect ms_X6_collect ini_RX6 mc_X6_collect md_X6_collect ⟨Nat.le_of_ble_eq_true rfl, Nat.le_of_ble_eq_true rfl⟩ ⟨Nat.le_of_ble_eq_true rfl, Nat.le_of_ble_eq_true rfl⟩ rfl (Nat.le_of_ble_eq_true rfl) (as := [.int (nI (a)), .int (nI (j))]) (rest := []) rfl dX6_loads_38 rfl ?_
      refine j_name (fun S8 eS8 => ?_)
      refine j_aload_n X dX6_loads_41 rfl rfl (q := 0) rfl ?_
      refine j_iload_n X dX6_loads_42 rfl rfl (q := 1) rfl ?_
      refine j_bipush X dX6_loads_43 rfl (v := 20) (by decide) ?_
      refine j_iload_n X dX6_loads_45 rfl rfl (q := 2) rfl ?_
      refine j_iadd X dX6_loads_46 rfl ?_
      refine j_topeq (y := nI (20 + j)) (nI_add 20 j) ?_
      refine j_iconst X dX6_loads_47 rfl (v := 1) (by decide) ?_
      refine j_callv X (c_X6_put l Z S8 h a (20 + j) (1) (by omega)) (wm_ref (by decide)) ((fun _ => rfl) _) rfl lk_RX6_60 mi_X6_put ms_X6_put ini_RX6 mc_X6_put md_X6_put ⟨Nat.le_of_ble_eq_true rfl, Nat.le_of_ble_eq_true rfl⟩ ⟨Nat.le_of_ble_eq_true rfl, Nat.le_of_ble_eq_true rfl⟩ rfl (Nat.le_of_ble_eq_true rfl) (as := [.int (nI (a)), .int (nI (20 + j)), .int (1)]) (rest := []) rfl dX6_loads_48 rfl ?_
      refine j_name (fun S9 eS9 => ?_)
      refine j_aload_n X dX6_loads_51 rfl rfl (q := 0) rfl ?_
      refine j_iload_n X dX6_loads_52 rfl rfl (q := 1) rfl ?_
      refine j_bipush X dX6_loads_53 rfl (v := 28) (by decide) ?_
      refine j_iload_n X dX6_loads_55 rfl rfl (q := 2) rfl ?_
      refine j_iadd X dX6_loads_56 rfl ?_
      refine j_topeq (y := nI (28 + j)) (nI_add 28 j) ?_
      refine j_aload_n X dX6_loads_57 rfl rfl (q := 0) rfl ?_
      refine jg_model X 0 (by decide) lk_RX6_7 rfl rfl dX6_loads_58 rfl ?_
      refine j_iconst X dX6_loads_61 rfl (v := 5) (by decide) ?_
      refine j_iload_n X dX6_loads_62 rfl rfl (q := 2) rfl ?_
      refine j_iadd X dX6_loads_63 rfl ?_
      refine j_topeq (y := nI (5 + j)) (nI_add 5 j) ?_
      refine j_ialdN X (k := 5 + j) (wm_ref (by decide)) ((fun _ => rfl) _) (by omega) (by decide) dX6_loads_64 rfl ?_
      refine j_callv X (c_X6_put l Z S9 h a (28 + j) (S9 7 0 1 (5 + j)) (by omega)) (wm_ref (by decide)) ((fun _ => rfl) _) rfl lk_RX6_60 mi_X6_put ms_X6_put ini_RX6 mc_X6_put md_X6_put ⟨Nat.le_of_ble_eq_true rfl, Nat.le_of_ble_eq_true rfl⟩ ⟨Nat.le_of_ble_eq_true rfl, Nat.le_of_ble_eq_true rfl⟩ rfl (Nat.le_of_ble_eq_true rfl) (as := [.int (nI (a)), .int (nI (28 + j)), .int (S9 7 0 1 (5 + j))]) (rest := []) rfl dX6_loads_65 rfl ?_
      refine j_name (fun S10 eS10 => ?_)
      refine j_aload_n X dX6_loads_68 rfl rfl (q := 0) rfl ?_
      refine j_iload_n X dX6_loads_69 rfl rfl (q := 1) rfl ?_
      refine j_bipush X dX6_loads_70 rfl (v := 28) (by decide) ?_
      refine j_iload_n X dX6_loads_72 rfl rfl (q := 2) rfl ?_
      refine j_iadd X dX6_loads_73 rfl ?_
      refine j_topeq (y := nI (28 + j)) (nI_add 28 j) ?_
      refine j_calli X (c_X6_of l Z S10 h a (28 + j) (by omega)) (wm_ref (by decide)) ((fun _ => rfl) _) rfl lk_RX6_97 mi_X6_of ms_X6_of ini_RX6 mc_X6_of md_X6_of ⟨Nat.le_of_ble_eq_true rfl, Nat.le_of_ble_eq_true rfl⟩ ⟨Nat.le_of_ble_eq_true rfl, Nat.le_of_ble_eq_true rfl⟩ rfl (Nat.le_of_ble_eq_true rfl) (as := [.int (nI (a)), .int (nI (28 + j))]) (rest := []) rfl dX6_loads_74 rfl ?_
      refine j_istore_n X dX6_loads_77 rfl rfl (by decide) (Ls2 := [(3, .int (rOf S10 a (28 + j))), (0, .ref (zA Z (7) (0) (0))), (1, .int (nI (a))), (2, .int (nI (j)))]) rfl ?_
      refine j_aload_n X dX6_loads_78 rfl rfl (q := 1) rfl ?_
      refine j_iload_n X dX6_loads_79 rfl rfl (q := 2) rfl ?_
      refine j_iconst X dX6_loads_80 rfl (v := 0) (by decide) ?_
      refine j_iload_n X dX6_loads_81 rfl rfl (q := 0) rfl ?_
      refine j_callv X (c_X6_put l Z S10 h a 0 (rOf S10 a (28 + j)) (by omega)) (wm_ref (by decide)) ((fun _ => rfl) _) rfl lk_RX6_60 mi_X6_put ms_X6_put ini_RX6 mc_X6_put md_X6_put ⟨Nat.le_of_ble_eq_true rfl, Nat.le_of_ble_eq_true rfl⟩ ⟨Nat.le_of_ble_eq_true rfl, Nat.le_of_ble_eq_true rfl⟩ rfl (Nat.le_of_ble_eq_true rfl) (as := [.int (nI (a)), .int (0), .int (rOf S10 a (28 + j))]) (rest := []) rfl dX6_loads_82 rfl ?_
      refine j_name (fun S11 eS11 => ?_)
      refine j_aload_n X dX6_loads_85 rfl rfl (q := 1) rfl ?_
      refine j_iload_n X dX6_loads_86 rfl rfl (q := 2) rfl ?_
      refine j_iconst X dX6_loads_87 rfl (v := 3) (by decide) ?_
      refine j_calli X (c_X6_of l Z S11 h a 3 (by omega)) (wm_ref (by decide)) ((fun _ => rfl) _) rfl lk_RX6_97 mi_X6_of ms_X6_of ini_RX6 mc_X6_of md_X6_of ⟨Nat.le_of_ble_eq_true rfl, Nat.le_of_ble_eq_true rfl⟩ ⟨Nat.le_of_ble_eq_true rfl, Nat.le_of_ble_eq_true rfl⟩ rfl (Nat.le_of_ble_eq_true rfl) (as := [.int (nI (a)), .int (3)]) (rest := []) rfl dX6_loads_88 rfl ?_
      refine j_iconst X dX6_loads_91 rfl (v := 1) (by decide) ?_
      refine j_icmp_ne X dX6_loads_92 rfl (tgt := 163) (by decide) (fun c_92_12 => ?_) (fun c_92_12 => ?_)
      · refine j_iconst X dX6_loads_163 rfl (v := 1) (by decide) ?_
        exact j_ret (by subst eS1; subst eS7; subst eS8; subst eS9; subst eS10; subst eS11; first | with_reducible rfl | (simp [rLoad, rGot, rNote, rNoteA, rMiss, rBump, bI, c_7, c_21, c_92_12]; done) | (simp_all [rLoad, rGot, rNote, rNoteA, rMiss, rBump, bI]; done) | rfl) (by subst eS1; subst eS7; subst eS8; subst eS9; subst eS10; subst eS11; first | with_reducible rfl | (simp [rLoad, rGot, rNote, rNoteA, rMiss, rBump, bI, c_7, c_21, c_92_12]; done) | (simp_all [rLoad, rGot, rNote, rNoteA, rMiss, rBump, bI]; done) | rfl) rfl (K _ _ dX6_loads_164)
      · refine j_aload_n X dX6_loads_95 rfl rfl (q := 1) rfl ?_
        refine j_iload_n X dX6_loads_96 rfl rfl (q := 2) rfl ?_
        refine j_bipush X dX6_loads_97 rfl (v := 8) (by decide) ?_
        refine j_calli X (c_X6_of l Z S11 h a 8 (by omega)) (wm_ref (by decide)) ((fun _ => rfl) _) rfl lk_RX6_97 mi_X6_of ms_X6_of ini_RX6 mc_X6_of md_X6_of ⟨Nat.le_of_ble_eq_true rfl, Nat.le_of_ble_eq_true rfl⟩ ⟨Nat.le_of_ble_eq_true rfl, Nat.le_of_ble_eq_true rfl⟩ rfl (Nat.le_of_ble_eq_true rfl) (as := [.int (nI (a)), .int (8)]) (rest := []) rfl dX6_loads_99 rfl ?_
        refine j_aload_n X dX6_loads_102 rfl rfl (q := 1) rfl ?_
        refine j_iload_n X dX6_loads_103 rfl rfl (q := 2) rfl ?_
        refine j_bipush X dX6_loads_104 rfl (v := 11) (by decide) ?_
        refine j_calli X (c_X6_of l Z S11 h a 11 (by omega)) (wm_ref (by decide)) ((fun _ => rfl) _) rfl lk_RX6_97 mi_X6_of ms_X6_of ini_RX6 mc_X6_of md_X6_of ⟨Nat.le_of_ble_eq_true rfl, Nat.le_of_ble_eq_true rfl⟩ ⟨Nat.le_of_ble_eq_true rfl, Nat.le_of_ble_eq_true rfl⟩ rfl (Nat.le_of_ble_eq_true rfl) (as := [.int (nI (a)), .int (11)]) (rest := [.int (rOf S11 a 8)]) rfl dX6_loads_106 rfl ?_
        refine j_ior X dX6_loads_109 rfl ?_
        refine j_iload_n X dX6_loads_110 rfl rfl (q := 3) rfl ?_
        refine j_callSi X (c_X6_hasLine l Z S11 h ((rOf S11 a 8) ||| (rOf S11 a 11)) (nI (j))) lk_RX6_110 mt_X6_hasLine ini_RX6 mc_X6_hasLine md_X6_hasLine ⟨Nat.le_of_ble_eq_true rfl, Nat.le_of_ble_eq_true rfl⟩ ⟨Nat.le_of_ble_eq_true rfl, Nat.le_of_ble_eq_true rfl⟩ rfl (Nat.le_of_ble_eq_true rfl) (as := [.int ((rOf S11 a 8) ||| (rOf S11 a 11)), .int (nI (j))]) (rest := []) rfl dX6_loads_111 rfl ?_
        refine j_ifb_ne X dX6_loads_114 rfl (tgt := 145) (by decide) (fun c_114_13 => ?_) (fun c_114_13 => ?_)
        · refine j_aload_n X dX6_loads_145 rfl rfl (q := 1) rfl ?_
          refine j_iload_n X dX6_loads_146 rfl rfl (q := 2) rfl ?_
          refine j_bipush X dX6_loads_147 rfl (v := 7) (by decide) ?_
          refine j_aload_n X dX6_loads_149 rfl rfl (q := 1) rfl ?_
          refine j_iload_n X dX6_loads_150 rfl rfl (q := 2) rfl ?_
          refine j_bipush X dX6_loads_151 rfl (v := 7) (by decide) ?_
          refine j_calli X (c_X6_of l Z S11 h a 7 (by omega)) (wm_ref (by decide)) ((fun _ => rfl) _) rfl lk_RX6_97 mi_X6_of ms_X6_of ini_RX6 mc_X6_of md_X6_of ⟨Nat.le_of_ble_eq_true rfl, Nat.le_of_ble_eq_true rfl⟩ ⟨Nat.le_of_ble_eq_true rfl, Nat.le_of_ble_eq_true rfl⟩ rfl (Nat.le_of_ble_eq_true rfl) (as := [.int (nI (a)), .int (7)]) (rest := [.int (7), .int (nI (a)), .ref (zA Z (7) (0) (0))]) rfl dX6_loads_153 rfl ?_
          refine j_iconst X dX6_loads_156 rfl (v := 1) (by decide) ?_
          refine j_iload_n X dX6_loads_157 rfl rfl (q := 3) rfl ?_
          refine j_ishl X dX6_loads_158 rfl ?_
          refine j_ior X dX6_loads_159 rfl ?_
          refine j_callv X (c_X6_put l Z S11 h a 7 ((rOf S11 a 7) ||| ((1) <<< ((nI (j)) &&& 31))) (by omega)) (wm_ref (by decide)) ((fun _ => rfl) _) rfl lk_RX6_60 mi_X6_put ms_X6_put ini_RX6 mc_X6_put md_X6_put ⟨Nat.le_of_ble_eq_true rfl, Nat.le_of_ble_eq_true rfl⟩ ⟨Nat.le_of_ble_eq_true rfl, Nat.le_of_ble_eq_true rfl⟩ rfl (Nat.le_of_ble_eq_true rfl) (as := [.int (nI (a)), .int (7), .int ((rOf S11 a 7) ||| ((1) <<< ((nI (j)) &&& 31)))]) (rest := []) rfl dX6_loads_160 rfl ?_
          refine j_name (fun S14 eS14 => ?_)
          refine j_iconst X dX6_loads_163 rfl (v := 1) (by decide) ?_
          exact j_ret (by subst eS1; subst eS7; subst eS8; subst eS9; subst eS10; subst eS11; subst eS14; first | with_reducible rfl | (simp [rLoad, rGot, rNote, rNoteA, rMiss, rBump, bI, c_7, c_21, c_92_12, c_114_13]; done) | (simp_all [rLoad, rGot, rNote, rNoteA, rMiss, rBump, bI]; done) | rfl) (by subst eS1; subst eS7; subst eS8; subst eS9; subst eS10; subst eS11; subst eS14; first | with_reducible rfl | (simp [rLoad, rGot, rNote, rNoteA, rMiss, rBump, bI, c_7, c_21, c_92_12, c_114_13]; done) | (simp_all [rLoad, rGot, rNote, rNoteA, rMiss, rBump, bI]; done) | rfl) rfl (K _ _ dX6_loads_164)
        · refine j_aload_n X dX6_loads_117 rfl rfl (q := 1) rfl ?_
          refine j_iload_n X dX6_loads_118 rfl rfl (q := 2) rfl ?_
          refine j_bipush X dX6_loads_119 rfl (v := 11) (by decide) ?_
          refine j_aload_n X dX6_loads_121 rfl rfl (q := 1) rfl ?_
          refine j_iload_n X dX6_loads_122 rfl rfl (q := 2) rfl ?_
          refine j_bipush X dX6_loads_123 rfl (v := 11) (by decide) ?_
          refine j_calli X (c_X6_of l Z S11 h a 11 (by omega)) (wm_ref (by decide)) ((fun _ => rfl) _) rfl lk_RX6_97 mi_X6_of ms_X6_of ini_RX6 mc_X6_of md_X6_of ⟨Nat.le_of_ble_eq_true rfl, Nat.le_of_ble_eq_true rfl⟩ ⟨Nat.le_of_ble_eq_true rfl, Nat.le_of_ble_eq_true rfl⟩ rfl (Nat.le_of_ble_eq_true rfl) (as := [.int (nI (a)), .int (11)]) (rest := [.int (11), .int (nI (a)), .ref (zA Z (7) (0) (0))]) rfl dX6_loads_125 rfl ?_
          refine j_iconst X dX6_loads_128 rfl (v := 1) (by decide) ?_
          refine j_iload_n X dX6_loads_129 rfl rfl (q := 3) rfl ?_
          refine j_ishl X dX6_loads_130 rfl ?_
          refine j_ior X dX6_loads_131 rfl ?_
          refine j_callv X (c_X6_put l Z S11 h a 11 ((rOf S11 a 11) ||| ((1) <<< ((nI (j)) &&& 31))) (by omega)) (wm_ref (by decide)) ((fun _ => rfl) _) rfl lk_RX6_60 mi_X6_put ms_X6_put ini_RX6 mc_X6_put md_X6_put ⟨Nat.le_of_ble_eq_true rfl, Nat.le_of_ble_eq_true rfl⟩ ⟨Nat.le_of_ble_eq_true rfl, Nat.le_of_ble_eq_true rfl⟩ rfl (Nat.le_of_ble_eq_true rfl) (as := [.int (nI (a)), .int (11), .int ((rOf S11 a 11) ||| ((1) <<< ((nI (j)) &&& 31)))]) (rest := []) rfl dX6_loads_132 rfl ?_
          refine j_name (fun S15 eS15 => ?_)
          refine j_aload_n X dX6_loads_135 rfl rfl (q := 1) rfl ?_
          refine j_iload_n X dX6_loads_136 rfl rfl (q := 2) rfl ?_
          refine j_bipush X dX6_loads_137 rfl (v := 12) (by decide) ?_
          refine j_iload_n X dX6_loads_139 rfl rfl (q := 3) rfl ?_
          refine j_iadd X dX6_loads_140 rfl ?_
          refine j_topeq (y := nI (12 + j)) (nI_add 12 j) ?_
          refine j_iload_n X dX6_loads_141 rfl rfl (q := 0) rfl ?_
          refine j_callv X (c_X6_put l Z S15 h a (12 + j) (rOf S10 a (28 + j)) (by omega)) (wm_ref (by decide)) ((fun _ => rfl) _) rfl lk_RX6_60 mi_X6_put ms_X6_put ini_RX6 mc_X6_put md_X6_put ⟨Nat.le_of_ble_eq_true rfl, Nat.le_of_ble_eq_true rfl⟩ ⟨Nat.le_of_ble_eq_true rfl, Nat.le_of_ble_eq_true rfl⟩ rfl (Nat.le_of_ble_eq_true rfl) (as := [.int (nI (a)), .int (nI (12 + j)), .int (rOf S10 a (28 + j))]) (rest := []) rfl dX6_loads_142 rfl ?_
          refine j_name (fun S16 eS16 => ?_)
          refine j_aload_n X dX6_loads_145 rfl rfl (q := 1) rfl ?_
          refine j_iload_n X dX6_loads_146 rfl rfl (q := 2) rfl ?_
          refine j_bipush X dX6_loads_147 rfl (v := 7) (by decide) ?_
          refine j_aload_n X dX6_loads_149 rfl rfl (q := 1) rfl ?_
          refine j_iload_n X dX6_loads_150 rfl rfl (q := 2) rfl ?_
          refine j_bipush X dX6_loads_151 rfl (v := 7) (by decide) ?_
          refine j_calli X (c_X6_of l Z S16 h a 7 (by omega)) (wm_ref (by decide)) ((fun _ => rfl) _) rfl lk_RX6_97 mi_X6_of ms_X6_of ini_RX6 mc_X6_of md_X6_of ⟨Nat.le_of_ble_eq_true rfl, Nat.le_of_ble_eq_true rfl⟩ ⟨Nat.le_of_ble_eq_true rfl, Nat.le_of_ble_eq_true rfl⟩ rfl (Nat.le_of_ble_eq_true rfl) (as := [.int (nI (a)), .int (7)]) (rest := [.int (7), .int (nI (a)), .ref (zA Z (7) (0) (0))]) rfl dX6_loads_153 rfl ?_
          refine j_iconst X dX6_loads_156 rfl (v := 1) (by decide) ?_
          refine j_iload_n X dX6_loads_157 rfl rfl (q := 3) rfl ?_
          refine j_ishl X dX6_loads_158 rfl ?_
          refine j_ior X dX6_loads_159 rfl ?_
          refine j_callv X (c_X6_put l Z S16 h a 7 ((rOf S16 a 7) ||| ((1) <<< ((nI (j)) &&& 31))) (by omega)) (wm_ref (by decide)) ((fun _ => rfl) _) rfl lk_RX6_60 mi_X6_put ms_X6_put ini_RX6 mc_X6_put md_X6_put ⟨Nat.le_of_ble_eq_true rfl, Nat.le_of_ble_eq_true rfl⟩ ⟨Nat.le_of_ble_eq_true rfl, Nat.le_of_ble_eq_true rfl⟩ rfl (Nat.le_of_ble_eq_true rfl) (as := [.int (nI (a)), .int (7), .int ((rOf S16 a 7) ||| ((1) <<< ((nI (j)) &&& 31)))]) (rest := []) rfl dX6_loads_160 rfl ?_
          refine j_name (fun S17 eS17 => ?_)
          refine j_iconst X dX6_loads_163 rfl (v := 1) (by decide) ?_
          exact j_ret (by subst eS1; subst eS7; subst eS8; subst eS9; subst eS10; subst eS11; subst eS15; subst eS16; subst eS17; first | with_reducible rfl | (simp [rLoad, rGot, rNote, rNoteA, rMiss, rBump, bI, c_7, c_21, c_92_12, c_114_13]; done) | (simp_all [rLoad, rGot, rNote, rNoteA, rMiss, rBump, bI]; done) | rfl) (by subst eS1; subst eS7; subst eS8; subst eS9; subst eS10; subst eS11; subst eS15; subst eS16; subst eS17; first | with_reducible rfl | (simp [rLoad, rGot, rNote, rNoteA, rMiss, rBump, bI, c_7, c_21, c_92_12, c_114_13]; done) | (simp_all [rLoad, rGot, rNote, rNoteA, rMiss, rBump, bI]; done) | rfl) rfl (K _ _ dX6_loads_164)
  · refine j_iconst X dX6_loads_10 rfl (v := 0) (by decide) ?_
    exact j_ret (by subst eS1; first | with_reducible rfl | (simp [rLoad, rGot, rNote, rNoteA, rMiss, rBump, bI, c_7]; done) | (simp_all [rLoad, rGot, rNote, rNoteA, rMiss, rBump, bI]; done) | rfl) (by subst eS1; first | with_reducible rfl | (simp [rLoad, rGot, rNote, rNoteA, rMiss, rBump, bI, c_7]; done) | (simp_all [rLoad, rGot, rNote, rNoteA, rMiss, rBump, bI]; done) | rfl) rfl (K _ _ dX6_loads_11)
set_option maxRecDepth 100000 in
set_option maxHeartbeats 4000000 in
theorem L_own (l : Launch) (Z : wZ) (h : Hl) (a : Nat) (ha : a < 4) (j : Nat) (hj : j < 8) (hd : Int32) (cc : Nat) (hc4 : cc ≤ 4) {p : Program} {e : Env} {s : State} {mi : MethodId} {args : Array Value} {below : List Frame} {meth : Method} {c : Code} {A0 : Nat → Prop} {Q : State → Prop} (X : JX p s mi args meth c cX6_own 5 yX6_own.cls Z A0) : ∀ (n k : Nat) (S : St), k + n = cc → S 7 0 1 0 = nI cc → J p l e { frames := 4, cells := 0, slots := 0, locals := 88 } s mi args below meth c 5 Z A0 0 0 Q ((lp (rOwnF a j) n k S)) h [(0, .ref (zA Z (7) (0) (0))), (1, .int (nI (a))), (2, .int (nI (j))), (3, .int (hd))] 117 [] → J p l e { frames := 4, cells := 0, slots := 0, locals := 88 } s mi args below meth c 5 Z A0 0 0 Q S h [(4, .int (nI (k))), (0, .ref (zA Z (7) (0) (0))), (1, .int (nI (a))), (2, .int (nI (j))), (3, .int (hd))] 48 [] := by
  intro n
  induction n with
  | zero =>
    intro k S hkn hI hk
    have hkN : cc = k := by omega
    subst hkN
    refine j_iload X dX6_own_48 rfl (q := 0) rfl ?_
    refine j_aload_n X dX6_own_50 rfl rfl (q := 1) rfl ?_
    refine jg_model X 0 (by decide) lk_RX6_7 rfl rfl dX6_own_51 rfl ?_
    refine j_iconst X dX6_own_54 rfl (v := 0) (by decide) ?_
    refine j_ialdN X (k := 0) (wm_ref (by decide)) ((fun _ => rfl) _) (by decide) (by decide) dX6_own_55 rfl ?_
    refine j_topeq (y := (nI (cc))) (hI) ?_
    refine j_icmp_ge_t X (tgt := 117) dX6_own_56 (by decide) (nI_le (Nat.le_refl _) (by omega)) ?_
    refine j_sub [1, 2, 3, 4] (Ls2 := [(0, .ref (zA Z (7) (0) (0))), (1, .int (nI (a))), (2, .int (nI (j))), (3, .int (hd))]) rfl ?_
    exact hk
  | succ n ih =>
    intro k S hkn hI hk
    have hlt : k < cc := by omega
    refine j_iload X dX6_own_48 rfl (q := 0) rfl ?_
    refine j_aload_n X dX6_own_50 rfl rfl (q := 1) rfl ?_
    refine jg_model X 0 (by decide) lk_RX6_7 rfl rfl dX6_own_51 rfl ?_
    refine j_iconst X dX6_own_54 rfl (v := 0) (by decide) ?_
    refine j_ialdN X (k := 0) (wm_ref (by decide)) ((fun _ => rfl) _) (by decide) (by decide) dX6_own_55 rfl ?_
    refine j_topeq (y := (nI (cc))) (hI) ?_
    refine j_icmp_ge_f X dX6_own_56 rfl (tgt := 117) (by decide) (nI_ge hlt (by omega)) ?_
    refine j_iload X dX6_own_59 rfl (q := 0) rfl ?_
    refine j_iload_n X dX6_own_61 rfl rfl (q := 2) rfl ?_
    refine j_icmpN_eq X (a := k) (b := a) (by omega) (by omega) dX6_own_62 rfl (tgt := 111) (by decide) (fun c_62 => ?_) (fun c_62 => ?_)
    · refine j_iinc X dX6_own_111 rfl (q := 0) rfl (v := (nI (k + 1))) (nI_1 _) (by decide) (Ls2 := [(4, .int (nI (k + 1))), (0, .ref (zA Z (7) (0) (0))), (1, .int (nI (a))), (2, .int (nI (j))), (3, .int (hd))]) rfl ?_
      refine j_goto X (tgt := 48) dX6_own_114 (by decide) ?_
      have eB : (rOwnF a j) k S = S := by first | with_reducible rfl | (simp [rOwnF, rBump, c_62]; done) | (simp_all [rOwnF, rBump]; done) | rfl
      have eL : lp (rOwnF a j) (n + 1) k S = lp (rOwnF a j) n (k + 1) S := congrArg (lp (rOwnF a j) n (k + 1)) eB
      rw [eL] at hk
      exact ih (k + 1) S (by omega) (by rw [← eB, rOwnF_k hj lo0]; exact hI) hk
    · refine j_aload_n X dX6_own_65 rfl rfl (q := 1) rfl ?_
      refine j_iload X dX6_own_66 rfl (q := 0) rfl ?_
      refine j_bipush X dX6_own_68 rfl (v := 20) (by decide) ?_
      refine j_iload_n X dX6_own_70 rfl rfl (q := 3) rfl ?_
      refine j_iadd X dX6_own_71 rfl ?_
      refine j_topeq (y := nI (20 + j)) (nI_add 20 j) ?_
      refine j_calli X (c_X6_of l Z S h k (20 + j) (by omega)) (wm_ref (by decide)) ((fun _ => rfl) _) rfl lk_RX6_97 mi_X6_of ms_X6_of ini_RX6 mc_X6_of md_X6_of ⟨Nat.le_of_ble_eq_true rfl, Nat.le_of_ble_eq_true rfl⟩ ⟨Nat.le_of_ble_eq_true rfl, Nat.le_of_ble_eq_true rfl⟩ rfl (Nat.le_of_ble_eq_true rfl) (as := [.int (nI (k)), .int (nI (20 + j))]) (rest := []) rfl dX6_own_72 rfl ?_
      refine j_if_eq X dX6_own_75 rfl (tgt := 111) (by decide) (fun c_75 => ?_) (fun c_75 => ?_)
      · refine j_iinc X dX6_own_111 rfl (q := 0) rfl (v := (nI (k + 1))) (nI_1 _) (by decide) (Ls2 := [(4, .int (nI (k + 1))), (0, .ref (zA Z (7) (0) (0))), (1, .int (nI (a))), (2, .int (nI (j))), (3, .int (hd))]) rfl ?_
        refine j_goto X (tgt := 48) dX6_own_114 (by decide) ?_
        have eB : (rOwnF a j) k S = S := by first | with_reducible rfl | (simp [rOwnF, rBump, c_62, c_75]; done) | (simp_all [rOwnF, rBump]; done) | rfl
        have eL : lp (rOwnF a j) (n + 1) k S = lp (rOwnF a j) n (k + 1) S := congrArg (lp (rOwnF a j) n (k + 1)) eB
        rw [eL] at hk
        exact ih (k + 1) S (by omega) (by rw [← eB, rOwnF_k hj lo0]; exact hI) hk
      · refine j_aload_n X dX6_own_78 rfl rfl (q := 1) rfl ?_
        refine j_iload X dX6_own_79 rfl (q := 0) rfl ?_
        refine j_bipush X dX6_own_81 rfl (v := 20) (by decide) ?_
        refine j_iload_n X dX6_own_83 rfl rfl (q := 3) rfl ?_
        refine j_iadd X dX6_own_84 rfl ?_
        refine j_topeq (y := nI (20 + j)) (nI_add 20 j) ?_
        refine j_iconst X dX6_own_85 rfl (v := 0) (by decide) ?_
        refine j_callv X (c_X6_put l Z S h k (20 + j) (0) (by omega)) (wm_ref (by decide)) ((fun _ => rfl) _) rfl lk_RX6_60 mi_X6_put ms_X6_put ini_RX6 mc_X6_put md_X6_put ⟨Nat.le_of_ble_eq_true rfl, Nat.le_of_ble_eq_true rfl⟩ ⟨Nat.le_of_ble_eq_true rfl, Nat.le_of_ble_eq_true rfl⟩ rfl (Nat.le_of_ble_eq_true rfl) (as := [.int (nI (k)), .int (nI (20 + j)), .int (0)]) (rest := []) rfl dX6_own_86 rfl ?_
        refine j_name (fun S1 eS1 => ?_)
        refine j_aload_n X dX6_own_89 rfl rfl (q := 1) rfl ?_
        refine j_iload X dX6_own_90 rfl (q := 0) rfl ?_
        refine j_bipush X dX6_own_92 rfl (v := 28) (by decide) ?_
        refine j_iload_n X dX6_own_94 rfl rfl (q := 3) rfl ?_
        refine j_iadd X dX6_own_95 rfl ?_
        refine j_topeq (y := nI (28 + j)) (nI_add 28 j) ?_
        refine j_iconst X dX6_own_96 rfl (v := 0) (by decide) ?_
        refine j_callv X (c_X6_put l Z S1 h k (28 + j) (0) (by omega)) (wm_ref (by decide)) ((fun _ => rfl) _) rfl lk_RX6_60 mi_X6_put ms_X6_put ini_RX6 mc_X6_put md_X6_put ⟨Nat.le_of_ble_eq_true rfl, Nat.le_of_ble_eq_true rfl⟩ ⟨Nat.le_of_ble_eq_true rfl, Nat.le_of_ble_eq_true rfl⟩ rfl (Nat.le_of_ble_eq_true rfl) (as := [.int (nI (k)), .int (nI (28 + j)), .int (0)]) (rest := []) rfl dX6_own_97 rfl ?_
        refine j_name (fun S2 eS2 => ?_)
        refine j_aload_n X dX6_own_100 rfl rfl (q := 1) rfl ?_
        refine jg_model X 0 (by decide) lk_RX6_7 rfl rfl dX6_own_101 rfl ?_
        refine j_bipush X dX6_own_104 rfl (v := 16) (by decide) ?_
        refine j_dup2 X dX6_own_106 rfl rfl rfl ?_
        refine j_ialdN X (k := 16) (wm_ref (by decide)) ((fun _ => rfl) _) (by decide) (by decide) dX6_own_107 rfl ?_
        refine j_iconst X dX6_own_108 rfl (v := 1) (by decide) ?_
        refine j_iadd X dX6_own_109 rfl ?_
        refine j_iastN X (k := 16) (wm_ref (by decide)) (fun r => (fun _ => rfl) r) (by decide) (by decide) dX6_own_110 rfl ?_
        refine j_name (fun S3 eS3 => ?_)
        refine j_iinc X dX6_own_111 rfl (q := 0) rfl (v := (nI (k + 1))) (nI_1 _) (by decide) (Ls2 := [(4, .int (nI (k + 1))), (0, .ref (zA Z (7) (0) (0))), (1, .int (nI (a))), (2, .int (nI (j))), (3, .int (hd))]) rfl ?_
        refine j_goto X (tgt := 48) dX6_own_114 (by decide) ?_
        have eB : (rOwnF a j) k S = S3 := by subst eS1; subst eS2; subst eS3; first | with_reducible rfl | (simp [rOwnF, rBump, c_62, c_75]; done) | (simp_all [rOwnF, rBump]; done) | rfl
        have eL : lp (rOwnF a j) (n + 1) k S = lp (rOwnF a j) n (k + 1) S3 := congrArg (lp (rOwnF a j) n (k + 1)) eB
        rw [eL] at hk
        exact ih (k + 1) S3 (by omega) (by subst eS1; subst eS2; subst eS3; rw [← eB, rOwnF_k hj lo0]; exact hI) hk
set_option maxRecDepth 100000 in
set_option maxHeartbeats 4000000 in
theorem c_X6_own (l : Launch) (Z : wZ) (S : St) (h : Hl) (a : Nat) (ha : a < 4) (j : Nat) (hj : j < 8) (hcc : okI (S 7 0 1 0) 4) : Cv l yX6_own cX6_own 5 4 88 Z [.ref (zA Z (7) (0) (0)), .int (nI (a)), .int (nI (j))] S h (rOwn S a j) (h) := by
  have hc4 : rCC S ≤ 4 := hcc.2
  refine Cv.of rfl (Nat.le_of_ble_eq_true rfl) (fun p e s mi args below meth c A0 Q X K => ?_)
  refine j_at rfl rfl (Ls3 := [(0, .ref (zA Z (7) (0) (0))), (1, .int (nI (a))), (2, .int (nI (j)))]) rfl rfl ?_
  refine j_aload_n X dX6_own_0 rfl rfl (q := 0) rfl ?_
  refine j_iload_n X dX6_own_1 rfl rfl (q := 1) rfl ?_
  refine j_bipush X dX6_own_2 rfl (v := 20) (by decide) ?_
  refine j_iload_n X dX6_own_4 rfl rfl (q := 2) rfl ?_
  refine j_iadd X dX6_own_5 rfl ?_
  refine j_topeq (y := nI (20 + j)) (nI_add 20 j) ?_
  refine j_calli X (c_X6_of l Z S h a (20 + j) (by omega)) (wm_ref (by decide)) ((fun _ => rfl) _) rfl lk_RX6_97 mi_X6_of ms_X6_of ini_RX6 mc_X6_of md_X6_of ⟨Nat.le_of_ble_eq_true rfl, Nat.le_of_ble_eq_true rfl⟩ ⟨Nat.le_of_ble_eq_true rfl, Nat.le_of_ble_eq_true rfl⟩ rfl (Nat.le_of_ble_eq_true rfl) (as := [.int (nI (a)), .int (nI (20 + j))]) (rest := []) rfl dX6_own_6 rfl ?_
  refine j_if_eq X dX6_own_9 rfl (tgt := 16) (by decide) (fun c_9 => ?_) (fun c_9 => ?_)
  · refine j_iconst X dX6_own_16 rfl (v := 0) (by decide) ?_
    refine j_istore_n X dX6_own_17 rfl rfl (by decide) (Ls2 := [(3, .int (0)), (0, .ref (zA Z (7) (0) (0))), (1, .int (nI (a))), (2, .int (nI (j)))]) rfl ?_
    refine j_aload_n X dX6_own_18 rfl rfl (q := 1) rfl ?_
    refine jg_model X 0 (by decide) lk_RX6_7 rfl rfl dX6_own_19 rfl ?_
    refine j_bipush X dX6_own_22 rfl (v := 13) (by decide) ?_
    refine j_iload_n X dX6_own_24 rfl rfl (q := 0) rfl ?_
    refine j_if_eq_t X (tgt := 32) dX6_own_25 (by decide) (by decide) ?_
    refine j_iconst X dX6_own_32 rfl (v := 1) (by decide) ?_
    refine j_iadd X dX6_own_33 rfl ?_
    refine j_topeq (y := 14) (by decide) ?_
    refine j_dup2 X dX6_own_34 rfl rfl rfl ?_
    refine j_ialdN X (k := 14) (wm_ref (by decide)) ((fun _ => rfl) _) (by decide) (by decide) dX6_own_35 rfl ?_
    refine j_iconst X dX6_own_36 rfl (v := 1) (by decide) ?_
    refine j_iadd X dX6_own_37 rfl ?_
    refine j_iastN X (k := 14) (wm_ref (by decide)) (fun r => (fun _ => rfl) r) (by decide) (by decide) dX6_own_38 rfl ?_
    refine j_name (fun S1 eS1 => ?_)
    refine j_aload_n X dX6_own_39 rfl rfl (q := 1) rfl ?_
    refine j_iload_n X dX6_own_40 rfl rfl (q := 2) rfl ?_
    refine j_iload_n X dX6_own_41 rfl rfl (q := 3) rfl ?_
    refine j_callv X (c_X6_collect l Z S1 h a (by omega) j (by omega) (by subst eS1; simp [setM_ne, setO_M, rCC, rQ, rRes_k, rWB_k, rCol_k, rOwn_k, rOwnL_k, rHold_k, rAbort_k, rPut_k, rBump, lo0, lo2, lo21, hj] <;> exact hcc)) (wm_ref (by decide)) ((fun _ => rfl) _) rfl lk_RX6_131 mi_X6_collect ms_X6_collect ini_RX6 mc_X6_collect md_X6_collect ⟨Nat.le_of_ble_eq_true rfl, Nat.le_of_ble_eq_true rfl⟩ ⟨Nat.le_of_ble_eq_true rfl, Nat.le_of_ble_eq_true rfl⟩ rfl (Nat.le_of_ble_eq_true rfl) (as := [.int (nI (a)), .int (nI (j))]) (rest := []) rfl dX6_own_42 rfl ?_
    refine j_name (fun S2 eS2 => ?_)
    refine j_iconst X dX6_own_45 rfl (v := 0) (by decide) ?_
    refine j_istore X dX6_own_46 rfl (by decide) (Ls2 := [(4, .int (0)), (3, .int (0)), (0, .ref (zA Z (7) (0) (0))), (1, .int (nI (a))), (2, .int (nI (j)))]) rfl ?_
    refine j_sub [0, 2, 3, 4, 1] (Ls2 := [(4, .int (0)), (0, .ref (zA Z (7) (0) (0))), (1, .int (nI (a))), (2, .int (nI (j))), (3, .int (0))]) rfl ?_
    refine L_own l Z h a ha j hj 0 (rCC S2) (by subst eS1; subst eS2; simp [setM_ne, setO_M, rCC, rQ, rRes_k, rWB_k, rCol_k, rOwn_k, rOwnL_k, rHold_k, rAbort_k, rPut_k, rBump, lo0, lo2, lo21, hj] <;> exact hcc.2) X (rCC S2) 0 S2 (by omega) (by subst eS1; subst eS2; simp [setM_ne, setO_M, rCC, rQ, rRes_k, rWB_k, rCol_k, rOwn_k, rOwnL_k, rHold_k, rAbort_k, rPut_k, rBump, lo0, lo2, lo21, hj] <;> exact hcc.1) ?_
    refine j_name (fun S3 eS3 => ?_)
    refine j_iload_n X dX6_own_117 rfl rfl (q := 3) rfl ?_
    refine j_if_ne_f X dX6_own_118 rfl (tgt := 138) (by decide) (by decide) ?_
    refine j_aload_n X dX6_own_121 rfl rfl (q := 0) rfl ?_
    refine j_iload_n X dX6_own_122 rfl rfl (q := 1) rfl ?_
    refine j_bipush X dX6_own_123 rfl (v := 28) (by decide) ?_
    refine j_iload_n X dX6_own_125 rfl rfl (q := 2) rfl ?_
    refine j_iadd X dX6_own_126 rfl ?_
    refine j_topeq (y := nI (28 + j)) (nI_add 28 j) ?_
    refine j_aload_n X dX6_own_127 rfl rfl (q := 0) rfl ?_
    refine jg_model X 0 (by decide) lk_RX6_7 rfl rfl dX6_own_128 rfl ?_
    refine j_iconst X dX6_own_131 rfl (v := 5) (by decide) ?_
    refine j_iload_n X dX6_own_132 rfl rfl (q := 2) rfl ?_
    refine j_iadd X dX6_own_133 rfl ?_
    refine j_topeq (y := nI (5 + j)) (nI_add 5 j) ?_
    refine j_ialdN X (k := 5 + j) (wm_ref (by decide)) ((fun _ => rfl) _) (by omega) (by decide) dX6_own_134 rfl ?_
    refine j_callv X (c_X6_put l Z S3 h a (28 + j) (S3 7 0 1 (5 + j)) (by omega)) (wm_ref (by decide)) ((fun _ => rfl) _) rfl lk_RX6_60 mi_X6_put ms_X6_put ini_RX6 mc_X6_put md_X6_put ⟨Nat.le_of_ble_eq_true rfl, Nat.le_of_ble_eq_true rfl⟩ ⟨Nat.le_of_ble_eq_true rfl, Nat.le_of_ble_eq_true rfl⟩ rfl (Nat.le_of_ble_eq_true rfl) (as := [.int (nI (a)), .int (nI (28 + j)), .int (S3 7 0 1 (5 + j))]) (rest := []) rfl dX6_own_135 rfl ?_
    refine j_name (fun S4 eS4 => ?_)
    refine j_aload_n X dX6_own_138 rfl rfl (q := 0) rfl ?_
    refine j_iload_n X dX6_own_139 rfl rfl (q := 1) rfl ?_
    refine j_bipush X dX6_own_140 rfl (v := 20) (by decide) ?_
    refine j_iload_n X dX6_own_142 rfl rfl (q := 2) rfl ?_
    refine j_iadd X dX6_own_143 rfl ?_
    refine j_topeq (y := nI (20 + j)) (nI_add 20 j) ?_
    refine j_iconst X dX6_own_144 rfl (v := 2) (by decide) ?_
    refine j_callv X (c_X6_put l Z S4 h a (20 + j) (2) (by omega)) (wm_ref (by decide)) ((fun _ => rfl) _) rfl lk_RX6_60 mi_X6_put ms_X6_put ini_RX6 mc_X6_put md_X6_put ⟨Nat.le_of_ble_eq_true rfl, Nat.le_of_ble_eq_true rfl⟩ ⟨Nat.le_of_ble_eq_true rfl, Nat.le_of_ble_eq_true rfl⟩ rfl (Nat.le_of_ble_eq_true rfl) (as := [.int (nI (a)), .int (nI (20 + j)), .int (2)]) (rest := []) rfl dX6_own_145 rfl ?_
    refine j_name (fun S5 eS5 => ?_)
    exact j_at (by subst eS1; subst eS2; subst eS3; subst eS4; subst eS5; first | with_reducible rfl | (simp [rOwn, rBump, c_9]; done) | (simp_all [rOwn, rBump]; done) | rfl) rfl rfl rfl (K _ _ dX6_own_148)
  · refine j_iconst X dX6_own_12 rfl (v := 1) (by decide) ?_
    refine j_goto X (tgt := 17) dX6_own_13 (by decide) ?_
    refine j_istore_n X dX6_own_17 rfl rfl (by decide) (Ls2 := [(3, .int (1)), (0, .ref (zA Z (7) (0) (0))), (1, .int (nI (a))), (2, .int (nI (j)))]) rfl ?_
    refine j_aload_n X dX6_own_18 rfl rfl (q := 1) rfl ?_
    refine jg_model X 0 (by decide) lk_RX6_7 rfl rfl dX6_own_19 rfl ?_
    refine j_bipush X dX6_own_22 rfl (v := 13) (by decide) ?_
    refine j_iload_n X dX6_own_24 rfl rfl (q := 0) rfl ?_
    refine j_if_eq_f X dX6_own_25 rfl (tgt := 32) (by decide) (by decide) ?_
    refine j_iconst X dX6_own_28 rfl (v := 2) (by decide) ?_
    refine j_goto X (tgt := 33) dX6_own_29 (by decide) ?_
    refine j_iadd X dX6_own_33 rfl ?_
    refine j_topeq (y := 15) (by decide) ?_
    refine j_dup2 X dX6_own_34 rfl rfl rfl ?_
    refine j_ialdN X (k := 15) (wm_ref (by decide)) ((fun _ => rfl) _) (by decide) (by decide) dX6_own_35 rfl ?_
    refine j_iconst X dX6_own_36 rfl (v := 1) (by decide) ?_
    refine j_iadd X dX6_own_37 rfl ?_
    refine j_iastN X (k := 15) (wm_ref (by decide)) (fun r => (fun _ => rfl) r) (by decide) (by decide) dX6_own_38 rfl ?_
    refine j_name (fun S6 eS6 => ?_)
    refine j_aload_n X dX6_own_39 rfl rfl (q := 1) rfl ?_
    refine j_iload_n X dX6_own_40 rfl rfl (q := 2) rfl ?_
    refine j_iload_n X dX6_own_41 rfl rfl (q := 3) rfl ?_
    refine j_callv X (c_X6_collect l Z S6 h a (by omega) j (by omega) (by subst eS6; simp [setM_ne, setO_M, rCC, rQ, rRes_k, rWB_k, rCol_k, rOwn_k, rOwnL_k, rHold_k, rAbort_k, rPut_k, rBump, lo0, lo2, lo21, hj] <;> exact hcc)) (wm_ref (by decide)) ((fun _ => rfl) _) rfl lk_RX6_131 mi_X6_collect ms_X6_collect ini_RX6 mc_X6_collect md_X6_collect ⟨Nat.le_of_ble_eq_true rfl, Nat.le_of_ble_eq_true rfl⟩ ⟨Nat.le_of_ble_eq_true rfl, Nat.le_of_ble_eq_true rfl⟩ rfl (Nat.le_of_ble_eq_true rfl) (as := [.int (nI (a)), .int (nI (j))]) (rest := []) rfl dX6_own_42 rfl ?_
    refine j_name (fun S7 eS7 => ?_)
    refine j_iconst X dX6_own_45 rfl (v := 0) (by decide) ?_
    refine j_istore X dX6_own_46 rfl (by decide) (Ls2 := [(4, .int (0)), (3, .int (1)), (0, .ref (zA Z (7) (0) (0))), (1, .int (nI (a))), (2, .int (nI (j)))]) rfl ?_
    refine j_sub [0, 2, 3, 4, 1] (Ls2 := [(4, .int (0)), (0, .ref (zA Z (7) (0) (0))), (1, .int (nI (a))), (2, .int (nI (j))), (3, .int (1))]) rfl ?_
    refine L_own l Z h a ha j hj 1 (rCC S7) (by subst eS6; subst eS7; simp [setM_ne, setO_M, rCC, rQ, rRes_k, rWB_k, rCol_k, rOwn_k, rOwnL_k, rHold_k, rAbort_k, rPut_k, rBump, lo0, lo2, lo21, hj] <;> exact hcc.2) X (rCC S7) 0 S7 (by omega) (by subst eS6; subst eS7; simp [setM_ne, setO_M, rCC, rQ, rRes_k, rWB_k, rCol_k, rOwn_k, rOwnL_k, rHold_k, rAbort_k, rPut_k, rBump, lo0, lo2, lo21, hj] <;> exact hcc.1) ?_
    refine j_name (fun S8 eS8 => ?_)
    refine j_iload_n X dX6_own_117 rfl rfl (q := 3) rfl ?_
    refine j_if_ne_t X (tgt := 138) dX6_own_118 (by decide) (by decide) ?_
    refine j_aload_n X dX6_own_138 rfl rfl (q := 0) rfl ?_
    refine j_iload_n X dX6_own_139 rfl rfl (q := 1) rfl ?_
    refine j_bipush X dX6_own_140 rfl (v := 20) (by decide) ?_
    refine j_iload_n X dX6_own_142 rfl rfl (q := 2) rfl ?_
    refine j_iadd X dX6_own_143 rfl ?_
    refine j_topeq (y := nI (20 + j)) (nI_add 20 j) ?_
    refine j_iconst X dX6_own_144 rfl (v := 2) (by decide) ?_
    refine j_callv X (c_X6_put l Z S8 h a (20 + j) (2) (by omega)) (wm_ref (by decide)) ((fun _ => rfl) _) rfl lk_RX6_60 mi_X6_put ms_X6_put ini_RX6 mc_X6_put md_X6_put ⟨Nat.le_of_ble_eq_true rfl, Nat.le_of_ble_eq_true rfl⟩ ⟨Nat.le_of_ble_eq_true rfl, Nat.le_of_ble_eq_true rfl⟩ rfl (Nat.le_of_ble_eq_true rfl) (as := [.int (nI (a)), .int (nI (20 + j)), .int (2)]) (rest := []) rfl dX6_own_145 rfl ?_
    refine j_name (fun S9 eS9 => ?_)
    exact j_at (by subst eS6; subst eS7; subst eS8; subst eS9; first | with_reducible rfl | (simp [rOwn, rBump, c_9]; done) | (simp_all [rOwn, rBump]; done) | rfl) rfl rfl rfl (K _ _ dX6_own_148)
set_option maxRecDepth 100000 in
set_option maxHeartbeats 4000000 in
theorem c_X6_stores (l : Launch) (Z : wZ) (S : St) (h : Hl) (a : Nat) (ha : a < 4) (j : Nat) (hj : j < 8) (hcc : okI (S 7 0 1 0) 4) (hq : okI (S 7 0 1 21) 400) : Ci l yX6_stores cX6_stores 4 .boolean 5 112 Z [.ref (zA Z (7) (0) (0)), .int (nI (a)), .int (nI (j))] S h (bI (rStore S a j).1) ((rStore S a j).2) (h) := by
  have hc4 : rCC S ≤ 4 := hcc.2
  refine Ci.of rfl (bI_nar _) (Nat.le_of_ble_eq_true rfl) (fun p e s mi args below meth c A0 Q X K => ?_)
  refine j_at rfl rfl (Ls3 := [(0, .ref (zA Z (7) (0) (0))), (1, .int (nI (a))), (2, .int (nI (j)))]) rfl rfl ?_
  refine j_aload_n X dX6_stores_0 rfl rfl (q := 0) rfl ?_
  refine j_iload_n X dX6_stores_1 rfl rfl (q := 1) rfl ?_
  refine j_iload_n X dX6_stores_2 rfl rfl (q := 2) rfl ?_
  refine j_iconst X dX6_stores_3 rfl (v := 1) (by decide) ?_
  refine j_calli X (c_X6_resolves l Z S h a (by omega) j (by omega) true hcc) (wm_ref (by decide)) ((fun _ => rfl) _) rfl lk_RX6_128 mi_X6_resolves ms_X6_resolves ini_RX6 mc_X6_resolves md_X6_resolves ⟨Nat.le_of_ble_eq_true rfl, Nat.le_of_ble_eq_true rfl⟩ ⟨Nat.le_of_ble_eq_true rfl, Nat.le_of_ble_eq_true rfl⟩ rfl (Nat.le_of_ble_eq_true rfl) (as := [.int (nI (a)), .int (nI (j)), .int (1)]) (rest := []) rfl dX6_stores_4 rfl ?_
  refine j_name (fun S1 eS1 => ?_)
  refine j_ifb_ne X dX6_stores_7 rfl (tgt := 12) (by decide) (fun c_7 => ?_) (fun c_7 => ?_)
  · refine j_aload_n X dX6_stores_12 rfl rfl (q := 0) rfl ?_
    refine j_iload_n X dX6_stores_13 rfl rfl (q := 1) rfl ?_
    refine j_iconst X dX6_stores_14 rfl (v := 3) (by decide) ?_
    refine j_calli X (c_X6_of l Z S1 h a 3 (by omega)) (wm_ref (by decide)) ((fun _ => rfl) _) rfl lk_RX6_97 mi_X6_of ms_X6_of ini_RX6 mc_X6_of md_X6_of ⟨Nat.le_of_ble_eq_true rfl, Nat.le_of_ble_eq_true rfl⟩ ⟨Nat.le_of_ble_eq_true rfl, Nat.le_of_ble_eq_true rfl⟩ rfl (Nat.le_of_ble_eq_true rfl) (as := [.int (nI (a)), .int (3)]) (rest := []) rfl dX6_stores_15 rfl ?_
    refine j_iconst X dX6_stores_18 rfl (v := 1) (by decide) ?_
    refine j_icmp_ne X dX6_stores_19 rfl (tgt := 40) (by decide) (fun c_19 => ?_) (fun c_19 => ?_)
    · refine j_iconst X dX6_stores_40 rfl (v := 0) (by decide) ?_
      refine j_istore_n X dX6_stores_41 rfl rfl (by decide) (Ls2 := [(3, .int (0)), (0, .ref (zA Z (7) (0) (0))), (1, .int (nI (a))), (2, .int (nI (j)))]) rfl ?_
      refine j_iload_n X dX6_stores_42 rfl rfl (q := 0) rfl ?_
      refine j_if_eq_t X (tgt := 74) dX6_stores_43 (by decide) (by decide) ?_
      refine j_aload_n X dX6_stores_74 rfl rfl (q := 1) rfl ?_
      refine j_iload_n X dX6_stores_75 rfl rfl (q := 2) rfl ?_
      refine j_bipush X dX6_stores_76 rfl (v := 20) (by decide) ?_
      refine j_iload_n X dX6_stores_78 rfl rfl (q := 3) rfl ?_
      refine j_iadd X dX6_stores_79 rfl ?_
      refine j_topeq (y := nI (20 + j)) (nI_add 20 j) ?_
      refine j_calli X (c_X6_of l Z S1 h a (20 + j) (by omega)) (wm_ref (by decide)) ((fun _ => rfl) _) rfl lk_RX6_97 mi_X6_of ms_X6_of ini_RX6 mc_X6_of md_X6_of ⟨Nat.le_of_ble_eq_true rfl, Nat.le_of_ble_eq_true rfl⟩ ⟨Nat.le_of_ble_eq_true rfl, Nat.le_of_ble_eq_true rfl⟩ rfl (Nat.le_of_ble_eq_true rfl) (as := [.int (nI (a)), .int (nI (20 + j))]) (rest := []) rfl dX6_stores_80 rfl ?_
      refine j_iconst X dX6_stores_83 rfl (v := 2) (by decide) ?_
      refine j_icmp_eq X dX6_stores_84 rfl (tgt := 96) (by decide) (fun c_84 => ?_) (fun c_84 => ?_)
      · refine j_iload_n X dX6_stores_96 rfl rfl (q := 0) rfl ?_
        refine j_if_eq_t X (tgt := 106) dX6_stores_97 (by decide) (by decide) ?_
        refine j_aload_n X dX6_stores_106 rfl rfl (q := 1) rfl ?_
        refine j_iload_n X dX6_stores_107 rfl rfl (q := 2) rfl ?_
        refine j_bipush X dX6_stores_108 rfl (v := 28) (by decide) ?_
        refine j_iload_n X dX6_stores_110 rfl rfl (q := 3) rfl ?_
        refine j_iadd X dX6_stores_111 rfl ?_
        refine j_topeq (y := nI (28 + j)) (nI_add 28 j) ?_
        refine j_aload_n X dX6_stores_112 rfl rfl (q := 1) rfl ?_
        refine j_iload_n X dX6_stores_113 rfl rfl (q := 2) rfl ?_
        refine j_iconst X dX6_stores_114 rfl (v := 0) (by decide) ?_
        refine j_calli X (c_X6_of l Z S1 h a 0 (by omega)) (wm_ref (by decide)) ((fun _ => rfl) _) rfl lk_RX6_97 mi_X6_of ms_X6_of ini_RX6 mc_X6_of md_X6_of ⟨Nat.le_of_ble_eq_true rfl, Nat.le_of_ble_eq_true rfl⟩ ⟨Nat.le_of_ble_eq_true rfl, Nat.le_of_ble_eq_true rfl⟩ rfl (Nat.le_of_ble_eq_true rfl) (as := [.int (nI (a)), .int (0)]) (rest := [.int (nI (28 + j)), .int (nI (a)), .ref (zA Z (7) (0) (0))]) rfl dX6_stores_115 rfl ?_
        refine j_callv X (c_X6_put l Z S1 h a (28 + j) (rOf S1 a 0) (by omega)) (wm_ref (by decide)) ((fun _ => rfl) _) rfl lk_RX6_60 mi_X6_put ms_X6_put ini_RX6 mc_X6_put md_X6_put ⟨Nat.le_of_ble_eq_true rfl, Nat.le_of_ble_eq_true rfl⟩ ⟨Nat.le_of_ble_eq_true rfl, Nat.le_of_ble_eq_true rfl⟩ rfl (Nat.le_of_ble_eq_true rfl) (as := [.int (nI (a)), .int (nI (28 + j)), .int (rOf S1 a 0)]) (rest := []) rfl dX6_stores_118 rfl ?_
        refine j_name (fun S2 eS2 => ?_)
        refine j_iload_n X dX6_stores_121 rfl rfl (q := 0) rfl ?_
        refine j_if_eq_t X (tgt := 143) dX6_stores_122 (by decide) (by decide) ?_
        refine j_aload_n X dX6_stores_143 rfl rfl (q := 1) rfl ?_
        refine j_iload_n X dX6_stores_144 rfl rfl (q := 2) rfl ?_
        refine j_iconst X dX6_stores_145 rfl (v := 3) (by decide) ?_
        refine j_calli X (c_X6_of l Z S2 h a 3 (by omega)) (wm_ref (by decide)) ((fun _ => rfl) _) rfl lk_RX6_97 mi_X6_of ms_X6_of ini_RX6 mc_X6_of md_X6_of ⟨Nat.le_of_ble_eq_true rfl, Nat.le_of_ble_eq_true rfl⟩ ⟨Nat.le_of_ble_eq_true rfl, Nat.le_of_ble_eq_true rfl⟩ rfl (Nat.le_of_ble_eq_true rfl) (as := [.int (nI (a)), .int (3)]) (rest := []) rfl dX6_stores_146 rfl ?_
        refine j_if_ne X dX6_stores_149 rfl (tgt := 162) (by decide) (fun c_149 => ?_) (fun c_149 => ?_)
        · refine j_iconst X dX6_stores_162 rfl (v := 1) (by decide) ?_
          exact j_ret (by subst eS1; subst eS2; first | with_reducible rfl | (simp [rStore, rStB, rPutV, rHold, rNew, rBump, bI, c_7, c_19, c_84, c_149]; done) | (simp_all [rStore, rStB, rPutV, rHold, rNew, rBump, bI]; done) | rfl) (by subst eS1; subst eS2; first | with_reducible rfl | (simp [rStore, rStB, rPutV, rHold, rNew, rBump, bI, c_7, c_19, c_84, c_149]; done) | (simp_all [rStore, rStB, rPutV, rHold, rNew, rBump, bI]; done) | rfl) rfl (K _ _ dX6_stores_163)
        · refine j_aload_n X dX6_stores_152 rfl rfl (q := 1) rfl ?_
          refine j_iload_n X dX6_stores_153 rfl rfl (q := 2) rfl ?_
          refine j_iconst X dX6_stores_154 rfl (v := -1) (by decide) ?_
          refine j_iconst X dX6_stores_155 rfl (v := 0) (by decide) ?_
          refine j_iconst X dX6_stores_156 rfl (v := 1) (by decide) ?_
          refine j_iload_n X dX6_stores_157 rfl rfl (q := 3) rfl ?_
          refine j_ishl X dX6_stores_158 rfl ?_
          refine j_callv X (c_X6_log l Z S2 h a (by omega) (-1) (0) ((1) <<< ((nI (j)) &&& 31)) (by subst eS1; subst eS2; simp [setM_ne, setO_M, rCC, rQ, rRes_k, rWB_k, rCol_k, rOwn_k, rOwnL_k, rHold_k, rAbort_k, rPut_k, rBump, lo0, lo2, lo21, hj] <;> exact hq)) (wm_ref (by decide)) ((fun _ => rfl) _) rfl lk_RX6_141 mi_X6_log ms_X6_log ini_RX6 mc_X6_log md_X6_log ⟨Nat.le_of_ble_eq_true rfl, Nat.le_of_ble_eq_true rfl⟩ ⟨Nat.le_of_ble_eq_true rfl, Nat.le_of_ble_eq_true rfl⟩ rfl (Nat.le_of_ble_eq_true rfl) (as := [.int (nI (a)), .int (-1), .int (0), .int ((1) <<< ((nI (j)) &&& 31))]) (rest := []) rfl dX6_stores_159 rfl ?_
          refine j_name (fun S3 eS3 => ?_)
          refine j_iconst X dX6_stores_162 rfl (v := 1) (by decide) ?_
          exact j_ret (by subst eS1; subst eS2; subst eS3; first | with_reducible rfl | (simp [rStore, rStB, rPutV, rHold, rNew, rBump, bI, c_7, c_19, c_84, c_149]; done) | (simp_all [rStore, rStB, rPutV, rHold, rNew, rBump, bI]; done) | rfl) (by subst eS1; subst eS2; subst eS3; first | with_reducible rfl | (simp [rStore, rStB, rPutV, rHold, rNew, rBump, bI, c_7, c_19, c_84, c_149]; done) | (simp_all [rStore, rStB, rPutV, rHold, rNew, rBump, bI]; done) | rfl) rfl (K _ _ dX6_stores_163)
      · refine j_aload_n X dX6_stores_87 rfl rfl (q := 1) rfl ?_
        refine j_iload_n X dX6_stores_88 rfl rfl (q := 2) rfl ?_
        refine j_iload_n X dX6_stores_89 rfl rfl (q := 3) rfl ?_
        refine j_callv X (c_X6_own l Z S1 h a (by omega) j (by omega) (by subst eS1; simp [setM_ne, setO_M, rCC, rQ, rRes_k, rWB_k, rCol_k, rOwn_k, rOwnL_k, rHold_k, rAbort_k, rPut_k, rBump, lo0, lo2, lo21, hj] <;> exact hcc)) (wm_ref (by decide)) ((fun _ => rfl) _) rfl lk_RX6_138 mi_X6_own ms_X6_own ini_RX6 mc_X6_own md_X6_own ⟨Nat.le_of_ble_eq_true rfl, Nat.le_of_ble_eq_true rfl⟩ ⟨Nat.le_of_ble_eq_true rfl, Nat.le_of_ble_eq_true rfl⟩ rfl (Nat.le_of_ble_eq_true rfl) (as := [.int (nI (a)), .int (nI (j))]) (rest := []) rfl dX6_stores_90 rfl ?_
        refine j_name (fun S4 eS4 => ?_)
        refine j_goto X (tgt := 106) dX6_stores_93 (by decide) ?_
        refine j_aload_n X dX6_stores_106 rfl rfl (q := 1) rfl ?_
        refine j_iload_n X dX6_stores_107 rfl rfl (q := 2) rfl ?_
        refine j_bipush X dX6_stores_108 rfl (v := 28) (by decide) ?_
        refine j_iload_n X dX6_stores_110 rfl rfl (q := 3) rfl ?_
        refine j_iadd X dX6_stores_111 rfl ?_
        refine j_topeq (y := nI (28 + j)) (nI_add 28 j) ?_
        refine j_aload_n X dX6_stores_112 rfl rfl (q := 1) rfl ?_
        refine j_iload_n X dX6_stores_113 rfl rfl (q := 2) rfl ?_
        refine j_iconst X dX6_stores_114 rfl (v := 0) (by decide) ?_
        refine j_calli X (c_X6_of l Z S4 h a 0 (by omega)) (wm_ref (by decide)) ((fun _ => rfl) _) rfl lk_RX6_97 mi_X6_of ms_X6_of ini_RX6 mc_X6_of md_X6_of ⟨Nat.le_of_ble_eq_true rfl, Nat.le_of_ble_eq_true rfl⟩ ⟨Nat.le_of_ble_eq_true rfl, Nat.le_of_ble_eq_true rfl⟩ rfl (Nat.le_of_ble_eq_true rfl) (as := [.int (nI (a)), .int (0)]) (rest := [.int (nI (28 + j)), .int (nI (a)), .ref (zA Z (7) (0) (0))]) rfl dX6_stores_115 rfl ?_
        refine j_callv X (c_X6_put l Z S4 h a (28 + j) (rOf S4 a 0) (by omega)) (wm_ref (by decide)) ((fun _ => rfl) _) rfl lk_RX6_60 mi_X6_put ms_X6_put ini_RX6 mc_X6_put md_X6_put ⟨Nat.le_of_ble_eq_true rfl, Nat.le_of_ble_eq_true rfl⟩ ⟨Nat.le_of_ble_eq_true rfl, Nat.le_of_ble_eq_true rfl⟩ rfl (Nat.le_of_ble_eq_true rfl) (as := [.int (nI (a)), .int (nI (28 + j)), .int (rOf S4 a 0)]) (rest := []) rfl dX6_stores_118 rfl ?_
        refine j_name (fun S5 eS5 => ?_)
        refine j_iload_n X dX6_stores_121 rfl rfl (q := 0) rfl ?_
        refine j_if_eq_t X (tgt := 143) dX6_stores_122 (by decide) (by decide) ?_
        refine j_aload_n X dX6_stores_143 rfl rfl (q := 1) rfl ?_
        refine j_iload_n X dX6_stores_144 rfl rfl (q := 2) rfl ?_
        refine j_iconst X dX6_stores_145 rfl (v := 3) (by decide) ?_
        refine j_calli X (c_X6_of l Z S5 h a 3 (by omega)) (wm_ref (by decide)) ((fun _ => rfl) _) rfl lk_RX6_97 mi_X6_of ms_X6_of ini_RX6 mc_X6_of md_X6_of ⟨Nat.le_of_ble_eq_true rfl, Nat.le_of_ble_eq_true rfl⟩ ⟨Nat.le_of_ble_eq_true rfl, Nat.le_of_ble_eq_true rfl⟩ rfl (Nat.le_of_ble_eq_true rfl) (as := [.int (nI (a)), .int (3)]) (rest := []) rfl dX6_stores_146 rfl ?_
        refine j_if_ne X dX6_stores_149 rfl (tgt := 162) (by decide) (fun c_149_6 => ?_) (fun c_149_6 => ?_)
        · refine j_iconst X dX6_stores_162 rfl (v := 1) (by decide) ?_
          exact j_ret (by subst eS1; subst eS4; subst eS5; first | with_reducible rfl | (simp [rStore, rStB, rPutV, rHold, rNew, rBump, bI, c_7, c_19, c_84, c_149_6]; done) | (simp_all [rStore, rStB, rPutV, rHold, rNew, rBump, bI]; done) | rfl) (by subst eS1; subst eS4; subst eS5; first | with_reducible rfl | (simp [rStore, rStB, rPutV, rHold, rNew, rBump, bI, c_7, c_19, c_84, c_149_6]; done) | (simp_all [rStore, rStB, rPutV, rHold, rNew, rBump, bI]; done) | rfl) rfl (K _ _ dX6_stores_163)
        · refine j_aload_n X dX6_stores_152 rfl rfl (q := 1) rfl ?_
          refine j_iload_n X dX6_stores_153 rfl rfl (q := 2) rfl ?_
          refine j_iconst X dX6_stores_154 rfl (v := -1) (by decide) ?_
          refine j_iconst X dX6_stores_155 rfl (v := 0) (by decide) ?_
          refine j_iconst X dX6_stores_156 rfl (v := 1) (by decide) ?_
          refine j_iload_n X dX6_stores_157 rfl rfl (q := 3) rfl ?_
          refine j_ishl X dX6_stores_158 rfl ?_
          refine j_callv X (c_X6_log l Z S5 h a (by omega) (-1) (0) ((1) <<< ((nI (j)) &&& 31)) (by subst eS1; subst eS4; subst eS5; simp [setM_ne, setO_M, rCC, rQ, rRes_k, rWB_k, rCol_k, rOwn_k, rOwnL_k, rHold_k, rAbort_k, rPut_k, rBump, lo0, lo2, lo21, hj] <;> exact hq)) (wm_ref (by decide)) ((fun _ => rfl) _) rfl lk_RX6_141 mi_X6_log ms_X6_log ini_RX6 mc_X6_log md_X6_log ⟨Nat.le_of_ble_eq_true rfl, Nat.le_of_ble_eq_true rfl⟩ ⟨Nat.le_of_ble_eq_true rfl, Nat.le_of_ble_eq_true rfl⟩ rfl (Nat.le_of_ble_eq_true rfl) (as := [.int (nI (a)), .int (-1), .int (0), .int ((1) <<< ((nI (j)) &&& 31))]) (rest := []) rfl dX6_stores_159 rfl ?_
          refine j_name (fun S7 eS7 => ?_)
          refine j_iconst X dX6_stores_162 rfl (v := 1) (by decide) ?_
          exact j_ret (by subst eS1; subst eS4; subst eS5; subst eS7; first | with_reducible rfl | (simp [rStore, rStB, rPutV, rHold, rNew, rBump, bI, c_7, c_19, c_84, c_149_6]; done) | (simp_all [rStore, rStB, rPutV, rHold, rNew, rBump, bI]; done) | rfl) (by subst eS1; subst eS4; subst eS5; subst eS7; first | with_reducible rfl | (simp [rStore, rStB, rPutV, rHold, rNew, rBump, bI, c_7, c_19, c_84, c_149_6]; done) | (simp_all [rStore, rStB, rPutV, rHold, rNew, rBump, bI]; done) | rfl) rfl (K _ _ dX6_stores_163)
    · refine j_aload_n X dX6_stores_22 rfl rfl (q := 0) rfl ?_
      refine j_iload_n X dX6_stores_23 rfl rfl (q := 1) rfl ?_
      refine j_bipush X dX6_stores_24 rfl (v := 8) (by decide) ?_
      refine j_calli X (c_X6_of l Z S1 h a 8 (by omega)) (wm_ref (by decide)) ((fun _ => rfl) _) rfl lk_RX6_97 mi_X6_of ms_X6_of ini_RX6 mc_X6_of md_X6_of ⟨Nat.le_of_ble_eq_true rfl, Nat.le_of_ble_eq_true rfl⟩ ⟨Nat.le_of_ble_eq_true rfl, Nat.le_of_ble_eq_true rfl⟩ rfl (Nat.le_of_ble_eq_true rfl) (as := [.int (nI (a)), .int (8)]) (rest := []) rfl dX6_stores_26 rfl ?_
      refine j_iload_n X dX6_stores_29 rfl rfl (q := 2) rfl ?_
      refine j_callSi X (c_X6_hasLine l Z S1 h (rOf S1 a 8) (nI (j))) lk_RX6_110 mt_X6_hasLine ini_RX6 mc_X6_hasLine md_X6_hasLine ⟨Nat.le_of_ble_eq_true rfl, Nat.le_of_ble_eq_true rfl⟩ ⟨Nat.le_of_ble_eq_true rfl, Nat.le_of_ble_eq_true rfl⟩ rfl (Nat.le_of_ble_eq_true rfl) (as := [.int (rOf S1 a 8), .int (nI (j))]) (rest := []) rfl dX6_stores_30 rfl ?_
      refine j_ifb_ne X dX6_stores_33 rfl (tgt := 40) (by decide) (fun c_33 => ?_) (fun c_33 => ?_)
      · refine j_iconst X dX6_stores_40 rfl (v := 0) (by decide) ?_
        refine j_istore_n X dX6_stores_41 rfl rfl (by decide) (Ls2 := [(3, .int (0)), (0, .ref (zA Z (7) (0) (0))), (1, .int (nI (a))), (2, .int (nI (j)))]) rfl ?_
        refine j_iload_n X dX6_stores_42 rfl rfl (q := 0) rfl ?_
        refine j_if_eq_t X (tgt := 74) dX6_stores_43 (by decide) (by decide) ?_
        refine j_aload_n X dX6_stores_74 rfl rfl (q := 1) rfl ?_
        refine j_iload_n X dX6_stores_75 rfl rfl (q := 2) rfl ?_
        refine j_bipush X dX6_stores_76 rfl (v := 20) (by decide) ?_
        refine j_iload_n X dX6_stores_78 rfl rfl (q := 3) rfl ?_
        refine j_iadd X dX6_stores_79 rfl ?_
        refine j_topeq (y := nI (20 + j)) (nI_add 20 j) ?_
        refine j_calli X (c_X6_of l Z S1 h a (20 + j) (by omega)) (wm_ref (by decide)) ((fun _ => rfl) _) rfl lk_RX6_97 mi_X6_of ms_X6_of ini_RX6 mc_X6_of md_X6_of ⟨Nat.le_of_ble_eq_true rfl, Nat.le_of_ble_eq_true rfl⟩ ⟨Nat.le_of_ble_eq_true rfl, Nat.le_of_ble_eq_true rfl⟩ rfl (Nat.le_of_ble_eq_true rfl) (as := [.int (nI (a)), .int (nI (20 + j))]) (rest := []) rfl dX6_stores_80 rfl ?_
        refine j_iconst X dX6_stores_83 rfl (v := 2) (by decide) ?_
        refine j_icmp_eq X dX6_stores_84 rfl (tgt := 96) (by decide) (fun c_84_8 => ?_) (fun c_84_8 => ?_)
        · refine j_iload_n X dX6_stores_96 rfl rfl (q := 0) rfl ?_
          refine j_if_eq_t X (tgt := 106) dX6_stores_97 (by decide) (by decide) ?_
          refine j_aload_n X dX6_stores_106 rfl rfl (q := 1) rfl ?_
          refine j_iload_n X dX6_stores_107 rfl rfl (q := 2) rfl ?_
          refine j_bipush X dX6_stores_108 rfl (v := 28) (by decide) ?_
          refine j_iload_n X dX6_stores_110 rfl rfl (q := 3) rfl ?_
          refine j_iadd X dX6_stores_111 rfl ?_
          refine j_topeq (y := nI (28 + j)) (nI_add 28 j) ?_
          refine j_aload_n X dX6_stores_112 rfl rfl (q := 1) rfl ?_
          refine j_iload_n X dX6_stores_113 rfl rfl (q := 2) rfl ?_
          refine j_iconst X dX6_stores_114 rfl (v := 0) (by decide) ?_
          refine j_calli X (c_X6_of l Z S1 h a 0 (by omega)) (wm_ref (by decide)) ((fun _ => rfl) _) rfl lk_RX6_97 mi_X6_of ms_X6_of ini_RX6 mc_X6_of md_X6_of ⟨Nat.le_of_ble_eq_true rfl, Nat.le_of_ble_eq_true rfl⟩ ⟨Nat.le_of_ble_eq_true rfl, Nat.le_of_ble_eq_true rfl⟩ rfl (Nat.le_of_ble_eq_true rfl) (as := [.int (nI (a)), .int (0)]) (rest := [.int (nI (28 + j)), .int (nI (a)), .ref (zA Z (7) (0) (0))]) rfl dX6_stores_115 rfl ?_
          refine j_callv X (c_X6_put l Z S1 h a (28 + j) (rOf S1 a 0) (by omega)) (wm_ref (by decide)) ((fun _ => rfl) _) rfl lk_RX6_60 mi_X6_put ms_X6_put ini_RX6 mc_X6_put md_X6_put ⟨Nat.le_of_ble_eq_true rfl, Nat.le_of_ble_eq_true rfl⟩ ⟨Nat.le_of_ble_eq_true rfl, Nat.le_of_ble_eq_true rfl⟩ rfl (Nat.le_of_ble_eq_true rfl) (as := [.int (nI (a)), .int (nI (28 + j)), .int (rOf S1 a 0)]) (rest := []) rfl dX6_stores_118 rfl ?_
          refine j_name (fun S9 eS9 => ?_)
          refine j_iload_n X dX6_stores_121 rfl rfl (q := 0) rfl ?_
          refine j_if_eq_t X (tgt := 143) dX6_stores_122 (by decide) (by decide) ?_
          refine j_aload_n X dX6_stores_143 rfl rfl (q := 1) rfl ?_
          refine j_iload_n X dX6_stores_144 rfl rfl (q := 2) rfl ?_
          refine j_iconst X dX6_stores_145 rfl (v := 3) (by decide) ?_
          refine j_calli X (c_X6_of l Z S9 h a 3 (by omega)) (wm_ref (by decide)) ((fun _ => rfl) _) rfl lk_RX6_97 mi_X6_of ms_X6_of ini_RX6 mc_X6_of md_X6_of ⟨Nat.le_of_ble_eq_true rfl, Nat.le_of_ble_eq_true rfl⟩ ⟨Nat.le_of_ble_eq_true rfl, Nat.le_of_ble_eq_true rfl⟩ rfl (Nat.le_of_ble_eq_true rfl) (as := [.int (nI (a)), .int (3)]) (rest := []) rfl dX6_stores_146 rfl ?_
          refine j_if_ne X dX6_stores_149 rfl (tgt := 162) (by decide) (fun c_149_10 => ?_) (fun c_149_10 => ?_)
          · refine j_iconst X dX6_stores_162 rfl (v := 1) (by decide) ?_
            exact j_ret (by subst eS1; subst eS9; first | with_reducible rfl | (simp [rStore, rStB, rPutV, rHold, rNew, rBump, bI, c_7, c_19, c_33, c_84_8, c_149_10]; done) | (simp_all [rStore, rStB, rPutV, rHold, rNew, rBump, bI]; done) | rfl) (by subst eS1; subst eS9; first | with_reducible rfl | (simp [rStore, rStB, rPutV, rHold, rNew, rBump, bI, c_7, c_19, c_33, c_84_8, c_149_10]; done) | (simp_all [rStore, rStB, rPutV, rHold, rNew, rBump, bI]; done) | rfl) rfl (K _ _ dX6_stores_163)
          · refine j_aload_n X dX6_stores_152 rfl rfl (q := 1) rfl ?_
            refine j_iload_n X dX6_stores_153 rfl rfl (q := 2) rfl ?_
            refine j_iconst X dX6_stores_154 rfl (v := -1) (by decide) ?_
            refine j_iconst X dX6_stores_155 rfl (v := 0) (by decide) ?_
            refine j_iconst X dX6_stores_156 rfl (v := 1) (by decide) ?_
            refine j_iload_n X dX6_stores_157 rfl rfl (q := 3) rfl ?_
            refine j_ishl X dX6_stores_158 rfl ?_
            refine j_callv X (c_X6_log l Z S9 h a (by omega) (-1) (0) ((1) <<< ((nI (j)) &&& 31)) (by subst eS1; subst eS9; simp [setM_ne, setO_M, rCC, rQ, rRes_k, rWB_k, rCol_k, rOwn_k, rOwnL_k, rHold_k, rAbort_k, rPut_k, rBump, lo0, lo2, lo21, hj] <;> exact hq)) (wm_ref (by decide)) ((fun _ => rfl) _) rfl lk_RX6_141 mi_X6_log ms_X6_log ini_RX6 mc_X6_log md_X6_log ⟨Nat.le_of_ble_eq_true rfl, Nat.le_of_ble_eq_true rfl⟩ ⟨Nat.le_of_ble_eq_true rfl, Nat.le_of_ble_eq_true rfl⟩ rfl (Nat.le_of_ble_eq_true rfl) (as := [.int (nI (a)), .int (-1), .int (0), .int ((1) <<< ((nI (j)) &&& 31))]) (rest := []) rfl dX6_stores_159 rfl ?_
            refine j_name (fun S11 eS11 => ?_)
            refine j_iconst X dX6_stores_162 rfl (v := 1) (by decide) ?_
            exact j_ret (by subst eS1; subst eS9; subst eS11; first | with_reducible rfl | (simp [rStore, rStB, rPutV, rHold, rNew, rBump, bI, c_7, c_19, c_33, c_84_8, c_149_10]; done) | (simp_all [rStore, rStB, rPutV, rHold, rNew, rBump, bI]; done) | rfl) (by subst eS1; subst eS9; subst eS11; first | with_reducible rfl | (simp [rStore, rStB, rPutV, rHold, rNew, rBump, bI, c_7, c_19, c_33, c_84_8, c_149_10]; done) | (simp_all [rStore, rStB, rPutV, rHold, rNew, rBump, bI]; done) | rfl) rfl (K _ _ dX6_stores_163)
        · refine j_aload_n X dX6_stores_87 rfl rfl (q := 1) rfl ?_
          refine j_iload_n X dX6_stores_88 rfl rfl (q := 2) rfl ?_
          refine j_iload_n X dX6_stores_89 rfl rfl (q := 3) rfl ?_
          refine j_callv X (c_X6_own l Z S1 h a (by omega) j (by omega) (by subst eS1; simp [setM_ne, setO_M, rCC, rQ, rRes_k, rWB_k, rCol_k, rOwn_k, rOwnL_k, rHold_k, rAbort_k, rPut_k, rBump, lo0, lo2, lo21, hj] <;> exact hcc)) (wm_ref (by decide)) ((fun _ => rfl) _) rfl lk_RX6_138 mi_X6_own ms_X6_own ini_RX6 mc_X6_own md_X6_own ⟨Nat.le_of_ble_eq_true rfl, Nat.le_of_ble_eq_true rfl⟩ ⟨Nat.le_of_ble_eq_true rfl, Nat.le_of_ble_eq_true rfl⟩ rfl (Nat.le_of_ble_eq_true rfl) (as := [.int (nI (a)), .int (nI (j))]) (rest := []) rfl dX6_stores_90 rfl ?_
          refine j_name (fun S12 eS12 => ?_)
          refine j_goto X (tgt := 106) dX6_stores_93 (by decide) ?_
          refine j_aload_n X dX6_stores_106 rfl rfl (q := 1) rfl ?_
          refine j_iload_n X dX6_stores_107 rfl rfl (q := 2) rfl ?_
          refine j_bipush X dX6_stores_108 rfl (v := 28) (by decide) ?_
          refine j_iload_n X dX6_stores_110 rfl rfl (q := 3) rfl ?_
          refine j_iadd X dX6_stores_111 rfl ?_
          refine j_topeq (y := nI (28 + j)) (nI_add 28 j) ?_
          refine j_aload_n X dX6_stores_112 rfl rfl (q := 1) rfl ?_
          refine j_iload_n X dX6_stores_113 rfl rfl (q := 2) rfl ?_
          refine j_iconst X dX6_stores_114 rfl (v := 0) (by decide) ?_
          refine j_calli X (c_X6_of l Z S12 h a 0 (by omega)) (wm_ref (by decide)) ((fun _ => rfl) _) rfl lk_RX6_97 mi_X6_of ms_X6_of ini_RX6 mc_X6_of md_X6_of ⟨Nat.le_of_ble_eq_true rfl, Nat.le_of_ble_eq_true rfl⟩ ⟨Nat.le_of_ble_eq_true rfl, Nat.le_of_ble_eq_true rfl⟩ rfl (Nat.le_of_ble_eq_true rfl) (as := [.int (nI (a)), .int (0)]) (rest := [.int (nI (28 + j)), .int (nI (a)), .ref (zA Z (7) (0) (0))]) rfl dX6_stores_115 rfl ?_
          refine j_callv X (c_X6_put l Z S12 h a (28 + j) (rOf S12 a 0) (by omega)) (wm_ref (by decide)) ((fun _ => rfl) _) rfl lk_RX6_60 mi_X6_put ms_X6_put ini_RX6 mc_X6_put md_X6_put ⟨Nat.le_of_ble_eq_true rfl, Nat.le_of_ble_eq_true rfl⟩ ⟨Nat.le_of_ble_eq_true rfl, Nat.le_of_ble_eq_true rfl⟩ rfl (Nat.le_of_ble_eq_true rfl) (as := [.int (nI (a)), .int (nI (28 + j)), .int (rOf S12 a 0)]) (rest := []) rfl dX6_stores_118 rfl ?_
          refine j_name (fun S13 eS13 => ?_)
          refine j_iload_n X dX6_stores_121 rfl rfl (q := 0) rfl ?_
          refine j_if_eq_t X (tgt := 143) dX6_stores_122 (by decide) (by decide) ?_
          refine j_aload_n X dX6_stores_143 rfl rfl (q := 1) rfl ?_
          refine j_iload_n X dX6_stores_144 rfl rfl (q := 2) rfl ?_
          refine j_iconst X dX6_stores_145 rfl (v := 3) (by decide) ?_
          refine j_calli X (c_X6_of l Z S13 h a 3 (by omega)) (wm_ref (by decide)) ((fun _ => rfl) _) rfl lk_RX6_97 mi_X6_of ms_X6_of ini_RX6 mc_X6_of md_X6_of ⟨Nat.le_of_ble_eq_true rfl, Nat.le_of_ble_eq_true rfl⟩ ⟨Nat.le_of_ble_eq_true rfl, Nat.le_of_ble_eq_true rfl⟩ rfl (Nat.le_of_ble_eq_true rfl) (as := [.int (nI (a)), .int (3)]) (rest := []) rfl dX6_stores_146 rfl ?_
          refine j_if_ne X dX6_stores_149 rfl (tgt := 162) (by decide) (fun c_149_14 => ?_) (fun c_149_14 => ?_)
          · refine j_iconst X dX6_stores_162 rfl (v := 1) (by decide) ?_
            exact j_ret (by subst eS1; subst eS12; subst eS13; first | with_reducible rfl | (simp [rStore, rStB, rPutV, rHold, rNew, rBump, bI, c_7, c_19, c_33, c_84_8, c_149_14]; done) | (simp_all [rStore, rStB, rPutV, rHold, rNew, rBump, bI]; done) | rfl) (by subst eS1; subst eS12; subst eS13; first | with_reducible rfl | (simp [rStore, rStB, rPutV, rHold, rNew, rBump, bI, c_7, c_19, c_33, c_84_8, c_149_14]; done) | (simp_all [rStore, rStB, rPutV, rHold, rNew, rBump, bI]; done) | rfl) rfl (K _ _ dX6_stores_163)
          · refine j_aload_n X dX6_stores_152 rfl rfl (q := 1) rfl ?_
            refine j_iload_n X dX6_stores_153 rfl rfl (q := 2) rfl ?_
            refine j_iconst X dX6_stores_154 rfl (v := -1) (by decide) ?_
            refine j_iconst X dX6_stores_155 rfl (v := 0) (by decide) ?_
            refine j_iconst X dX6_stores_156 rfl (v := 1) (by decide) ?_
            refine j_iload_n X dX6_stores_157 rfl rfl (q := 3) rfl ?_
            refine j_ishl X dX6_stores_158 rfl ?_
            refine j_callv X (c_X6_log l Z S13 h a (by omega) (-1) (0) ((1) <<< ((nI (j)) &&& 31)) (by subst eS1; subst eS12; subst eS13; simp [setM_ne, setO_M, rCC, rQ, rRes_k, rWB_k, rCol_k, rOwn_k, rOwnL_k, rHold_k, rAbort_k, rPut_k, rBump, lo0, lo2, lo21, hj] <;> exact hq)) (wm_ref (by decide)) ((fun _ => rfl) _) rfl lk_RX6_141 mi_X6_log ms_X6_log ini_RX6 mc_X6_log md_X6_log ⟨Nat.le_of_ble_eq_true rfl, Nat.le_of_ble_eq_true rfl⟩ ⟨Nat.le_of_ble_eq_true rfl, Nat.le_of_ble_eq_true rfl⟩ rfl (Nat.le_of_ble_eq_true rfl) (as := [.int (nI (a)), .int (-1), .int (0), .int ((1) <<< ((nI (j)) &&& 31))]) (rest := []) rfl dX6_stores_159 rfl ?_
            refine j_name (fun S15 eS15 => ?_)
            refine j_iconst X dX6_stores_162 rfl (v := 1) (by decide) ?_
            exact j_ret (by subst eS1; subst eS12; subst eS13; subst eS15; first | with_reducible rfl | (simp [rStore, rStB, rPutV, rHold, rNew, rBump, bI, c_7, c_19, c_33, c_84_8, c_149_14]; done) | (simp_all [rStore, rStB, rPutV, rHold, rNew, rBump, bI]; done) | rfl) (by subst eS1; subst eS12; subst eS13; subst eS15; first | with_reducible rfl | (simp [rStore, rStB, rPutV, rHold, rNew, rBump, bI, c_7, c_19, c_33, c_84_8, c_149_14]; done) | (simp_all [rStore, rStB, rPutV, rHold, rNew, rBump, bI]; done) | rfl) rfl (K _ _ dX6_stores_163)
      · refine j_iconst X dX6_stores_36 rfl (v := 1) (by decide) ?_
        refine j_goto X (tgt := 41) dX6_stores_37 (by decide) ?_
        refine j_istore_n X dX6_stores_41 rfl rfl (by decide) (Ls2 := [(3, .int (1)), (0, .ref (zA Z (7) (0) (0))), (1, .int (nI (a))), (2, .int (nI (j)))]) rfl ?_
        refine j_iload_n X dX6_stores_42 rfl rfl (q := 0) rfl ?_
        refine j_if_eq_f X dX6_stores_43 rfl (tgt := 74) (by decide) (by decide) ?_
        refine j_aload_n X dX6_stores_46 rfl rfl (q := 1) rfl ?_
        refine j_iload_n X dX6_stores_47 rfl rfl (q := 2) rfl ?_
        refine j_bipush X dX6_stores_48 rfl (v := 8) (by decide) ?_
        refine j_calli X (c_X6_of l Z S1 h a 8 (by omega)) (wm_ref (by decide)) ((fun _ => rfl) _) rfl lk_RX6_97 mi_X6_of ms_X6_of ini_RX6 mc_X6_of md_X6_of ⟨Nat.le_of_ble_eq_true rfl, Nat.le_of_ble_eq_true rfl⟩ ⟨Nat.le_of_ble_eq_true rfl, Nat.le_of_ble_eq_true rfl⟩ rfl (Nat.le_of_ble_eq_true rfl) (as := [.int (nI (a)), .int (8)]) (rest := []) rfl dX6_stores_50 rfl ?_
        refine j_callSi X (c_X6_size l Z S1 h (rOf S1 a 8)) lk_RX6_134 mt_X6_size ini_RX6 mc_X6_size md_X6_size ⟨Nat.le_of_ble_eq_true rfl, Nat.le_of_ble_eq_true rfl⟩ ⟨Nat.le_of_ble_eq_true rfl, Nat.le_of_ble_eq_true rfl⟩ rfl (Nat.le_of_ble_eq_true rfl) (as := [.int (rOf S1 a 8)]) (rest := []) rfl dX6_stores_53 rfl ?_
        refine j_aload_n X dX6_stores_56 rfl rfl (q := 1) rfl ?_
        refine jg_model X 0 (by decide) lk_RX6_7 rfl rfl dX6_stores_57 rfl ?_
        refine j_iconst X dX6_stores_60 rfl (v := 2) (by decide) ?_
        refine j_ialdN X (k := 2) (wm_ref (by decide)) ((fun _ => rfl) _) (by decide) (by decide) dX6_stores_61 rfl ?_
        refine j_icmp_ne X dX6_stores_62 rfl (tgt := 74) (by decide) (fun c_62 => ?_) (fun c_62 => ?_)
        · refine j_aload_n X dX6_stores_74 rfl rfl (q := 1) rfl ?_
          refine j_iload_n X dX6_stores_75 rfl rfl (q := 2) rfl ?_
          refine j_bipush X dX6_stores_76 rfl (v := 20) (by decide) ?_
          refine j_iload_n X dX6_stores_78 rfl rfl (q := 3) rfl ?_
          refine j_iadd X dX6_stores_79 rfl ?_
          refine j_topeq (y := nI (20 + j)) (nI_add 20 j) ?_
          refine j_calli X (c_X6_of l Z S1 h a (20 + j) (by omega)) (wm_ref (by decide)) ((fun _ => rfl) _) rfl lk_RX6_97 mi_X6_of ms_X6_of ini_RX6 mc_X6_of md_X6_of ⟨Nat.le_of_ble_eq_true rfl, Nat.le_of_ble_eq_true rfl⟩ ⟨Nat.le_of_ble_eq_true rfl, Nat.le_of_ble_eq_true rfl⟩ rfl (Nat.le_of_ble_eq_true rfl) (as := [.int (nI (a)), .int (nI (20 + j))]) (rest := []) rfl dX6_stores_80 rfl ?_
          refine j_iconst X dX6_stores_83 rfl (v := 2) (by decide) ?_
          refine j_icmp_eq X dX6_stores_84 rfl (tgt := 96) (by decide) (fun c_84_16 => ?_) (fun c_84_16 => ?_)
          · refine j_iload_n X dX6_stores_96 rfl rfl (q := 0) rfl ?_
            refine j_if_eq_f X dX6_stores_97 rfl (tgt := 106) (by decide) (by decide) ?_
            refine j_aload_n X dX6_stores_100 rfl rfl (q := 1) rfl ?_
            refine j_iload_n X dX6_stores_101 rfl rfl (q := 2) rfl ?_
            refine j_iload_n X dX6_stores_102 rfl rfl (q := 3) rfl ?_
            refine j_callv X (c_X6_writeBack l Z S1 h a (by omega) j (by omega)) (wm_ref (by decide)) ((fun _ => rfl) _) rfl lk_RX6_125 mi_X6_writeBack ms_X6_writeBack ini_RX6 mc_X6_writeBack md_X6_writeBack ⟨Nat.le_of_ble_eq_true rfl, Nat.le_of_ble_eq_true rfl⟩ ⟨Nat.le_of_ble_eq_true rfl, Nat.le_of_ble_eq_true rfl⟩ rfl (Nat.le_of_ble_eq_true rfl) (as := [.int (nI (a)), .int (nI (j))]) (rest := []) rfl dX6_stores_103 rfl ?_
            refine j_name (fun S17 eS17 => ?_)
            refine j_aload_n X dX6_stores_106 rfl rfl (q := 1) rfl ?_
            refine j_iload_n X dX6_stores_107 rfl rfl (q := 2) rfl ?_
            refine j_bipush X dX6_stores_108 rfl (v := 28) (by decide) ?_
            refine j_iload_n X dX6_stores_110 rfl rfl (q := 3) rfl ?_
            refine j_iadd X dX6_stores_111 rfl ?_
            refine j_topeq (y := nI (28 + j)) (nI_add 28 j) ?_
            refine j_aload_n X dX6_stores_112 rfl rfl (q := 1) rfl ?_
            refine j_iload_n X dX6_stores_113 rfl rfl (q := 2) rfl ?_
            refine j_iconst X dX6_stores_114 rfl (v := 0) (by decide) ?_
            refine j_calli X (c_X6_of l Z S17 h a 0 (by omega)) (wm_ref (by decide)) ((fun _ => rfl) _) rfl lk_RX6_97 mi_X6_of ms_X6_of ini_RX6 mc_X6_of md_X6_of ⟨Nat.le_of_ble_eq_true rfl, Nat.le_of_ble_eq_true rfl⟩ ⟨Nat.le_of_ble_eq_true rfl, Nat.le_of_ble_eq_true rfl⟩ rfl (Nat.le_of_ble_eq_true rfl) (as := [.int (nI (a)), .int (0)]) (rest := [.int (nI (28 + j)), .int (nI (a)), .ref (zA Z (7) (0) (0))]) rfl dX6_stores_115 rfl ?_
            refine j_callv X (c_X6_put l Z S17 h a (28 + j) (rOf S17 a 0) (by omega)) (wm_ref (by decide)) ((fun _ => rfl) _) rfl lk_RX6_60 mi_X6_put ms_X6_put ini_RX6 mc_X6_put md_X6_put ⟨Nat.le_of_ble_eq_true rfl, Nat.le_of_ble_eq_true rfl⟩ ⟨Nat.le_of_ble_eq_true rfl, Nat.le_of_ble_eq_true rfl⟩ rfl (Nat.le_of_ble_eq_true rfl) (as := [.int (nI (a)), .int (nI (28 + j)), .int (rOf S17 a 0)]) (rest := []) rfl dX6_stores_118 rfl ?_
            refine j_name (fun S18 eS18 => ?_)
            refine j_iload_n X dX6_stores_121 rfl rfl (q := 0) rfl ?_
            refine j_if_eq_f X dX6_stores_122 rfl (tgt := 143) (by decide) (by decide) ?_
            refine j_aload_n X dX6_stores_125 rfl rfl (q := 1) rfl ?_
            refine j_iload_n X dX6_stores_126 rfl rfl (q := 2) rfl ?_
            refine j_bipush X dX6_stores_127 rfl (v := 8) (by decide) ?_
            refine j_aload_n X dX6_stores_129 rfl rfl (q := 1) rfl ?_
            refine j_iload_n X dX6_stores_130 rfl rfl (q := 2) rfl ?_
            refine j_bipush X dX6_stores_131 rfl (v := 8) (by decide) ?_
            refine j_calli X (c_X6_of l Z S18 h a 8 (by omega)) (wm_ref (by decide)) ((fun _ => rfl) _) rfl lk_RX6_97 mi_X6_of ms_X6_of ini_RX6 mc_X6_of md_X6_of ⟨Nat.le_of_ble_eq_true rfl, Nat.le_of_ble_eq_true rfl⟩ ⟨Nat.le_of_ble_eq_true rfl, Nat.le_of_ble_eq_true rfl⟩ rfl (Nat.le_of_ble_eq_true rfl) (as := [.int (nI (a)), .int (8)]) (rest := [.int (8), .int (nI (a)), .ref (zA Z (7) (0) (0))]) rfl dX6_stores_133 rfl ?_
            refine j_iconst X dX6_stores_136 rfl (v := 1) (by decide) ?_
            refine j_iload_n X dX6_stores_137 rfl rfl (q := 3) rfl ?_
            refine j_ishl X dX6_stores_138 rfl ?_
            refine j_ior X dX6_stores_139 rfl ?_
            refine j_callv X (c_X6_put l Z S18 h a 8 ((rOf S18 a 8) ||| ((1) <<< ((nI (j)) &&& 31))) (by omega)) (wm_ref (by decide)) ((fun _ => rfl) _) rfl lk_RX6_60 mi_X6_put ms_X6_put ini_RX6 mc_X6_put md_X6_put ⟨Nat.le_of_ble_eq_true rfl, Nat.le_of_ble_eq_true rfl⟩ ⟨Nat.le_of_ble_eq_true rfl, Nat.le_of_ble_eq_true rfl⟩ rfl (Nat.le_of_ble_eq_true rfl) (as := [.int (nI (a)), .int (8), .int ((rOf S18 a 8) ||| ((1) <<< ((nI (j)) &&& 31)))]) (rest := []) rfl dX6_stores_140 rfl ?_
            refine j_name (fun S19 eS19 => ?_)
            refine j_aload_n X dX6_stores_143 rfl rfl (q := 1) rfl ?_
            refine j_iload_n X dX6_stores_144 rfl rfl (q := 2) rfl ?_
            refine j_iconst X dX6_stores_145 rfl (v := 3) (by decide) ?_
            refine j_calli X (c_X6_of l Z S19 h a 3 (by omega)) (wm_ref (by decide)) ((fun _ => rfl) _) rfl lk_RX6_97 mi_X6_of ms_X6_of ini_RX6 mc_X6_of md_X6_of ⟨Nat.le_of_ble_eq_true rfl, Nat.le_of_ble_eq_true rfl⟩ ⟨Nat.le_of_ble_eq_true rfl, Nat.le_of_ble_eq_true rfl⟩ rfl (Nat.le_of_ble_eq_true rfl) (as := [.int (nI (a)), .int (3)]) (rest := []) rfl dX6_stores_146 rfl ?_
            refine j_if_ne X dX6_stores_149 rfl (tgt := 162) (by decide) (fun c_149_20 => ?_) (fun c_149_20 => ?_)
            · refine j_iconst X dX6_stores_162 rfl (v := 1) (by decide) ?_
              exact j_ret (by subst eS1; subst eS17; subst eS18; subst eS19; first | with_reducible rfl | (simp [rStore, rStB, rPutV, rHold, rNew, rBump, bI, c_7, c_19, c_33, c_62, c_84_16, c_149_20]; done) | (simp_all [rStore, rStB, rPutV, rHold, rNew, rBump, bI]; done) | rfl) (by subst eS1; subst eS17; subst eS18; subst eS19; first | with_reducible rfl | (simp [rStore, rStB, rPutV, rHold, rNew, rBump, bI, c_7, c_19, c_33, c_62, c_84_16, c_149_20]; done) | (simp_all [rStore, rStB, rPutV, rHold, rNew, rBump, bI]; done) | rfl) rfl (K _ _ dX6_stores_163)
            · refine j_aload_n X dX6_stores_152 rfl rfl (q := 1) rfl ?_
              refine j_iload_n X dX6_stores_153 rfl rfl (q := 2) rfl ?_
              refine j_iconst X dX6_stores_154 rfl (v := -1) (by decide) ?_
              refine j_iconst X dX6_stores_155 rfl (v := 0) (by decide) ?_
              refine j_iconst X dX6_stores_156 rfl (v := 1) (by decide) ?_
              refine j_iload_n X dX6_stores_157 rfl rfl (q := 3) rfl ?_
              refine j_ishl X dX6_stores_158 rfl ?_
              refine j_callv X (c_X6_log l Z S19 h a (by omega) (-1) (0) ((1) <<< ((nI (j)) &&& 31)) (by subst eS1; subst eS17; subst eS18; subst eS19; simp [setM_ne, setO_M, rCC, rQ, rRes_k, rWB_k, rCol_k, rOwn_k, rOwnL_k, rHold_k, rAbort_k, rPut_k, rBump, lo0, lo2, lo21, hj] <;> exact hq)) (wm_ref (by decide)) ((fun _ => rfl) _) rfl lk_RX6_141 mi_X6_log ms_X6_log ini_RX6 mc_X6_log md_X6_log ⟨Nat.le_of_ble_eq_true rfl, Nat.le_of_ble_eq_true rfl⟩ ⟨Nat.le_of_ble_eq_true rfl, Nat.le_of_ble_eq_true rfl⟩ rfl (Nat.le_of_ble_eq_true rfl) (as := [.int (nI (a)), .int (-1), .int (0), .int ((1) <<< ((nI (j)) &&& 31))]) (rest := []) rfl dX6_stores_159 rfl ?_
              refine j_name (fun S21 eS21 => ?_)
              refine j_iconst X dX6_stores_162 rfl (v := 1) (by decide) ?_
              exact j_ret (by subst eS1; subst eS17; subst eS18; subst eS19; subst eS21; first | with_reducible rfl | (simp [rStore, rStB, rPutV, rHold, rNew, rBump, bI, c_7, c_19, c_33, c_62, c_84_16, c_149_20]; done) | (simp_all [rStore, rStB, rPutV, rHold, rNew, rBump, bI]; done) | rfl) (by subst eS1; subst eS17; subst eS18; subst eS19; subst eS21; first | with_reducible rfl | (simp [rStore, rStB, rPutV, rHold, rNew, rBump, bI, c_7, c_19, c_33, c_62, c_84_16, c_149_20]; done) | (simp_all [rStore, rStB, rPutV, rHold, rNew, rBump, bI]; done) | rfl) rfl (K _ _ dX6_stores_163)
          · refine j_aload_n X dX6_stores_87 rfl rfl (q := 1) rfl ?_
            refine j_iload_n X dX6_stores_88 rfl rfl (q := 2) rfl ?_
            refine j_iload_n X dX6_stores_89 rfl rfl (q := 3) rfl ?_
            refine j_callv X (c_X6_own l Z S1 h a (by omega) j (by omega) (by subst eS1; simp [setM_ne, setO_M, rCC, rQ, rRes_k, rWB_k, rCol_k, rOwn_k, rOwnL_k, rHold_k, rAbort_k, rPut_k, rBump, lo0, lo2, lo21, hj] <;> exact hcc)) (wm_ref (by decide)) ((fun _ => rfl) _) rfl lk_RX6_138 mi_X6_own ms_X6_own ini_RX6 mc_X6_own md_X6_own ⟨Nat.le_of_ble_eq_true rfl, Nat.le_of_ble_eq_true rfl⟩ ⟨Nat.le_of_ble_eq_true rfl, Nat.le_of_ble_eq_true rfl⟩ rfl (Nat.le_of_ble_eq_true rfl) (as := [.int (nI (a)), .int (nI (j))]) (rest := []) rfl dX6_stores_90 rfl ?_
            refine j_name (fun S22 eS22 => ?_)
            refine j_goto X (tgt := 106) dX6_stores_93 (by decide) ?_
            refine j_aload_n X dX6_stores_106 rfl rfl (q := 1) rfl ?_
            refine j_iload_n X dX6_stores_107 rfl rfl (q := 2) rfl ?_
            refine j_bipush X dX6_stores_108 rfl (v := 28) (by decide) ?_
            refine j_iload_n X dX6_stores_110 rfl rfl (q := 3) rfl ?_
            refine j_iadd X dX6_stores_111 rfl ?_
            refine j_topeq (y := nI (28 + j)) (nI_add 28 j) ?_
            refine j_aload_n X dX6_stores_112 rfl rfl (q := 1) rfl ?_
            refine j_iload_n X dX6_stores_113 rfl rfl (q := 2) rfl ?_
            refine j_iconst X dX6_stores_114 rfl (v := 0) (by decide) ?_
            refine j_calli X (c_X6_of l Z S22 h a 0 (by omega)) (wm_ref (by decide)) ((fun _ => rfl) _) rfl lk_RX6_97 mi_X6_of ms_X6_of ini_RX6 mc_X6_of md_X6_of ⟨Nat.le_of_ble_eq_true rfl, Nat.le_of_ble_eq_true rfl⟩ ⟨Nat.le_of_ble_eq_true rfl, Nat.le_of_ble_eq_true rfl⟩ rfl (Nat.le_of_ble_eq_true rfl) (as := [.int (nI (a)), .int (0)]) (rest := [.int (nI (28 + j)), .int (nI (a)), .ref (zA Z (7) (0) (0))]) rfl dX6_stores_115 rfl ?_
            refine j_callv X (c_X6_put l Z S22 h a (28 + j) (rOf S22 a 0) (by omega)) (wm_ref (by decide)) ((fun _ => rfl) _) rfl lk_RX6_60 mi_X6_put ms_X6_put ini_RX6 mc_X6_put md_X6_put ⟨Nat.le_of_ble_eq_true rfl, Nat.le_of_ble_eq_true rfl⟩ ⟨Nat.le_of_ble_eq_true rfl, Nat.le_of_ble_eq_true rfl⟩ rfl (Nat.le_of_ble_eq_true rfl) (as := [.int (nI (a)), .int (nI (28 + j)), .int (rOf S22 a 0)]) (rest := []) rfl dX6_stores_118 rfl ?_
            refine j_name (fun S23 eS23 => ?_)
            refine j_iload_n X dX6_stores_121 rfl rfl (q := 0) rfl ?_
            refine j_if_eq_f X dX6_stores_122 rfl (tgt := 143) (by decide) (by decide) ?_
            refine j_aload_n X dX6_stores_125 rfl rfl (q := 1) rfl ?_
            refine j_iload_n X dX6_stores_126 rfl rfl (q := 2) rfl ?_
            refine j_bipush X dX6_stores_127 rfl (v := 8) (by decide) ?_
            refine j_aload_n X dX6_stores_129 rfl rfl (q := 1) rfl ?_
            refine j_iload_n X dX6_stores_130 rfl rfl (q := 2) rfl ?_
            refine j_bipush X dX6_stores_131 rfl (v := 8) (by decide) ?_
            refine j_calli X (c_X6_of l Z S23 h a 8 (by omega)) (wm_ref (by decide)) ((fun _ => rfl) _) rfl lk_RX6_97 mi_X6_of ms_X6_of ini_RX6 mc_X6_of md_X6_of ⟨Nat.le_of_ble_eq_true rfl, Nat.le_of_ble_eq_true rfl⟩ ⟨Nat.le_of_ble_eq_true rfl, Nat.le_of_ble_eq_true rfl⟩ rfl (Nat.le_of_ble_eq_true rfl) (as := [.int (nI (a)), .int (8)]) (rest := [.int (8), .int (nI (a)), .ref (zA Z (7) (0) (0))]) rfl dX6_stores_133 rfl ?_
            refine j_iconst X dX6_stores_136 rfl (v := 1) (by decide) ?_
            refine j_iload_n X dX6_stores_137 rfl rfl (q := 3) rfl ?_
            refine j_ishl X dX6_stores_138 rfl ?_
            refine j_ior X dX6_stores_139 rfl ?_
            refine j_callv X (c_X6_put l Z S23 h a 8 ((rOf S23 a 8) ||| ((1) <<< ((nI (j)) &&& 31))) (by omega)) (wm_ref (by decide)) ((fun _ => rfl) _) rfl lk_RX6_60 mi_X6_put ms_X6_put ini_RX6 mc_X6_put md_X6_put ⟨Nat.le_of_ble_eq_true rfl, Nat.le_of_ble_eq_true rfl⟩ ⟨Nat.le_of_ble_eq_true rfl, Nat.le_of_ble_eq_true rfl⟩ rfl (Nat.le_of_ble_eq_true rfl) (as := [.int (nI (a)), .int (8), .int ((rOf S23 a 8) ||| ((1) <<< ((nI (j)) &&& 31)))]) (rest := []) rfl dX6_stores_140 rfl ?_
            refine j_name (fun S24 eS24 => ?_)
            refine j_aload_n X dX6_stores_143 rfl rfl (q := 1) rfl ?_
            refine j_iload_n X dX6_stores_144 rfl rfl (q := 2) rfl ?_
            refine j_iconst X dX6_stores_145 rfl (v := 3) (by decide) ?_
            refine j_calli X (c_X6_of l Z S24 h a 3 (by omega)) (wm_ref (by decide)) ((fun _ => rfl) _) rfl lk_RX6_97 mi_X6_of ms_X6_of ini_RX6 mc_X6_of md_X6_of ⟨Nat.le_of_ble_eq_true rfl, Nat.le_of_ble_eq_true rfl⟩ ⟨Nat.le_of_ble_eq_true rfl, Nat.le_of_ble_eq_true rfl⟩ rfl (Nat.le_of_ble_eq_true rfl) (as := [.int (nI (a)), .int (3)]) (rest := []) rfl dX6_stores_146 rfl ?_
            refine j_if_ne X dX6_stores_149 rfl (tgt := 162) (by decide) (fun c_149_25 => ?_) (fun c_149_25 => ?_)
            · refine j_iconst X dX6_stores_162 rfl (v := 1) (by decide) ?_
              exact j_ret (by subst eS1; subst eS22; subst eS23; subst eS24; first | with_reducible rfl | (simp [rStore, rStB, rPutV, rHold, rNew, rBump, bI, c_7, c_19, c_33, c_62, c_84_16, c_149_25]; done) | (simp_all [rStore, rStB, rPutV, rHold, rNew, rBump, bI]; done) | rfl) (by subst eS1; subst eS22; subst eS23; subst eS24; first | with_reducible rfl | (simp [rStore, rStB, rPutV, rHold, rNew, rBump, bI, c_7, c_19, c_33, c_62, c_84_16, c_149_25]; done) | (simp_all [rStore, rStB, rPutV, rHold, rNew, rBump, bI]; done) | rfl) rfl (K _ _ dX6_stores_163)
            · refine j_aload_n X dX6_stores_152 rfl rfl (q := 1) rfl ?_
              refine j_iload_n X dX6_stores_153 rfl rfl (q := 2) rfl ?_
              refine j_iconst X dX6_stores_154 rfl (v := -1) (by decide) ?_
              refine j_iconst X dX6_stores_155 rfl (v := 0) (by decide) ?_
              refine j_iconst X dX6_stores_156 rfl (v := 1) (by decide) ?_
              refine j_iload_n X dX6_stores_157 rfl rfl (q := 3) rfl ?_
              refine j_ishl X dX6_stores_158 rfl ?_
              refine j_callv X (c_X6_log l Z S24 h a (by omega) (-1) (0) ((1) <<< ((nI (j)) &&& 31)) (by subst eS1; subst eS22; subst eS23; subst eS24; simp [setM_ne, setO_M, rCC, rQ, rRes_k, rWB_k, rCol_k, rOwn_k, rOwnL_k, rHold_k, rAbort_k, rPut_k, rBump, lo0, lo2, lo21, hj] <;> exact hq)) (wm_ref (by decide)) ((fun _ => rfl) _) rfl lk_RX6_141 mi_X6_log ms_X6_log ini_RX6 mc_X6_log md_X6_log ⟨Nat.le_of_ble_eq_true rfl, Nat.le_of_ble_eq_true rfl⟩ ⟨Nat.le_of_ble_eq_true rfl, Nat.le_of_ble_eq_true rfl⟩ rfl (Nat.le_of_ble_eq_true rfl) (as := [.int (nI (a)), .int (-1), .int (0), .int ((1) <<< ((nI (j)) &&& 31))]) (rest := []) rfl dX6_stores_159 rfl ?_
              refine j_name (fun S26 eS26 => ?_)
              refine j_iconst X dX6_stores_162 rfl (v := 1) (by decide) ?_
              exact j_ret (by subst eS1; subst eS22; subst eS23; subst eS24; subst eS26; first | with_reducible rfl | (simp [rStore, rStB, rPutV, rHold, rNew, rBump, bI, c_7, c_19, c_33, c_62, c_84_16, c_149_25]; done) | (simp_all [rStore, rStB, rPutV, rHold, rNew, rBump, bI]; done) | rfl) (by subst eS1; subst eS22; subst eS23; subst eS24; subst eS26; first | with_reducible rfl | (simp [rStore, rStB, rPutV, rHold, rNew, rBump, bI, c_7, c_19, c_33, c_62, c_84_16, c_149_25]; done) | (simp_all [rStore, rStB, rPutV, rHold, rNew, rBump, bI]; done) | rfl) rfl (K _ _ dX6_stores_163)
        · refine j_aload_n X dX6_stores_65 rfl rfl (q := 1) rfl ?_
          refine j_iload_n X dX6_stores_66 rfl rfl (q := 2) rfl ?_
          refine j_bipush X dX6_stores_67 rfl (v := 6) (by decide) ?_
          refine j_callv X (c_X6_abort l Z S1 h a (by omega) 6 (by omega)) (wm_ref (by decide)) ((fun _ => rfl) _) rfl lk_RX6_121 mi_X6_abort ms_X6_abort ini_RX6 mc_X6_abort md_X6_abort ⟨Nat.le_of_ble_eq_true rfl, Nat.le_of_ble_eq_true rfl⟩ ⟨Nat.le_of_ble_eq_true rfl, Nat.le_of_ble_eq_true rfl⟩ rfl (Nat.le_of_ble_eq_true rfl) (as := [.int (nI (a)), .int (6)]) (rest := []) rfl dX6_stores_69 rfl ?_
          refine j_name (fun S27 eS27 => ?_)
          refine j_iconst X dX6_stores_72 rfl (v := 0) (by decide) ?_
          exact j_ret (by subst eS1; subst eS27; first | with_reducible rfl | (simp [rStore, rStB, rPutV, rHold, rNew, rBump, bI, c_7, c_19, c_33, c_62]; done) | (simp_all [rStore, rStB, rPutV, rHold, rNew, rBump, bI]; done) | rfl) (by subst eS1; subst eS27; first | with_reducible rfl | (simp [rStore, rStB, rPutV, rHold, rNew, rBump, bI, c_7, c_19, c_33, c_62]; done) | (simp_all [rStore, rStB, rPutV, rHold, rNew, rBump, bI]; done) | rfl) rfl (K _ _ dX6_stores_73)
  · refine j_iconst X dX6_stores_10 rfl (v := 0) (by decide) ?_
    exact j_ret (by subst eS1; first | with_reducible rfl | (simp [rStore, rStB, rPutV, rHold, rNew, rBump, bI, c_7]; done) | (simp_all [rStore, rStB, rPutV, rHold, rNew, rBump, bI]; done) | rfl) (by subst eS1; first | with_reducible rfl | (simp [rStore, rStB, rPutV, rHold, rNew, rBump, bI, c_7]; done) | (simp_all [rStore, rStB, rPutV, rHold, rNew, rBump, bI]; done) | rfl) rfl (K _ _ dX6_stores_11)
set_option maxRecDepth 100000 in
set_option maxHeartbeats 4000000 in
theorem c_X6_begins (l : Launch) (Z : wZ) (S : St) (h : Hl) (a : Nat) (ha : a < 4) : Cv l yX6_begins cX6_begins 2 2 44 Z [.ref (zA Z (7) (0) (0)), .int (nI (a))] S h (rBeg S a) (h) := by
  refine Cv.of rfl (Nat.le_of_ble_eq_true rfl) (fun p e s mi args below meth c A0 Q X K => ?_)
  refine j_at rfl rfl (Ls3 := [(0, .ref (zA Z (7) (0) (0))), (1, .int (nI (a)))]) rfl rfl ?_
  refine j_aload_n X dX6_begins_0 rfl rfl (q := 0) rfl ?_
  refine j_iload_n X dX6_begins_1 rfl rfl (q := 1) rfl ?_
  refine j_iconst X dX6_begins_2 rfl (v := 3) (by decide) ?_
  refine j_calli X (c_X6_of l Z S h a 3 (by omega)) (wm_ref (by decide)) ((fun _ => rfl) _) rfl lk_RX6_97 mi_X6_of ms_X6_of ini_RX6 mc_X6_of md_X6_of ⟨Nat.le_of_ble_eq_true rfl, Nat.le_of_ble_eq_true rfl⟩ ⟨Nat.le_of_ble_eq_true rfl, Nat.le_of_ble_eq_true rfl⟩ rfl (Nat.le_of_ble_eq_true rfl) (as := [.int (nI (a)), .int (3)]) (rest := []) rfl dX6_begins_3 rfl ?_
  refine j_iconst X dX6_begins_6 rfl (v := 1) (by decide) ?_
  refine j_icmp_ne X dX6_begins_7 rfl (tgt := 11) (by decide) (fun c_7 => ?_) (fun c_7 => ?_)
  · refine j_aload_n X dX6_begins_11 rfl rfl (q := 0) rfl ?_
    refine j_iload_n X dX6_begins_12 rfl rfl (q := 1) rfl ?_
    refine j_iconst X dX6_begins_13 rfl (v := 4) (by decide) ?_
    refine j_calli X (c_X6_of l Z S h a 4 (by omega)) (wm_ref (by decide)) ((fun _ => rfl) _) rfl lk_RX6_97 mi_X6_of ms_X6_of ini_RX6 mc_X6_of md_X6_of ⟨Nat.le_of_ble_eq_true rfl, Nat.le_of_ble_eq_true rfl⟩ ⟨Nat.le_of_ble_eq_true rfl, Nat.le_of_ble_eq_true rfl⟩ rfl (Nat.le_of_ble_eq_true rfl) (as := [.int (nI (a)), .int (4)]) (rest := []) rfl dX6_begins_14 rfl ?_
    refine j_iconst X dX6_begins_17 rfl (v := -1) (by decide) ?_
    refine j_icmp_ne X dX6_begins_18 rfl (tgt := 43) (by decide) (fun c_18 => ?_) (fun c_18 => ?_)
    · refine j_aload_n X dX6_begins_43 rfl rfl (q := 0) rfl ?_
      refine j_iload_n X dX6_begins_44 rfl rfl (q := 1) rfl ?_
      refine j_iconst X dX6_begins_45 rfl (v := 3) (by decide) ?_
      refine j_iconst X dX6_begins_46 rfl (v := 1) (by decide) ?_
      refine j_callv X (c_X6_put l Z S h a 3 (1) (by omega)) (wm_ref (by decide)) ((fun _ => rfl) _) rfl lk_RX6_60 mi_X6_put ms_X6_put ini_RX6 mc_X6_put md_X6_put ⟨Nat.le_of_ble_eq_true rfl, Nat.le_of_ble_eq_true rfl⟩ ⟨Nat.le_of_ble_eq_true rfl, Nat.le_of_ble_eq_true rfl⟩ rfl (Nat.le_of_ble_eq_true rfl) (as := [.int (nI (a)), .int (3), .int (1)]) (rest := []) rfl dX6_begins_47 rfl ?_
      refine j_name (fun S1 eS1 => ?_)
      refine j_aload_n X dX6_begins_50 rfl rfl (q := 0) rfl ?_
      refine j_iload_n X dX6_begins_51 rfl rfl (q := 1) rfl ?_
      refine j_iconst X dX6_begins_52 rfl (v := 5) (by decide) ?_
      refine j_aload_n X dX6_begins_53 rfl rfl (q := 0) rfl ?_
      refine j_iload_n X dX6_begins_54 rfl rfl (q := 1) rfl ?_
      refine j_iconst X dX6_begins_55 rfl (v := 1) (by decide) ?_
      refine j_calli X (c_X6_of l Z S1 h a 1 (by omega)) (wm_ref (by decide)) ((fun _ => rfl) _) rfl lk_RX6_97 mi_X6_of ms_X6_of ini_RX6 mc_X6_of md_X6_of ⟨Nat.le_of_ble_eq_true rfl, Nat.le_of_ble_eq_true rfl⟩ ⟨Nat.le_of_ble_eq_true rfl, Nat.le_of_ble_eq_true rfl⟩ rfl (Nat.le_of_ble_eq_true rfl) (as := [.int (nI (a)), .int (1)]) (rest := [.int (5), .int (nI (a)), .ref (zA Z (7) (0) (0))]) rfl dX6_begins_56 rfl ?_
      refine j_callv X (c_X6_put l Z S1 h a 5 (rOf S1 a 1) (by omega)) (wm_ref (by decide)) ((fun _ => rfl) _) rfl lk_RX6_60 mi_X6_put ms_X6_put ini_RX6 mc_X6_put md_X6_put ⟨Nat.le_of_ble_eq_true rfl, Nat.le_of_ble_eq_true rfl⟩ ⟨Nat.le_of_ble_eq_true rfl, Nat.le_of_ble_eq_true rfl⟩ rfl (Nat.le_of_ble_eq_true rfl) (as := [.int (nI (a)), .int (5), .int (rOf S1 a 1)]) (rest := []) rfl dX6_begins_59 rfl ?_
      refine j_name (fun S2 eS2 => ?_)
      refine j_aload_n X dX6_begins_62 rfl rfl (q := 0) rfl ?_
      refine j_iload_n X dX6_begins_63 rfl rfl (q := 1) rfl ?_
      refine j_bipush X dX6_begins_64 rfl (v := 6) (by decide) ?_
      refine j_aload_n X dX6_begins_66 rfl rfl (q := 0) rfl ?_
      refine j_iload_n X dX6_begins_67 rfl rfl (q := 1) rfl ?_
      refine j_iconst X dX6_begins_68 rfl (v := 0) (by decide) ?_
      refine j_calli X (c_X6_of l Z S2 h a 0 (by omega)) (wm_ref (by decide)) ((fun _ => rfl) _) rfl lk_RX6_97 mi_X6_of ms_X6_of ini_RX6 mc_X6_of md_X6_of ⟨Nat.le_of_ble_eq_true rfl, Nat.le_of_ble_eq_true rfl⟩ ⟨Nat.le_of_ble_eq_true rfl, Nat.le_of_ble_eq_true rfl⟩ rfl (Nat.le_of_ble_eq_true rfl) (as := [.int (nI (a)), .int (0)]) (rest := [.int (6), .int (nI (a)), .ref (zA Z (7) (0) (0))]) rfl dX6_begins_69 rfl ?_
      refine j_callv X (c_X6_put l Z S2 h a 6 (rOf S2 a 0) (by omega)) (wm_ref (by decide)) ((fun _ => rfl) _) rfl lk_RX6_60 mi_X6_put ms_X6_put ini_RX6 mc_X6_put md_X6_put ⟨Nat.le_of_ble_eq_true rfl, Nat.le_of_ble_eq_true rfl⟩ ⟨Nat.le_of_ble_eq_true rfl, Nat.le_of_ble_eq_true rfl⟩ rfl (Nat.le_of_ble_eq_true rfl) (as := [.int (nI (a)), .int (6), .int (rOf S2 a 0)]) (rest := []) rfl dX6_begins_72 rfl ?_
      refine j_name (fun S3 eS3 => ?_)
      refine j_aload_n X dX6_begins_75 rfl rfl (q := 0) rfl ?_
      refine j_iload_n X dX6_begins_76 rfl rfl (q := 1) rfl ?_
      refine j_bipush X dX6_begins_77 rfl (v := 7) (by decide) ?_
      refine j_iconst X dX6_begins_79 rfl (v := 0) (by decide) ?_
      refine j_callv X (c_X6_put l Z S3 h a 7 (0) (by omega)) (wm_ref (by decide)) ((fun _ => rfl) _) rfl lk_RX6_60 mi_X6_put ms_X6_put ini_RX6 mc_X6_put md_X6_put ⟨Nat.le_of_ble_eq_true rfl, Nat.le_of_ble_eq_true rfl⟩ ⟨Nat.le_of_ble_eq_true rfl, Nat.le_of_ble_eq_true rfl⟩ rfl (Nat.le_of_ble_eq_true rfl) (as := [.int (nI (a)), .int (7), .int (0)]) (rest := []) rfl dX6_begins_80 rfl ?_
      refine j_name (fun S4 eS4 => ?_)
      refine j_aload_n X dX6_begins_83 rfl rfl (q := 0) rfl ?_
      refine j_iload_n X dX6_begins_84 rfl rfl (q := 1) rfl ?_
      refine j_bipush X dX6_begins_85 rfl (v := 8) (by decide) ?_
      refine j_iconst X dX6_begins_87 rfl (v := 0) (by decide) ?_
      refine j_callv X (c_X6_put l Z S4 h a 8 (0) (by omega)) (wm_ref (by decide)) ((fun _ => rfl) _) rfl lk_RX6_60 mi_X6_put ms_X6_put ini_RX6 mc_X6_put md_X6_put ⟨Nat.le_of_ble_eq_true rfl, Nat.le_of_ble_eq_true rfl⟩ ⟨Nat.le_of_ble_eq_true rfl, Nat.le_of_ble_eq_true rfl⟩ rfl (Nat.le_of_ble_eq_true rfl) (as := [.int (nI (a)), .int (8), .int (0)]) (rest := []) rfl dX6_begins_88 rfl ?_
      refine j_name (fun S5 eS5 => ?_)
      refine j_aload_n X dX6_begins_91 rfl rfl (q := 0) rfl ?_
      refine j_iload_n X dX6_begins_92 rfl rfl (q := 1) rfl ?_
      refine j_bipush X dX6_begins_93 rfl (v := 11) (by decide) ?_
      refine j_iconst X dX6_begins_95 rfl (v := 0) (by decide) ?_
      refine j_callv X (c_X6_put l Z S5 h a 11 (0) (by omega)) (wm_ref (by decide)) ((fun _ => rfl) _) rfl lk_RX6_60 mi_X6_put ms_X6_put ini_RX6 mc_X6_put md_X6_put ⟨Nat.le_of_ble_eq_true rfl, Nat.le_of_ble_eq_true rfl⟩ ⟨Nat.le_of_ble_eq_true rfl, Nat.le_of_ble_eq_true rfl⟩ rfl (Nat.le_of_ble_eq_true rfl) (as := [.int (nI (a)), .int (11), .int (0)]) (rest := []) rfl dX6_begins_96 rfl ?_
      refine j_name (fun S6 eS6 => ?_)
      exact j_at (by subst eS1; subst eS2; subst eS3; subst eS4; subst eS5; subst eS6; first | with_reducible rfl | (simp [rBeg, rBump, c_7, c_18]; done) | (simp_all [rBeg, rBump]; done) | rfl) rfl rfl rfl (K _ _ dX6_begins_99)
    · refine j_aload_n X dX6_begins_21 rfl rfl (q := 0) rfl ?_
      refine j_iload_n X dX6_begins_22 rfl rfl (q := 1) rfl ?_
      refine j_iconst X dX6_begins_23 rfl (v := 4) (by decide) ?_
      refine j_aload_n X dX6_begins_24 rfl rfl (q := 0) rfl ?_
      refine jg_model X 0 (by decide) lk_RX6_7 rfl rfl dX6_begins_25 rfl ?_
      refine j_iconst X dX6_begins_28 rfl (v := 4) (by decide) ?_
      refine j_ialdN X (k := 4) (wm_ref (by decide)) ((fun _ => rfl) _) (by decide) (by decide) dX6_begins_29 rfl ?_
      refine j_callv X (c_X6_put l Z S h a 4 (S 7 0 1 4) (by omega)) (wm_ref (by decide)) ((fun _ => rfl) _) rfl lk_RX6_60 mi_X6_put ms_X6_put ini_RX6 mc_X6_put md_X6_put ⟨Nat.le_of_ble_eq_true rfl, Nat.le_of_ble_eq_true rfl⟩ ⟨Nat.le_of_ble_eq_true rfl, Nat.le_of_ble_eq_true rfl⟩ rfl (Nat.le_of_ble_eq_true rfl) (as := [.int (nI (a)), .int (4), .int (S 7 0 1 4)]) (rest := []) rfl dX6_begins_30 rfl ?_
      refine j_name (fun S7 eS7 => ?_)
      refine j_aload_n X dX6_begins_33 rfl rfl (q := 0) rfl ?_
      refine jg_model X 0 (by decide) lk_RX6_7 rfl rfl dX6_begins_34 rfl ?_
      refine j_iconst X dX6_begins_37 rfl (v := 4) (by decide) ?_
      refine j_dup2 X dX6_begins_38 rfl rfl rfl ?_
      refine j_ialdN X (k := 4) (wm_ref (by decide)) ((fun _ => rfl) _) (by decide) (by decide) dX6_begins_39 rfl ?_
      refine j_iconst X dX6_begins_40 rfl (v := 1) (by decide) ?_
      refine j_iadd X dX6_begins_41 rfl ?_
      refine j_iastN X (k := 4) (wm_ref (by decide)) (fun r => (fun _ => rfl) r) (by decide) (by decide) dX6_begins_42 rfl ?_
      refine j_name (fun S8 eS8 => ?_)
      refine j_aload_n X dX6_begins_43 rfl rfl (q := 0) rfl ?_
      refine j_iload_n X dX6_begins_44 rfl rfl (q := 1) rfl ?_
      refine j_iconst X dX6_begins_45 rfl (v := 3) (by decide) ?_
      refine j_iconst X dX6_begins_46 rfl (v := 1) (by decide) ?_
      refine j_callv X (c_X6_put l Z S8 h a 3 (1) (by omega)) (wm_ref (by decide)) ((fun _ => rfl) _) rfl lk_RX6_60 mi_X6_put ms_X6_put ini_RX6 mc_X6_put md_X6_put ⟨Nat.le_of_ble_eq_true rfl, Nat.le_of_ble_eq_true rfl⟩ ⟨Nat.le_of_ble_eq_true rfl, Nat.le_of_ble_eq_true rfl⟩ rfl (Nat.le_of_ble_eq_true rfl) (as := [.int (nI (a)), .int (3), .int (1)]) (rest := []) rfl dX6_begins_47 rfl ?_
      refine j_name (fun S9 eS9 => ?_)
      refine j_aload_n X dX6_begins_50 rfl rfl (q := 0) rfl ?_
      refine j_iload_n X dX6_begins_51 rfl rfl (q := 1) rfl ?_
      refine j_iconst X dX6_begins_52 rfl (v := 5) (by decide) ?_
      refine j_aload_n X dX6_begins_53 rfl rfl (q := 0) rfl ?_
      refine j_iload_n X dX6_begins_54 rfl rfl (q := 1) rfl ?_
      refine j_iconst X dX6_begins_55 rfl (v := 1) (by decide) ?_
      refine j_calli X (c_X6_of l Z S9 h a 1 (by omega)) (wm_ref (by decide)) ((fun _ => rfl) _) rfl lk_RX6_97 mi_X6_of ms_X6_of ini_RX6 mc_X6_of md_X6_of ⟨Nat.le_of_ble_eq_true rfl, Nat.le_of_ble_eq_true rfl⟩ ⟨Nat.le_of_ble_eq_true rfl, Nat.le_of_ble_eq_true rfl⟩ rfl (Nat.le_of_ble_eq_true rfl) (as := [.int (nI (a)), .int (1)]) (rest := [.int (5), .int (nI (a)), .ref (zA Z (7) (0) (0))]) rfl dX6_begins_56 rfl ?_
      refine j_callv X (c_X6_put l Z S9 h a 5 (rOf S9 a 1) (by omega)) (wm_ref (by decide)) ((fun _ => rfl) _) rfl lk_RX6_60 mi_X6_put ms_X6_put ini_RX6 mc_X6_put md_X6_put ⟨Nat.le_of_ble_eq_true rfl, Nat.le_of_ble_eq_true rfl⟩ ⟨Nat.le_of_ble_eq_true rfl, Nat.le_of_ble_eq_true rfl⟩ rfl (Nat.le_of_ble_eq_true rfl) (as := [.int (nI (a)), .int (5), .int (rOf S9 a 1)]) (rest := []) rfl dX6_begins_59 rfl ?_
      refine j_name (fun S10 eS10 => ?_)
      refine j_aload_n X dX6_begins_62 rfl rfl (q := 0) rfl ?_
      refine j_iload_n X dX6_begins_63 rfl rfl (q := 1) rfl ?_
      refine j_bipush X dX6_begins_64 rfl (v := 6) (by decide) ?_
      refine j_aload_n X dX6_begins_66 rfl rfl (q := 0) rfl ?_
      refine j_iload_n X dX6_begins_67 rfl rfl (q := 1) rfl ?_
      refine j_iconst X dX6_begins_68 rfl (v := 0) (by decide) ?_
      refine j_calli X (c_X6_of l Z S10 h a 0 (by omega)) (wm_ref (by decide)) ((fun _ => rfl) _) rfl lk_RX6_97 mi_X6_of ms_X6_of ini_RX6 mc_X6_of md_X6_of ⟨Nat.le_of_ble_eq_true rfl, Nat.le_of_ble_eq_true rfl⟩ ⟨Nat.le_of_ble_eq_true rfl, Nat.le_of_ble_eq_true rfl⟩ rfl (Nat.le_of_ble_eq_true rfl) (as := [.int (nI (a)), .int (0)]) (rest := [.int (6), .int (nI (a)), .ref (zA Z (7) (0) (0))]) rfl dX6_begins_69 rfl ?_
      refine j_callv X (c_X6_put l Z S10 h a 6 (rOf S10 a 0) (by omega)) (wm_ref (by decide)) ((fun _ => rfl) _) rfl lk_RX6_60 mi_X6_put ms_X6_put ini_RX6 mc_X6_put md_X6_put ⟨Nat.le_of_ble_eq_true rfl, Nat.le_of_ble_eq_true rfl⟩ ⟨Nat.le_of_ble_eq_true rfl, Nat.le_of_ble_eq_true rfl⟩ rfl (Nat.le_of_ble_eq_true rfl) (as := [.int (nI (a)), .int (6), .int (rOf S10 a 0)]) (rest := []) rfl dX6_begins_72 rfl ?_
      refine j_name (fun S11 eS11 => ?_)
      refine j_aload_n X dX6_begins_75 rfl rfl (q := 0) rfl ?_
      refine j_iload_n X dX6_begins_76 rfl rfl (q := 1) rfl ?_
      refine j_bipush X dX6_begins_77 rfl (v := 7) (by decide) ?_
      refine j_iconst X dX6_begins_79 rfl (v := 0) (by decide) ?_
      refine j_callv X (c_X6_put l Z S11 h a 7 (0) (by omega)) (wm_ref (by decide)) ((fun _ => rfl) _) rfl lk_RX6_60 mi_X6_put ms_X6_put ini_RX6 mc_X6_put md_X6_put ⟨Nat.le_of_ble_eq_true rfl, Nat.le_of_ble_eq_true rfl⟩ ⟨Nat.le_of_ble_eq_true rfl, Nat.le_of_ble_eq_true rfl⟩ rfl (Nat.le_of_ble_eq_true rfl) (as := [.int (nI (a)), .int (7), .int (0)]) (rest := []) rfl dX6_begins_80 rfl ?_
      refine j_name (fun S12 eS12 => ?_)
      refine j_aload_n X dX6_begins_83 rfl rfl (q := 0) rfl ?_
      refine j_iload_n X dX6_begins_84 rfl rfl (q := 1) rfl ?_
      refine j_bipush X dX6_begins_85 rfl (v := 8) (by decide) ?_
      refine j_iconst X dX6_begins_87 rfl (v := 0) (by decide) ?_
      refine j_callv X (c_X6_put l Z S12 h a 8 (0) (by omega)) (wm_ref (by decide)) ((fun _ => rfl) _) rfl lk_RX6_60 mi_X6_put ms_X6_put ini_RX6 mc_X6_put md_X6_put ⟨Nat.le_of_ble_eq_true rfl, Nat.le_of_ble_eq_true rfl⟩ ⟨Nat.le_of_ble_eq_true rfl, Nat.le_of_ble_eq_true rfl⟩ rfl (Nat.le_of_ble_eq_true rfl) (as := [.int (nI (a)), .int (8), .int (0)]) (rest := []) rfl dX6_begins_88 rfl ?_
      refine j_name (fun S13 eS13 => ?_)
      refine j_aload_n X dX6_begins_91 rfl rfl (q := 0) rfl ?_
      refine j_iload_n X dX6_begins_92 rfl rfl (q := 1) rfl ?_
      refine j_bipush X dX6_begins_93 rfl (v := 11) (by decide) ?_
      refine j_iconst X dX6_begins_95 rfl (v := 0) (by decide) ?_
      refine j_callv X (c_X6_put l Z S13 h a 11 (0) (by omega)) (wm_ref (by decide)) ((fun _ => rfl) _) rfl lk_RX6_60 mi_X6_put ms_X6_put ini_RX6 mc_X6_put md_X6_put ⟨Nat.le_of_ble_eq_true rfl, Nat.le_of_ble_eq_true rfl⟩ ⟨Nat.le_of_ble_eq_true rfl, Nat.le_of_ble_eq_true rfl⟩ rfl (Nat.le_of_ble_eq_true rfl) (as := [.int (nI (a)), .int (11), .int (0)]) (rest := []) rfl dX6_begins_96 rfl ?_
      refine j_name (fun S14 eS14 => ?_)
      exact j_at (by subst eS7; subst eS8; subst eS9; subst eS10; subst eS11; subst eS12; subst eS13; subst eS14; first | with_reducible rfl | (simp [rBeg, rBump, c_7, c_18]; done) | (simp_all [rBeg, rBump]; done) | rfl) rfl rfl rfl (K _ _ dX6_begins_99)
  · exact j_at (by first | with_reducible rfl | (simp [rBeg, rBump, c_7]; done) | (simp_all [rBeg, rBump]; done) | rfl) rfl rfl rfl (K _ _ dX6_begins_10)
set_option maxRecDepth 100000 in
set_option maxHeartbeats 4000000 in
theorem c_X6_ends (l : Launch) (Z : wZ) (S : St) (h : Hl) (a : Nat) (ha : a < 4) (hq : okI (S 7 0 1 21) 400) : Cv l yX6_ends cX6_ends 2 3 69 Z [.ref (zA Z (7) (0) (0)), .int (nI (a))] S h (rEnd S a) (h) := by
  refine Cv.of rfl (Nat.le_of_ble_eq_true rfl) (fun p e s mi args below meth c A0 Q X K => ?_)
  refine j_at rfl rfl (Ls3 := [(0, .ref (zA Z (7) (0) (0))), (1, .int (nI (a)))]) rfl rfl ?_
  refine j_aload_n X dX6_ends_0 rfl rfl (q := 0) rfl ?_
  refine j_iload_n X dX6_ends_1 rfl rfl (q := 1) rfl ?_
  refine j_iconst X dX6_ends_2 rfl (v := 3) (by decide) ?_
  refine j_calli X (c_X6_of l Z S h a 3 (by omega)) (wm_ref (by decide)) ((fun _ => rfl) _) rfl lk_RX6_97 mi_X6_of ms_X6_of ini_RX6 mc_X6_of md_X6_of ⟨Nat.le_of_ble_eq_true rfl, Nat.le_of_ble_eq_true rfl⟩ ⟨Nat.le_of_ble_eq_true rfl, Nat.le_of_ble_eq_true rfl⟩ rfl (Nat.le_of_ble_eq_true rfl) (as := [.int (nI (a)), .int (3)]) (rest := []) rfl dX6_ends_3 rfl ?_
  refine j_if_ne X dX6_ends_6 rfl (tgt := 10) (by decide) (fun c_6 => ?_) (fun c_6 => ?_)
  · refine j_aload_n X dX6_ends_10 rfl rfl (q := 0) rfl ?_
    refine j_iload_n X dX6_ends_11 rfl rfl (q := 1) rfl ?_
    refine j_aload_n X dX6_ends_12 rfl rfl (q := 0) rfl ?_
    refine j_iload_n X dX6_ends_13 rfl rfl (q := 1) rfl ?_
    refine j_iconst X dX6_ends_14 rfl (v := 4) (by decide) ?_
    refine j_calli X (c_X6_of l Z S h a 4 (by omega)) (wm_ref (by decide)) ((fun _ => rfl) _) rfl lk_RX6_97 mi_X6_of ms_X6_of ini_RX6 mc_X6_of md_X6_of ⟨Nat.le_of_ble_eq_true rfl, Nat.le_of_ble_eq_true rfl⟩ ⟨Nat.le_of_ble_eq_true rfl, Nat.le_of_ble_eq_true rfl⟩ rfl (Nat.le_of_ble_eq_true rfl) (as := [.int (nI (a)), .int (4)]) (rest := [.int (nI (a)), .ref (zA Z (7) (0) (0))]) rfl dX6_ends_15 rfl ?_
    refine j_aload_n X dX6_ends_18 rfl rfl (q := 0) rfl ?_
    refine j_iload_n X dX6_ends_19 rfl rfl (q := 1) rfl ?_
    refine j_bipush X dX6_ends_20 rfl (v := 11) (by decide) ?_
    refine j_calli X (c_X6_of l Z S h a 11 (by omega)) (wm_ref (by decide)) ((fun _ => rfl) _) rfl lk_RX6_97 mi_X6_of ms_X6_of ini_RX6 mc_X6_of md_X6_of ⟨Nat.le_of_ble_eq_true rfl, Nat.le_of_ble_eq_true rfl⟩ ⟨Nat.le_of_ble_eq_true rfl, Nat.le_of_ble_eq_true rfl⟩ rfl (Nat.le_of_ble_eq_true rfl) (as := [.int (nI (a)), .int (11)]) (rest := [.int (rOf S a 4), .int (nI (a)), .ref (zA Z (7) (0) (0))]) rfl dX6_ends_22 rfl ?_
    refine j_aload_n X dX6_ends_25 rfl rfl (q := 0) rfl ?_
    refine j_iload_n X dX6_ends_26 rfl rfl (q := 1) rfl ?_
    refine j_bipush X dX6_ends_27 rfl (v := 8) (by decide) ?_
    refine j_calli X (c_X6_of l Z S h a 8 (by omega)) (wm_ref (by decide)) ((fun _ => rfl) _) rfl lk_RX6_97 mi_X6_of ms_X6_of ini_RX6 mc_X6_of md_X6_of ⟨Nat.le_of_ble_eq_true rfl, Nat.le_of_ble_eq_true rfl⟩ ⟨Nat.le_of_ble_eq_true rfl, Nat.le_of_ble_eq_true rfl⟩ rfl (Nat.le_of_ble_eq_true rfl) (as := [.int (nI (a)), .int (8)]) (rest := [.int (rOf S a 11), .int (rOf S a 4), .int (nI (a)), .ref (zA Z (7) (0) (0))]) rfl dX6_ends_29 rfl ?_
    refine j_callv X (c_X6_log l Z S h a (by omega) (rOf S a 4) (rOf S a 11) (rOf S a 8) hq) (wm_ref (by decide)) ((fun _ => rfl) _) rfl lk_RX6_141 mi_X6_log ms_X6_log ini_RX6 mc_X6_log md_X6_log ⟨Nat.le_of_ble_eq_true rfl, Nat.le_of_ble_eq_true rfl⟩ ⟨Nat.le_of_ble_eq_true rfl, Nat.le_of_ble_eq_true rfl⟩ rfl (Nat.le_of_ble_eq_true rfl) (as := [.int (nI (a)), .int (rOf S a 4), .int (rOf S a 11), .int (rOf S a 8)]) (rest := []) rfl dX6_ends_32 rfl ?_
    refine j_name (fun S1 eS1 => ?_)
    refine j_aload_n X dX6_ends_35 rfl rfl (q := 0) rfl ?_
    refine j_iload_n X dX6_ends_36 rfl rfl (q := 1) rfl ?_
    refine j_iconst X dX6_ends_37 rfl (v := 3) (by decide) ?_
    refine j_iconst X dX6_ends_38 rfl (v := 0) (by decide) ?_
    refine j_callv X (c_X6_put l Z S1 h a 3 (0) (by omega)) (wm_ref (by decide)) ((fun _ => rfl) _) rfl lk_RX6_60 mi_X6_put ms_X6_put ini_RX6 mc_X6_put md_X6_put ⟨Nat.le_of_ble_eq_true rfl, Nat.le_of_ble_eq_true rfl⟩ ⟨Nat.le_of_ble_eq_true rfl, Nat.le_of_ble_eq_true rfl⟩ rfl (Nat.le_of_ble_eq_true rfl) (as := [.int (nI (a)), .int (3), .int (0)]) (rest := []) rfl dX6_ends_39 rfl ?_
    refine j_name (fun S2 eS2 => ?_)
    refine j_aload_n X dX6_ends_42 rfl rfl (q := 0) rfl ?_
    refine j_iload_n X dX6_ends_43 rfl rfl (q := 1) rfl ?_
    refine j_iconst X dX6_ends_44 rfl (v := 4) (by decide) ?_
    refine j_iconst X dX6_ends_45 rfl (v := -1) (by decide) ?_
    refine j_callv X (c_X6_put l Z S2 h a 4 (-1) (by omega)) (wm_ref (by decide)) ((fun _ => rfl) _) rfl lk_RX6_60 mi_X6_put ms_X6_put ini_RX6 mc_X6_put md_X6_put ⟨Nat.le_of_ble_eq_true rfl, Nat.le_of_ble_eq_true rfl⟩ ⟨Nat.le_of_ble_eq_true rfl, Nat.le_of_ble_eq_true rfl⟩ rfl (Nat.le_of_ble_eq_true rfl) (as := [.int (nI (a)), .int (4), .int (-1)]) (rest := []) rfl dX6_ends_46 rfl ?_
    refine j_name (fun S3 eS3 => ?_)
    refine j_aload_n X dX6_ends_49 rfl rfl (q := 0) rfl ?_
    refine j_iload_n X dX6_ends_50 rfl rfl (q := 1) rfl ?_
    refine j_bipush X dX6_ends_51 rfl (v := 7) (by decide) ?_
    refine j_iconst X dX6_ends_53 rfl (v := 0) (by decide) ?_
    refine j_callv X (c_X6_put l Z S3 h a 7 (0) (by omega)) (wm_ref (by decide)) ((fun _ => rfl) _) rfl lk_RX6_60 mi_X6_put ms_X6_put ini_RX6 mc_X6_put md_X6_put ⟨Nat.le_of_ble_eq_true rfl, Nat.le_of_ble_eq_true rfl⟩ ⟨Nat.le_of_ble_eq_true rfl, Nat.le_of_ble_eq_true rfl⟩ rfl (Nat.le_of_ble_eq_true rfl) (as := [.int (nI (a)), .int (7), .int (0)]) (rest := []) rfl dX6_ends_54 rfl ?_
    refine j_name (fun S4 eS4 => ?_)
    refine j_aload_n X dX6_ends_57 rfl rfl (q := 0) rfl ?_
    refine j_iload_n X dX6_ends_58 rfl rfl (q := 1) rfl ?_
    refine j_bipush X dX6_ends_59 rfl (v := 8) (by decide) ?_
    refine j_iconst X dX6_ends_61 rfl (v := 0) (by decide) ?_
    refine j_callv X (c_X6_put l Z S4 h a 8 (0) (by omega)) (wm_ref (by decide)) ((fun _ => rfl) _) rfl lk_RX6_60 mi_X6_put ms_X6_put ini_RX6 mc_X6_put md_X6_put ⟨Nat.le_of_ble_eq_true rfl, Nat.le_of_ble_eq_true rfl⟩ ⟨Nat.le_of_ble_eq_true rfl, Nat.le_of_ble_eq_true rfl⟩ rfl (Nat.le_of_ble_eq_true rfl) (as := [.int (nI (a)), .int (8), .int (0)]) (rest := []) rfl dX6_ends_62 rfl ?_
    refine j_name (fun S5 eS5 => ?_)
    refine j_aload_n X dX6_ends_65 rfl rfl (q := 0) rfl ?_
    refine j_iload_n X dX6_ends_66 rfl rfl (q := 1) rfl ?_
    refine j_bipush X dX6_ends_67 rfl (v := 11) (by decide) ?_
    refine j_iconst X dX6_ends_69 rfl (v := 0) (by decide) ?_
    refine j_callv X (c_X6_put l Z S5 h a 11 (0) (by omega)) (wm_ref (by decide)) ((fun _ => rfl) _) rfl lk_RX6_60 mi_X6_put ms_X6_put ini_RX6 mc_X6_put md_X6_put ⟨Nat.le_of_ble_eq_true rfl, Nat.le_of_ble_eq_true rfl⟩ ⟨Nat.le_of_ble_eq_true rfl, Nat.le_of_ble_eq_true rfl⟩ rfl (Nat.le_of_ble_eq_true rfl) (as := [.int (nI (a)), .int (11), .int (0)]) (rest := []) rfl dX6_ends_70 rfl ?_
    refine j_name (fun S6 eS6 => ?_)
    refine j_aload_n X dX6_ends_73 rfl rfl (q := 0) rfl ?_
    refine jg_model X 0 (by decide) lk_RX6_7 rfl rfl dX6_ends_74 rfl ?_
    refine j_iload_n X dX6_ends_77 rfl rfl (q := 1) rfl ?_
    refine j_bipush X dX6_ends_78 rfl (v := 9) (by decide) ?_
    refine j_callSi X (c_X6_at l Z S6 h a 9) lk_RX6_52 mt_X6_at ini_RX6 mc_X6_at md_X6_at ⟨Nat.le_of_ble_eq_true rfl, Nat.le_of_ble_eq_true rfl⟩ ⟨Nat.le_of_ble_eq_true rfl, Nat.le_of_ble_eq_true rfl⟩ rfl (Nat.le_of_ble_eq_true rfl) (as := [.int (nI (a)), .int (9)]) (rest := [.ref (zA Z (7) (0) (1))]) rfl dX6_ends_80 rfl ?_
    refine j_dup2 X dX6_ends_83 rfl rfl rfl ?_
    refine j_ialdN X (k := 22 + 96 * a + 9) (wm_ref (by decide)) ((fun _ => rfl) _) (by omega) (by decide) dX6_ends_84 rfl ?_
    refine j_iconst X dX6_ends_85 rfl (v := 1) (by decide) ?_
    refine j_iadd X dX6_ends_86 rfl ?_
    refine j_iastN X (k := 22 + 96 * a + 9) (wm_ref (by decide)) (fun r => (fun _ => rfl) r) (by omega) (by decide) dX6_ends_87 rfl ?_
    refine j_name (fun S7 eS7 => ?_)
    exact j_at (by subst eS1; subst eS2; subst eS3; subst eS4; subst eS5; subst eS6; subst eS7; first | with_reducible rfl | (simp [rEnd, rBump, c_6]; done) | (simp_all [rEnd, rBump]; done) | rfl) rfl rfl rfl (K _ _ dX6_ends_88)
  · exact j_at (by first | with_reducible rfl | (simp [rEnd, rBump, c_6]; done) | (simp_all [rEnd, rBump]; done) | rfl) rfl rfl rfl (K _ _ dX6_ends_9)

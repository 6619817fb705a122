/-! Machine -/
def inc (S : St) (m k : Nat) : St := setF S m 4 3 k (S m 4 3 k + 1)
def pHasC (S : St) (m : Nat) (a : Int32) : Bool := !decide (a < 0) && (!decide (S m 4 0 4 ≤ a) && !decide (4 ≤ a))
def pAborts (S : St) (m : Nat) : Int32 := S m 4 3 5 + S m 4 3 6
def pFinCF (S : St) (m k : Nat) (a : Int32) : Int32 := if pFin S m k = true then a + 1 else a
def pFinC (S : St) (m : Nat) : Int32 := lp (pFinCF S m) (pCC S m) 0 0
def pMFact (S : St) (m k : Nat) : Int32 := if k = 0 then S m 4 0 4 else if k = 1 then S m 4 0 5 else if k = 2 then S m 4 0 6 else if k = 3 then pFinC S m else S m 4 0 8
def pComF (S : St) (m j : Nat) (k : Nat) (r : Int32) : Bool × Int32 := if S m k 1 j = 2 then (if pContains (S m k 0 10) (nI j) = true then (true, r) else (false, S m k 2 j)) else (true, r)
def pCom (S : St) (m j : Nat) : Int32 := let q := lpE (pComF S m j) (pCC S m) 0 0; if q.1 = true then S m 4 2 j else q.2
def pWB (S : St) (m g j : Nat) : St := inc (setF S m 4 2 j (S m g 2 j)) m 4
def pWbeF (m g j : Nat) (k : Nat) (S : St) : St := if k = g then S else if S m k 1 j = 2 then setF (pWB S m k j) m k 1 j 1 else S
def pWbe (S : St) (m g j : Nat) : St := lp (pWbeF m g j) (pCC S m) 0 S
def pTakF (m g j : Nat) (k : Nat) (S : St) : St := if k = g then S else if S m k 1 j = 0 then S else inc (setF S m k 1 j 0) m 3
def pOver (S : St) (m g j : Nat) : St :=
  let S1 := if S m g 1 j = 0 then inc S m 1 else inc S m 2
  let S2 := pWbe S1 m g j
  setF (lp (pTakF m g j) (pCC S2 m) 0 S2) m g 1 j 2
def pWins (S : St) (m g o : Nat) : Bool := !pInT S m g || (decide (S m 4 0 5 = 0) || (!decide (S m 4 0 5 = 1) && !decide (S m o 0 5 ≤ S m g 0 5)))
def pWcF (m g j : Nat) (w : Bool) (k : Nat) (S : St) : Bool × St := if k = g then (true, S) else if pHurt S m k (nI j) w = true then (if pWins S m g k = true then (true, inc (pRoll S m k) m 5) else (false, inc (pRoll S m g) m 5)) else (true, S)
def pWc (S : St) (m g j : Nat) (w : Bool) : Bool × St := lpE (pWcF m g j w) (pCC S m) 0 S
def pMiss (S : St) (m g j : Nat) : St := let T3 := setF (pWbe (inc S m 0) m g j) m g 1 j 1; setF T3 m g 2 j (T3 m 4 2 j)
def pGot (S : St) (m g j : Nat) : St := let S3 := pNote S m g j; setF S3 m g 0 4 (S3 m g 2 j)
def pRead (S : St) (m g j : Nat) : St :=
  if (pWc S m g j false).1 = true then pGot (if (pWc S m g j false).2 m g 1 j = 0 then pMiss (pWc S m g j false).2 m g j else (pWc S m g j false).2) m g j else (pWc S m g j false).2
def pOwn (S : St) (m g j : Nat) : St := if S m g 1 j = 2 then (if pInT S m g = true then (if pContains (S m g 0 10) (nI j) = true then S else pWB S m g j) else S) else pOver S m g j
def pPut (S : St) (m g j : Nat) : St :=
  let S3 := setF S m g 2 j (S m g 0 4)
  if pInT S3 m g = true then setF S3 m g 0 10 (S3 m g 0 10 ||| 1 <<< (nI j &&& 31)) else pAddW S3 m (nI g) j m g 2
def pWrB (S : St) (m g j : Nat) : St := if pNoRoom S m g (nI j) (S m 4 0 6) = true then inc (pRoll S m g) m 6 else pPut (pOwn S m g j) m g j
def pWrite (S : St) (m g j : Nat) : St := if (pWc S m g j true).1 = true then pWrB (pWc S m g j true).2 m g j else (pWc S m g j true).2
def pBegin (S : St) (m g : Nat) : St :=
  if pInT S m g = true then S else if S m g 0 6 = -1 then (let S1 := pBegT S m g (S m 4 0 8); setF S1 m 4 0 8 (S1 m 4 0 8 + 1)) else pBegT S m g (S m g 0 6)
def pCommit (S : St) (m g : Nat) : St :=
  if pInT S m g = true then (let S1 := pEndT (pAddT S m (nI g) m g) m g; setF S1 m g 0 13 (S1 m g 0 13 + 1)) else S
abbrev pPs (S : St) (m g : Nat) : Nat := (S m g 0 3).toNatClampNeg
def pExec (S : St) (m g kd j : Nat) (op : Int32) : St :=
  if kd = 0 then pBegin S m g else if kd = 1 then pCommit S m g else if kd = 2 then pRead S m g j else if kd = 3 then pWrite S m g j else setF S m g 0 4 (S m g 0 4 + op)
def pStepK (S : St) (m g kd j : Nat) : Int32 × St :=
  let S2 := pExec (inc S m 7) m g kd j (S m g 5 (pPs S m g))
  if S2 m g 0 14 = S m g 0 14 then (pAborts S2 m - pAborts S m, setF S2 m g 0 3 (S2 m g 0 3 + 1)) else (pAborts S2 m - pAborts S m + 8, S2)
def pStep (S : St) (m g : Nat) : Int32 × St := pStepK S m g (S m g 4 (pPs S m g)).toNatClampNeg (S m g 5 (pPs S m g)).toNatClampNeg
theorem pIsLine_ok {j : Nat} (h : j < 8) : pIsLine (nI j) = true := by
  have : ∀ j, j < 8 → pIsLine (nI j) = true := by decide +kernel
  exact this j h
/-! what stays: a machine's own object and its log's -/
theorem setF_4 {S : St} {m g i k : Nat} {v : Int32} {m' : Nat} (hg : g < 4) : setF S m g i k v m' 4 = S m' 4 := by
  funext i' k'
  rw [setF_at, if_neg (by omega)]
theorem lpE_4 {σ : Type} {τ : Type} (f : Nat → σ → Bool × σ) (v : σ → τ) (h : ∀ k S, v (f k S).2 = v S) (n k : Nat) (S : σ) : v (lpE f n k S).2 = v S := lpE_ne f v h n k S
theorem pEndT_4 {S : St} {m g m' : Nat} (hg : g < 4) : pEndT S m g m' 4 = S m' 4 := by simp [pEndT, setF_4 hg]
theorem pRoll_4 {S : St} {m g m' : Nat} (hg : g < 4) : pRoll S m g m' 4 = S m' 4 := by
  simp only [pRoll, setF_4 hg, pEndT_4 hg]
  refine lp_ne (pRollF m g) (fun T => T m' 4) (fun k T => ?_) 8 0 S
  dsimp only [pRollF]
  split
  · exact setF_4 hg
  · rfl
theorem pNote_4 {S : St} {m g j m' : Nat} (hg : g < 4) : pNote S m g j m' 4 = S m' 4 := by
  unfold pNote
  split
  · rw [setF_4 hg]
    unfold pNoteA
    split
    · rfl
    · simp [setF_4 hg]
  · rfl
theorem pBegT_4 {S : St} {m g m' : Nat} {a : Int32} (hg : g < 4) : pBegT S m g a m' 4 = S m' 4 := by simp [pBegT, setF_4 hg]
theorem inc_r {S : St} {m k m' i : Nat} (hi : i ≠ 3) : inc S m k m' 4 i = S m' 4 i := by
  funext k'
  rw [inc, setF_at, if_neg (by omega)]
theorem set3_r {S : St} {m k m' i : Nat} {v : Int32} (hi : i ≠ 3) : setF S m 4 3 k v m' 4 i = S m' 4 i := by
  funext k'
  rw [setF_at, if_neg (by omega)]
theorem set2_r {S : St} {m k m' i : Nat} {v : Int32} (hi : i ≠ 2) : setF S m 4 2 k v m' 4 i = S m' 4 i := by
  funext k'
  rw [setF_at, if_neg (by omega)]
theorem pWB_r {S : St} {m g j m' i : Nat} (h2 : i ≠ 2) (h3 : i ≠ 3) : pWB S m g j m' 4 i = S m' 4 i := by
  rw [pWB, inc_r h3, set2_r h2]
theorem pWbeF_r {S : St} {m g j k m' i : Nat} (hk : k < 4) (h2 : i ≠ 2) (h3 : i ≠ 3) : pWbeF m g j k S m' 4 i = S m' 4 i := by
  unfold pWbeF
  split
  · rfl
  · split
    · rw [setF_4 hk, pWB_r h2 h3]
    · rfl
theorem pTakF_r {S : St} {m g j k m' i : Nat} (hk : k < 4) (h3 : i ≠ 3) : pTakF m g j k S m' 4 i = S m' 4 i := by
  unfold pTakF
  split
  · rfl
  · split
    · rfl
    · rw [inc_r h3, setF_4 hk]
theorem pWcF_r {S : St} {m g j k m' i : Nat} {w : Bool} (hg : g < 4) (hk : k < 4) (h3 : i ≠ 3) : (pWcF m g j w k S).2 m' 4 i = S m' 4 i := by
  unfold pWcF
  split
  · rfl
  · split
    · split
      · show inc (pRoll S m k) m 5 m' 4 i = _
        rw [inc_r h3, pRoll_4 hk]
      · show inc (pRoll S m g) m 5 m' 4 i = _
        rw [inc_r h3, pRoll_4 hg]
    · rfl
theorem lp_lt {σ : Type} {τ : Type} (f : Nat → σ → σ) (v : σ → τ) (N : Nat) (h : ∀ k S, k < N → v (f k S) = v S) : ∀ (n k : Nat) (S : σ), k + n ≤ N → v (lp f n k S) = v S
  | 0, _, _, _ => rfl
  | n + 1, k, S, hk => by rw [lp, lp_lt f v N h n (k + 1) (f k S) (by omega), h k S (by omega)]
theorem lpE_lt {σ : Type} {τ : Type} (f : Nat → σ → Bool × σ) (v : σ → τ) (N : Nat) (h : ∀ k S, k < N → v (f k S).2 = v S) : ∀ (n k : Nat) (S : σ), k + n ≤ N → v (lpE f n k S).2 = v S
  | 0, _, _, _ => rfl
  | n + 1, k, S, hk => by
    rw [lpE]
    split
    · rw [lpE_lt f v N h n (k + 1) (f k S).2 (by omega), h k S (by omega)]
    · exact h k S (by omega)
theorem pWbe_r {S : St} {m g j m' i : Nat} (hc : pCC S m ≤ 4) (h2 : i ≠ 2) (h3 : i ≠ 3) : pWbe S m g j m' 4 i = S m' 4 i :=
  lp_lt (pWbeF m g j) (fun T => T m' 4 i) 4 (fun k T hk => pWbeF_r hk h2 h3) _ 0 S (by omega)
theorem pTak_r {S : St} {m g j m' i n : Nat} (hc : n ≤ 4) (h3 : i ≠ 3) : lp (pTakF m g j) n 0 S m' 4 i = S m' 4 i :=
  lp_lt (pTakF m g j) (fun T => T m' 4 i) 4 (fun k T hk => pTakF_r hk h3) _ 0 S (by omega)
theorem pWc_r {S : St} {m g j m' i : Nat} {w : Bool} (hg : g < 4) (hc : pCC S m ≤ 4) (h3 : i ≠ 3) : (pWc S m g j w).2 m' 4 i = S m' 4 i :=
  lpE_lt (pWcF m g j w) (fun T => T m' 4 i) 4 (fun k T hk => pWcF_r hg hk h3) _ 0 S (by omega)
theorem pOver_r {S : St} {m g j m' i : Nat} (hg : g < 4) (hc : pCC S m ≤ 4) (h2 : i ≠ 2) (h3 : i ≠ 3) : pOver S m g j m' 4 i = S m' 4 i := by
  have e : ∀ (T : St), (T = inc S m 1 ∨ T = inc S m 2) → (setF (lp (pTakF m g j) (pCC (pWbe T m g j) m) 0 (pWbe T m g j)) m g 1 j 2) m' 4 i = S m' 4 i := by
    intro T hT
    have hTr : ∀ m1 i1, i1 ≠ 3 → T m1 4 i1 = S m1 4 i1 := by
      rintro m1 i1 h; rcases hT with rfl | rfl <;> exact inc_r h
    have hcT : pCC T m ≤ 4 := by show (T m 4 0 4).toNatClampNeg ≤ 4; rw [hTr m 0 (by decide)]; exact hc
    have hcW : pCC (pWbe T m g j) m ≤ 4 := by show ((pWbe T m g j) m 4 0 4).toNatClampNeg ≤ 4; rw [pWbe_r hcT (by decide) (by decide)]; exact hcT
    rw [setF_4 hg, pTak_r hcW h3, pWbe_r hcT h2 h3, hTr m' i h3]
  unfold pOver
  split
  · exact e _ (Or.inl rfl)
  · exact e _ (Or.inr rfl)
theorem pOwn_r {S : St} {m g j m' i : Nat} (hg : g < 4) (hc : pCC S m ≤ 4) (h2 : i ≠ 2) (h3 : i ≠ 3) : pOwn S m g j m' 4 i = S m' 4 i := by
  unfold pOwn
  split
  · split
    · split
      · rfl
      · exact pWB_r h2 h3
    · rfl
  · exact pOver_r hg hc h2 h3
set_option maxRecDepth 100000 in
set_option maxHeartbeats 4000000 in
theorem c_X2_hasCore (l : Launch) (Z : wZ) (S : St) (h : Hl) (m : Nat) (hm : m < 6) (a : Int32) : Ci l yX2_hasCore cX2_hasCore 2 .boolean 0 0 Z [.ref (zA Z (m) (4) (0)), .int (a)] S h (bI (pHasC S m a)) (S) (h) := by
  refine Ci.of rfl (bI_nar _) (Nat.le_of_ble_eq_true rfl) (fun p e s mi args below meth c A0 Q X K => ?_)
  refine j_at rfl rfl (Ls3 := [(0, .ref (zA Z (m) (4) (0))), (1, .int (a))]) rfl rfl ?_
  refine j_iload_n X dX2_hasCore_0 rfl rfl (q := 1) rfl ?_
  refine j_if_lt X dX2_hasCore_1 rfl (tgt := 21) (by decide) (fun c_1 => ?_) (fun c_1 => ?_)
  · refine j_iconst X dX2_hasCore_21 rfl (v := 0) (by decide) ?_
    exact j_ret (by first | rfl | simp [pHasC, bI, c_1]) (by first | rfl | simp [pHasC, bI, c_1]) rfl (K _ _ dX2_hasCore_22)
  · refine j_iload_n X dX2_hasCore_4 rfl rfl (q := 1) rfl ?_
    refine j_aload_n X dX2_hasCore_5 rfl rfl (q := 0) rfl ?_
    refine jg_mach X hm 4 (by decide) lk_RX2_34 rfl rfl dX2_hasCore_6 rfl ?_
    refine j_icmp_ge X dX2_hasCore_9 rfl (tgt := 21) (by decide) (fun c_9 => ?_) (fun c_9 => ?_)
    · refine j_iconst X dX2_hasCore_21 rfl (v := 0) (by decide) ?_
      exact j_ret (by first | rfl | simp [pHasC, bI, c_1, c_9]) (by first | rfl | simp [pHasC, bI, c_1, c_9]) rfl (K _ _ dX2_hasCore_22)
    · refine j_iload_n X dX2_hasCore_12 rfl rfl (q := 1) rfl ?_
      refine j_iconst X dX2_hasCore_13 rfl (v := 4) (by decide) ?_
      refine j_icmp_ge X dX2_hasCore_14 rfl (tgt := 21) (by decide) (fun c_14 => ?_) (fun c_14 => ?_)
      · refine j_iconst X dX2_hasCore_21 rfl (v := 0) (by decide) ?_
        exact j_ret (by first | rfl | simp [pHasC, bI, c_1, c_9, c_14]) (by first | rfl | simp [pHasC, bI, c_1, c_9, c_14]) rfl (K _ _ dX2_hasCore_22)
      · refine j_iconst X dX2_hasCore_17 rfl (v := 1) (by decide) ?_
        refine j_goto X (tgt := 22) dX2_hasCore_18 (by decide) ?_
        exact j_ret (by first | rfl | simp [pHasC, bI, c_1, c_9, c_14]) (by first | rfl | simp [pHasC, bI, c_1, c_9, c_14]) rfl (K _ _ dX2_hasCore_22)
set_option maxRecDepth 100000 in
set_option maxHeartbeats 4000000 in
theorem c_X2_abortsSoFar (l : Launch) (Z : wZ) (S : St) (h : Hl) (m : Nat) (hm : m < 6) : Ci l yX2_abortsSoFar cX2_abortsSoFar 1 .int 0 0 Z [.ref (zA Z (m) (4) (0))] S h (pAborts S m) (S) (h) := by
  refine Ci.of rfl rfl (Nat.le_of_ble_eq_true rfl) (fun p e s mi args below meth c A0 Q X K => ?_)
  refine j_at rfl rfl (Ls3 := [(0, .ref (zA Z (m) (4) (0)))]) rfl rfl ?_
  refine j_aload_n X dX2_abortsSoFar_0 rfl rfl (q := 0) rfl ?_
  refine jg_mach X hm 2 (by decide) lk_RX2_22 rfl rfl dX2_abortsSoFar_1 rfl ?_
  refine j_iconst X dX2_abortsSoFar_4 rfl (v := 5) (by decide) ?_
  refine j_ialdN X (k := 5) (wm_mach hm (by decide)) (wE_mach hm 3 _) (by decide) (by decide) dX2_abortsSoFar_5 rfl ?_
  refine j_aload_n X dX2_abortsSoFar_6 rfl rfl (q := 0) rfl ?_
  refine jg_mach X hm 2 (by decide) lk_RX2_22 rfl rfl dX2_abortsSoFar_7 rfl ?_
  refine j_bipush X dX2_abortsSoFar_10 rfl (v := 6) (by decide) ?_
  refine j_ialdN X (k := 6) (wm_mach hm (by decide)) (wE_mach hm 3 _) (by decide) (by decide) dX2_abortsSoFar_12 rfl ?_
  refine j_iadd X dX2_abortsSoFar_13 rfl ?_
  exact j_ret (by first | rfl | simp [pAborts]) (by first | rfl | simp [pAborts]) rfl (K _ _ dX2_abortsSoFar_14)
set_option maxRecDepth 100000 in
set_option maxHeartbeats 4000000 in
theorem L_finC (l : Launch) (Z : wZ) (h : Hl) (S : St) (m : Nat) (hm : m < 6) (cc : Nat) (hc4 : cc ≤ 4) (hI : S m 4 0 4 = nI cc) {p : Program} {e : Env} {s : State} {mi : MethodId} {args : Array Value} {below : List Frame} {meth : Method} {c : Code} {A0 : Nat → Prop} {Q : State → Prop} (X : JX p s mi args meth c cX2_finishedCores 3 yX2_finishedCores.cls Z A0) : ∀ (n k : Nat) (a : Int32), k + n = cc → J p l e { frames := 1, cells := 0, slots := 0, locals := 20 } s mi args below meth c 3 Z A0 0 0 Q (S) h [(1, .int ((lp (pFinCF S m) n k a)))] 33 [] → J p l e { frames := 1, cells := 0, slots := 0, locals := 20 } s mi args below meth c 3 Z A0 0 0 Q S h [(2, .int (nI (k))), (0, .ref (zA Z (m) (4) (0))), (1, .int (a))] 4 [] := by
  intro n
  induction n with
  | zero =>
    intro k a hkn hk
    have hkN : cc = k := by omega
    subst hkN
    refine j_iload_n X dX2_finishedCores_4 rfl rfl (q := 0) rfl ?_
    refine j_aload_n X dX2_finishedCores_5 rfl rfl (q := 1) rfl ?_
    refine jg_mach X hm 4 (by decide) lk_RX2_34 rfl rfl dX2_finishedCores_6 rfl ?_
    refine j_topeq (y := (nI (cc))) (hI) ?_
    refine j_icmp_ge_t X (tgt := 33) dX2_finishedCores_9 (by decide) (nI_le (Nat.le_refl _) (by omega)) ?_
    refine j_sub [2] (Ls2 := [(1, .int (a))]) rfl ?_
    exact hk
  | succ n ih =>
    intro k a hkn hk
    have hlt : k < cc := by omega
    refine j_iload_n X dX2_finishedCores_4 rfl rfl (q := 0) rfl ?_
    refine j_aload_n X dX2_finishedCores_5 rfl rfl (q := 1) rfl ?_
    refine jg_mach X hm 4 (by decide) lk_RX2_34 rfl rfl dX2_finishedCores_6 rfl ?_
    refine j_topeq (y := (nI (cc))) (hI) ?_
    refine j_icmp_ge_f X dX2_finishedCores_9 rfl (tgt := 33) (by decide) (nI_ge hlt (by omega)) ?_
    refine j_aload_n X dX2_finishedCores_12 rfl rfl (q := 1) rfl ?_
    refine jg_mach X hm 0 (by decide) lk_RX2_11 rfl rfl dX2_finishedCores_13 rfl ?_
    refine j_iload_n X dX2_finishedCores_16 rfl rfl (q := 0) rfl ?_
    refine j_aldCN X (g := k) hm (by omega) dX2_finishedCores_17 rfl ?_
    refine j_callNi X (c_X0_isFinished l Z S h m k hm (by omega) ) (wm_core hm (by omega) (by decide)) (wE_core hm (by omega) 0 _) rfl nk_RX2_73 mi_X0_isFinished ms_X0_isFinished ini_RX0 mc_X0_isFinished md_X0_isFinished ⟨Nat.le_of_ble_eq_true rfl, Nat.le_of_ble_eq_true rfl⟩ ⟨Nat.le_of_ble_eq_true rfl, Nat.le_of_ble_eq_true rfl⟩ rfl (Nat.le_of_ble_eq_true rfl) (as := []) (rest := []) rfl dX2_finishedCores_18 rfl ?_
    refine j_ifb_eq X dX2_finishedCores_21 rfl (tgt := 27) (by decide) (fun c_21 => ?_) (fun c_21 => ?_)
    · refine j_iinc X dX2_finishedCores_27 rfl (q := 0) rfl (v := (nI (k + 1))) (nI_1 _) (by decide) (Ls2 := [(2, .int (nI (k + 1))), (0, .ref (zA Z (m) (4) (0))), (1, .int (a))]) rfl ?_
      refine j_goto X (tgt := 4) dX2_finishedCores_30 (by decide) ?_
      refine j_sub [0, 1, 2] (Ls2 := [(2, .int (nI (k + 1))), (0, .ref (zA Z (m) (4) (0))), (1, .int (a))]) rfl ?_
      have eB : (pFinCF S m) k a = (a) := by first | rfl | simp [pFinCF, c_21]
      have eL : lp (pFinCF S m) (n + 1) k a = lp (pFinCF S m) n (k + 1) (a) := congrArg (lp (pFinCF S m) n (k + 1)) eB
      rw [eL] at hk
      exact ih (k + 1) ((a)) (by omega) hk
    · refine j_iinc X dX2_finishedCores_24 rfl (q := 2) rfl (v := ((a) + (1))) rfl (by decide) (Ls2 := [(1, .int ((a) + (1))), (2, .int (nI (k))), (0, .ref (zA Z (m) (4) (0)))]) rfl ?_
      refine j_iinc X dX2_finishedCores_27 rfl (q := 1) rfl (v := (nI (k + 1))) (nI_1 _) (by decide) (Ls2 := [(2, .int (nI (k + 1))), (1, .int ((a) + (1))), (0, .ref (zA Z (m) (4) (0)))]) rfl ?_
      refine j_goto X (tgt := 4) dX2_finishedCores_30 (by decide) ?_
      refine j_sub [0, 2, 1] (Ls2 := [(2, .int (nI (k + 1))), (0, .ref (zA Z (m) (4) (0))), (1, .int ((a) + (1)))]) rfl ?_
      have eB : (pFinCF S m) k a = ((a) + (1)) := by first | rfl | simp [pFinCF, c_21]
      have eL : lp (pFinCF S m) (n + 1) k a = lp (pFinCF S m) n (k + 1) ((a) + (1)) := congrArg (lp (pFinCF S m) n (k + 1)) eB
      rw [eL] at hk
      exact ih (k + 1) (((a) + (1))) (by omega) hk
set_option maxRecDepth 100000 in
set_option maxHeartbeats 4000000 in
theorem c_X2_finishedCores (l : Launch) (Z : wZ) (S : St) (h : Hl) (m : Nat) (hm : m < 6) (hcc : okI (S m 4 0 4) 4) : Ci l yX2_finishedCores cX2_finishedCores 3 .int 1 20 Z [.ref (zA Z (m) (4) (0))] S h (pFinC S m) (S) (h) := by
  have hc4 : pCC S m ≤ 4 := hcc.2
  refine Ci.of rfl rfl (Nat.le_of_ble_eq_true rfl) (fun p e s mi args below meth c A0 Q X K => ?_)
  refine j_at rfl rfl (Ls3 := [(0, .ref (zA Z (m) (4) (0)))]) rfl rfl ?_
  refine j_iconst X dX2_finishedCores_0 rfl (v := 0) (by decide) ?_
  refine j_istore_n X dX2_finishedCores_1 rfl rfl (by decide) (Ls2 := [(1, .int (0)), (0, .ref (zA Z (m) (4) (0)))]) rfl ?_
  refine j_iconst X dX2_finishedCores_2 rfl (v := 0) (by decide) ?_
  refine j_istore_n X dX2_finishedCores_3 rfl rfl (by decide) (Ls2 := [(2, .int (0)), (1, .int (0)), (0, .ref (zA Z (m) (4) (0)))]) rfl ?_
  refine j_sub [0, 2, 1] (Ls2 := [(2, .int (0)), (0, .ref (zA Z (m) (4) (0))), (1, .int (0))]) rfl ?_
  refine L_finC l Z h S m hm (pCC S m) hcc.2 hcc.1 X (pCC S m) 0 ((0)) (by omega) ?_
  refine j_iload_n X dX2_finishedCores_33 rfl rfl (q := 0) rfl ?_
  exact j_ret (by first | rfl | simp [pFinC]) (by first | rfl | simp [pFinC]) rfl (K _ _ dX2_finishedCores_34)
set_option maxRecDepth 100000 in
set_option maxHeartbeats 4000000 in
theorem L_com (l : Launch) (Z : wZ) (h : Hl) (S : St) (m : Nat) (hm : m < 6) (cc : Nat) (hc4 : cc ≤ 4) (hI : S m 4 0 4 = nI cc) (j : Nat) (hj : j < 8) {p : Program} {e : Env} {s : State} {mi : MethodId} {args : Array Value} {below : List Frame} {meth : Method} {c : Code} {A0 : Nat → Prop} {Q : State → Prop} (X : JX p s mi args meth c cX2_committedValue 4 yX2_committedValue.cls Z A0) : ∀ (n k : Nat) (r : Int32), k + n = cc → ((lpE (pComF S m j) n k r).1 = true → J p l e { frames := 1, cells := 0, slots := 0, locals := 21 } s mi args below meth c 4 Z A0 0 0 Q (S) h [(0, .ref (zA Z (m) (4) (0))), (1, .int (nI (j)))] 51 []) → ((lpE (pComF S m j) n k r).1 = false → J p l e { frames := 1, cells := 0, slots := 0, locals := 21 } s mi args below meth c 4 Z A0 0 0 Q (S) h [] 44 [.int ((lpE (pComF S m j) n k r).2)]) → J p l e { frames := 1, cells := 0, slots := 0, locals := 21 } s mi args below meth c 4 Z A0 0 0 Q S h [(2, .int (nI (k))), (0, .ref (zA Z (m) (4) (0))), (1, .int (nI (j)))] 2 [] := by
  intro n
  induction n with
  | zero =>
    intro k r hkn hT hF
    have hkN : cc = k := by omega
    subst hkN
    refine j_iload_n X dX2_committedValue_2 rfl rfl (q := 0) rfl ?_
    refine j_aload_n X dX2_committedValue_3 rfl rfl (q := 1) rfl ?_
    refine jg_mach X hm 4 (by decide) lk_RX2_34 rfl rfl dX2_committedValue_4 rfl ?_
    refine j_topeq (y := (nI (cc))) (hI) ?_
    refine j_icmp_ge_t X (tgt := 51) dX2_committedValue_7 (by decide) (nI_le (Nat.le_refl _) (by omega)) ?_
    refine j_sub [1, 2] (Ls2 := [(0, .ref (zA Z (m) (4) (0))), (1, .int (nI (j)))]) rfl ?_
    exact hT rfl
  | succ n ih =>
    intro k r hkn hT hF
    have hlt : k < cc := by omega
    refine j_iload_n X dX2_committedValue_2 rfl rfl (q := 0) rfl ?_
    refine j_aload_n X dX2_committedValue_3 rfl rfl (q := 1) rfl ?_
    refine jg_mach X hm 4 (by decide) lk_RX2_34 rfl rfl dX2_committedValue_4 rfl ?_
    refine j_topeq (y := (nI (cc))) (hI) ?_
    refine j_icmp_ge_f X dX2_committedValue_7 rfl (tgt := 51) (by decide) (nI_ge hlt (by omega)) ?_
    refine j_aload_n X dX2_committedValue_10 rfl rfl (q := 1) rfl ?_
    refine jg_mach X hm 0 (by decide) lk_RX2_11 rfl rfl dX2_committedValue_11 rfl ?_
    refine j_iload_n X dX2_committedValue_14 rfl rfl (q := 0) rfl ?_
    refine j_aldCN X (g := k) hm (by omega) dX2_committedValue_15 rfl ?_
    refine j_astore_n X dX2_committedValue_16 rfl rfl (by decide) (Ls2 := [(3, .ref (zA Z (m) (k) (0))), (2, .int (nI (k))), (0, .ref (zA Z (m) (4) (0))), (1, .int (nI (j)))]) rfl ?_
    refine j_aload_n X dX2_committedValue_17 rfl rfl (q := 0) rfl ?_
    refine jgN_core X hm (by omega) 0 (by decide) nk_RX2_77 rfl rfl dX2_committedValue_18 rfl ?_
    refine j_iload_n X dX2_committedValue_21 rfl rfl (q := 3) rfl ?_
    refine j_ialdN X (k := j) (wm_core hm (by omega) (by decide)) (wE_core hm (by omega) 1 _) hj (by decide) dX2_committedValue_22 rfl ?_
    refine j_iconst X dX2_committedValue_23 rfl (v := 2) (by decide) ?_
    refine j_icmp_ne X dX2_committedValue_24 rfl (tgt := 45) (by decide) (fun c_24 => ?_) (fun c_24 => ?_)
    · refine j_iinc X dX2_committedValue_45 rfl (q := 1) rfl (v := (nI (k + 1))) (nI_1 _) (by decide) (Ls2 := [(2, .int (nI (k + 1))), (3, .ref (zA Z (m) (k) (0))), (0, .ref (zA Z (m) (4) (0))), (1, .int (nI (j)))]) rfl ?_
      refine j_goto X (tgt := 2) dX2_committedValue_48 (by decide) ?_
      refine j_sub [0, 2, 3] (Ls2 := [(2, .int (nI (k + 1))), (0, .ref (zA Z (m) (4) (0))), (1, .int (nI (j)))]) rfl ?_
      have eB : (pComF S m j) k r = (true, r) := by first | rfl | simp [pComF, c_24]
      have eL : lpE (pComF S m j) (n + 1) k r = lpE (pComF S m j) n (k + 1) r := by rw [lpE, eB]; rfl
      rw [eL] at hT hF
      exact ih (k + 1) r (by omega) hT hF
    · refine j_aload_n X dX2_committedValue_27 rfl rfl (q := 0) rfl ?_
      refine jgN_core X hm (by omega) 10 (by decide) nk_RX2_80 rfl rfl dX2_committedValue_28 rfl ?_
      refine j_iload_n X dX2_committedValue_31 rfl rfl (q := 3) rfl ?_
      refine j_callSNi X (c_X5_contains l Z S h (S m k 0 10) (nI (j))) nk_RX2_83 mt_X5_contains ini_RX5 mc_X5_contains md_X5_contains ⟨Nat.le_of_ble_eq_true rfl, Nat.le_of_ble_eq_true rfl⟩ ⟨Nat.le_of_ble_eq_true rfl, Nat.le_of_ble_eq_true rfl⟩ rfl (Nat.le_of_ble_eq_true rfl) (as := [.int (S m k 0 10), .int (nI (j))]) (rest := []) rfl dX2_committedValue_32 rfl ?_
      refine j_ifb_ne X dX2_committedValue_35 rfl (tgt := 45) (by decide) (fun c_35 => ?_) (fun c_35 => ?_)
      · refine j_iinc X dX2_committedValue_45 rfl (q := 1) rfl (v := (nI (k + 1))) (nI_1 _) (by decide) (Ls2 := [(2, .int (nI (k + 1))), (3, .ref (zA Z (m) (k) (0))), (0, .ref (zA Z (m) (4) (0))), (1, .int (nI (j)))]) rfl ?_
        refine j_goto X (tgt := 2) dX2_committedValue_48 (by decide) ?_
        refine j_sub [0, 2, 3] (Ls2 := [(2, .int (nI (k + 1))), (0, .ref (zA Z (m) (4) (0))), (1, .int (nI (j)))]) rfl ?_
        have eB : (pComF S m j) k r = (true, r) := by first | rfl | simp [pComF, c_24, c_35]
        have eL : lpE (pComF S m j) (n + 1) k r = lpE (pComF S m j) n (k + 1) r := by rw [lpE, eB]; rfl
        rw [eL] at hT hF
        exact ih (k + 1) r (by omega) hT hF
      · refine j_aload_n X dX2_committedValue_38 rfl rfl (q := 0) rfl ?_
        refine jgN_core X hm (by omega) 1 (by decide) nk_RX2_87 rfl rfl dX2_committedValue_39 rfl ?_
        refine j_iload_n X dX2_committedValue_42 rfl rfl (q := 3) rfl ?_
        refine j_ialdN X (k := j) (wm_core hm (by omega) (by decide)) (wE_core hm (by omega) 2 _) hj (by decide) dX2_committedValue_43 rfl ?_
        have eB : (pComF S m j) k r = (false, (S m k 2 j)) := by first | rfl | simp [pComF, c_24, c_35]
        have eL : lpE (pComF S m j) (n + 1) k r = (false, (S m k 2 j)) := by rw [lpE, eB]; rfl
        rw [eL] at hF
        refine j_sub [] (Ls2 := []) rfl ?_
        exact hF rfl
set_option maxRecDepth 100000 in
set_option maxHeartbeats 4000000 in
theorem c_X2_committedValue (l : Launch) (Z : wZ) (S : St) (h : Hl) (m : Nat) (hm : m < 6) (hcc : okI (S m 4 0 4) 4) (j : Nat) (hj : j < 8) : Ci l yX2_committedValue cX2_committedValue 4 .int 1 21 Z [.ref (zA Z (m) (4) (0)), .int (nI (j))] S h (pCom S m j) (S) (h) := by
  have hc4 : pCC S m ≤ 4 := hcc.2
  refine Ci.of rfl rfl (Nat.le_of_ble_eq_true rfl) (fun p e s mi args below meth c A0 Q X K => ?_)
  refine j_at rfl rfl (Ls3 := [(0, .ref (zA Z (m) (4) (0))), (1, .int (nI (j)))]) rfl rfl ?_
  refine j_iconst X dX2_committedValue_0 rfl (v := 0) (by decide) ?_
  refine j_istore_n X dX2_committedValue_1 rfl rfl (by decide) (Ls2 := [(2, .int (0)), (0, .ref (zA Z (m) (4) (0))), (1, .int (nI (j)))]) rfl ?_
  refine j_sub [0, 1, 2] (Ls2 := [(2, .int (0)), (0, .ref (zA Z (m) (4) (0))), (1, .int (nI (j)))]) rfl ?_
  refine L_com l Z h S m hm (pCC S m) hcc.2 hcc.1 j hj X (pCC S m) 0 0 (by omega) (fun hb1 => ?_) (fun hb1 => ?_)
  · refine j_aload_n X dX2_committedValue_51 rfl rfl (q := 0) rfl ?_
    refine jg_mach X hm 1 (by decide) lk_RX2_18 rfl rfl dX2_committedValue_52 rfl ?_
    refine j_iload_n X dX2_committedValue_55 rfl rfl (q := 1) rfl ?_
    refine j_ialdN X (k := j) (wm_mach hm (by decide)) (wE_mach hm 2 _) hj (by decide) dX2_committedValue_56 rfl ?_
    exact j_ret (by first | rfl | simp [pCom, hb1]) (by first | rfl | simp [pCom, hb1]) rfl (K _ _ dX2_committedValue_57)
  · exact j_ret (by first | rfl | simp [pCom, hb1]) (by first | rfl | simp [pCom, hb1]) rfl (K _ _ dX2_committedValue_44)
set_option maxRecDepth 100000 in
set_option maxHeartbeats 4000000 in
theorem c_X2_writeBack (l : Launch) (Z : wZ) (S : St) (h : Hl) (m g : Nat) (hm : m < 6) (hg : g < 4) (j : Nat) (hj : j < 8) : Cv l yX2_writeBack cX2_writeBack 3 0 0 Z [.ref (zA Z (m) (4) (0)), .ref (zA Z (m) (g) (0)), .int (nI (j))] S h (pWB S m g j) (h) := by
  refine Cv.of rfl (Nat.le_of_ble_eq_true rfl) (fun p e s mi args below meth c A0 Q X K => ?_)
  refine j_at rfl rfl (Ls3 := [(0, .ref (zA Z (m) (4) (0))), (1, .ref (zA Z (m) (g) (0))), (2, .int (nI (j)))]) rfl rfl ?_
  refine j_aload_n X dX2_writeBack_0 rfl rfl (q := 0) rfl ?_
  refine jg_mach X hm 1 (by decide) lk_RX2_18 rfl rfl dX2_writeBack_1 rfl ?_
  refine j_iload_n X dX2_writeBack_4 rfl rfl (q := 2) rfl ?_
  refine j_aload_n X dX2_writeBack_5 rfl rfl (q := 1) rfl ?_
  refine jgN_core X hm hg 1 (by decide) nk_RX2_87 rfl rfl dX2_writeBack_6 rfl ?_
  refine j_iload_n X dX2_writeBack_9 rfl rfl (q := 2) rfl ?_
  refine j_ialdN X (k := j) (wm_core hm hg (by decide)) (wE_core hm hg 2 _) hj (by decide) dX2_writeBack_10 rfl ?_
  refine j_iastN X (k := j) (wm_mach hm (by decide)) (fun r => wE_mach hm 2 r) hj (by decide) dX2_writeBack_11 rfl ?_
  refine j_name (fun S1 eS1 => ?_)
  refine j_aload_n X dX2_writeBack_12 rfl rfl (q := 0) rfl ?_
  refine jg_mach X hm 2 (by decide) lk_RX2_22 rfl rfl dX2_writeBack_13 rfl ?_
  refine j_iconst X dX2_writeBack_16 rfl (v := 4) (by decide) ?_
  refine j_dup2 X dX2_writeBack_17 rfl rfl rfl ?_
  refine j_ialdN X (k := 4) (wm_mach hm (by decide)) (wE_mach hm 3 _) (by decide) (by decide) dX2_writeBack_18 rfl ?_
  refine j_iconst X dX2_writeBack_19 rfl (v := 1) (by decide) ?_
  refine j_iadd X dX2_writeBack_20 rfl ?_
  refine j_iastN X (k := 4) (wm_mach hm (by decide)) (fun r => wE_mach hm 3 r) (by decide) (by decide) dX2_writeBack_21 rfl ?_
  refine j_name (fun S2 eS2 => ?_)
  exact j_at (by subst eS1; subst eS2; first | rfl | simp [pWB, inc]) rfl rfl rfl (K _ _ dX2_writeBack_22)
set_option maxRecDepth 100000 in
set_option maxHeartbeats 4000000 in
theorem L_wbe (l : Launch) (Z : wZ) (h : Hl) (m g : Nat) (hm : m < 6) (hg : g < 4) (j : Nat) (hj : j < 8) (cc : Nat) (hc4 : cc ≤ 4) {p : Program} {e : Env} {s : State} {mi : MethodId} {args : Array Value} {below : List Frame} {meth : Method} {c : Code} {A0 : Nat → Prop} {Q : State → Prop} (X : JX p s mi args meth c cX2_writeBackElsewhere 4 yX2_writeBackElsewhere.cls Z A0) : ∀ (n k : Nat) (S : St), k + n = cc → S m 4 0 4 = nI cc → J p l e { frames := 1, cells := 0, slots := 0, locals := 22 } s mi args below meth c 4 Z A0 0 0 Q ((lp (pWbeF m g j) n k S)) h [] 59 [] → J p l e { frames := 1, cells := 0, slots := 0, locals := 22 } s mi args below meth c 4 Z A0 0 0 Q S h [(3, .int (nI (k))), (0, .ref (zA Z (m) (4) (0))), (1, .int (nI (g))), (2, .int (nI (j)))] 2 [] := by
  intro n
  induction n with
  | zero =>
    intro k S hkn hI hk
    have hkN : cc = k := by omega
    subst hkN
    refine j_iload_n X dX2_writeBackElsewhere_2 rfl rfl (q := 0) rfl ?_
    refine j_aload_n X dX2_writeBackElsewhere_3 rfl rfl (q := 1) rfl ?_
    refine jg_mach X hm 4 (by decide) lk_RX2_34 rfl rfl dX2_writeBackElsewhere_4 rfl ?_
    refine j_topeq (y := (nI (cc))) (hI) ?_
    refine j_icmp_ge_t X (tgt := 59) dX2_writeBackElsewhere_7 (by decide) (nI_le (Nat.le_refl _) (by omega)) ?_
    refine j_sub [] (Ls2 := []) rfl ?_
    exact hk
  | succ n ih =>
    intro k S hkn hI hk
    have hlt : k < cc := by omega
    refine j_iload_n X dX2_writeBackElsewhere_2 rfl rfl (q := 0) rfl ?_
    refine j_aload_n X dX2_writeBackElsewhere_3 rfl rfl (q := 1) rfl ?_
    refine jg_mach X hm 4 (by decide) lk_RX2_34 rfl rfl dX2_writeBackElsewhere_4 rfl ?_
    refine j_topeq (y := (nI (cc))) (hI) ?_
    refine j_icmp_ge_f X dX2_writeBackElsewhere_7 rfl (tgt := 59) (by decide) (nI_ge hlt (by omega)) ?_
    refine j_iload_n X dX2_writeBackElsewhere_10 rfl rfl (q := 0) rfl ?_
    refine j_iload_n X dX2_writeBackElsewhere_11 rfl rfl (q := 2) rfl ?_
    refine j_icmpN_eq X (a := k) (b := g) (by omega) (by omega) dX2_writeBackElsewhere_12 rfl (tgt := 53) (by decide) (fun c_12 => ?_) (fun c_12 => ?_)
    · refine j_iinc X dX2_writeBackElsewhere_53 rfl (q := 0) rfl (v := (nI (k + 1))) (nI_1 _) (by decide) (Ls2 := [(3, .int (nI (k + 1))), (0, .ref (zA Z (m) (4) (0))), (1, .int (nI (g))), (2, .int (nI (j)))]) rfl ?_
      refine j_goto X (tgt := 2) dX2_writeBackElsewhere_56 (by decide) ?_
      have eB : (pWbeF m g j) k S = S := by first | rfl | simp [pWbeF, c_12]
      have eL : lp (pWbeF m g j) (n + 1) k S = lp (pWbeF m g j) n (k + 1) S := congrArg (lp (pWbeF m g j) n (k + 1)) eB
      rw [eL] at hk
      exact ih (k + 1) S (by omega) (by rw [← eB, pWbeF_r (by omega) (by decide) (by decide)]; exact hI) hk
    · refine j_aload_n X dX2_writeBackElsewhere_15 rfl rfl (q := 1) rfl ?_
      refine jg_mach X hm 0 (by decide) lk_RX2_11 rfl rfl dX2_writeBackElsewhere_16 rfl ?_
      refine j_iload_n X dX2_writeBackElsewhere_19 rfl rfl (q := 0) rfl ?_
      refine j_aldCN X (g := k) hm (by omega) dX2_writeBackElsewhere_20 rfl ?_
      refine jgN_core X hm (by omega) 0 (by decide) nk_RX2_77 rfl rfl dX2_writeBackElsewhere_21 rfl ?_
      refine j_iload_n X dX2_writeBackElsewhere_24 rfl rfl (q := 3) rfl ?_
      refine j_ialdN X (k := j) (wm_core hm (by omega) (by decide)) (wE_core hm (by omega) 1 _) hj (by decide) dX2_writeBackElsewhere_25 rfl ?_
      refine j_iconst X dX2_writeBackElsewhere_26 rfl (v := 2) (by decide) ?_
      refine j_icmp_ne X dX2_writeBackElsewhere_27 rfl (tgt := 53) (by decide) (fun c_27 => ?_) (fun c_27 => ?_)
      · refine j_iinc X dX2_writeBackElsewhere_53 rfl (q := 0) rfl (v := (nI (k + 1))) (nI_1 _) (by decide) (Ls2 := [(3, .int (nI (k + 1))), (0, .ref (zA Z (m) (4) (0))), (1, .int (nI (g))), (2, .int (nI (j)))]) rfl ?_
        refine j_goto X (tgt := 2) dX2_writeBackElsewhere_56 (by decide) ?_
        have eB : (pWbeF m g j) k S = S := by first | rfl | simp [pWbeF, c_12, c_27]
        have eL : lp (pWbeF m g j) (n + 1) k S = lp (pWbeF m g j) n (k + 1) S := congrArg (lp (pWbeF m g j) n (k + 1)) eB
        rw [eL] at hk
        exact ih (k + 1) S (by omega) (by rw [← eB, pWbeF_r (by omega) (by decide) (by decide)]; exact hI) hk
      · refine j_aload_n X dX2_writeBackElsewhere_30 rfl rfl (q := 1) rfl ?_
        refine j_aload_n X dX2_writeBackElsewhere_31 rfl rfl (q := 1) rfl ?_
        refine jg_mach X hm 0 (by decide) lk_RX2_11 rfl rfl dX2_writeBackElsewhere_32 rfl ?_
        refine j_iload_n X dX2_writeBackElsewhere_35 rfl rfl (q := 0) rfl ?_
        refine j_aldCN X (g := k) hm (by omega) dX2_writeBackElsewhere_36 rfl ?_
        refine j_iload_n X dX2_writeBackElsewhere_37 rfl rfl (q := 3) rfl ?_
        refine j_callv X (c_X2_writeBack l Z S h m k hm (by omega) j hj) (wm_mach hm (by decide)) (wE_mach hm 0 _) rfl lk_RX2_183 mi_X2_writeBack ms_X2_writeBack ini_RX2 mc_X2_writeBack md_X2_writeBack ⟨Nat.le_of_ble_eq_true rfl, Nat.le_of_ble_eq_true rfl⟩ ⟨Nat.le_of_ble_eq_true rfl, Nat.le_of_ble_eq_true rfl⟩ rfl (Nat.le_of_ble_eq_true rfl) (as := [.ref (zA Z (m) (k) (0)), .int (nI (j))]) (rest := []) rfl dX2_writeBackElsewhere_38 rfl ?_
        refine j_name (fun S1 eS1 => ?_)
        refine j_aload_n X dX2_writeBackElsewhere_41 rfl rfl (q := 1) rfl ?_
        refine jg_mach X hm 0 (by decide) lk_RX2_11 rfl rfl dX2_writeBackElsewhere_42 rfl ?_
        refine j_iload_n X dX2_writeBackElsewhere_45 rfl rfl (q := 0) rfl ?_
        refine j_aldCN X (g := k) hm (by omega) dX2_writeBackElsewhere_46 rfl ?_
        refine jgN_core X hm (by omega) 0 (by decide) nk_RX2_77 rfl rfl dX2_writeBackElsewhere_47 rfl ?_
        refine j_iload_n X dX2_writeBackElsewhere_50 rfl rfl (q := 3) rfl ?_
        refine j_iconst X dX2_writeBackElsewhere_51 rfl (v := 1) (by decide) ?_
        refine j_iastN X (k := j) (wm_core hm (by omega) (by decide)) (fun r => wE_core hm (by omega) 1 r) hj (by decide) dX2_writeBackElsewhere_52 rfl ?_
        refine j_name (fun S2 eS2 => ?_)
        refine j_iinc X dX2_writeBackElsewhere_53 rfl (q := 0) rfl (v := (nI (k + 1))) (nI_1 _) (by decide) (Ls2 := [(3, .int (nI (k + 1))), (0, .ref (zA Z (m) (4) (0))), (1, .int (nI (g))), (2, .int (nI (j)))]) rfl ?_
        refine j_goto X (tgt := 2) dX2_writeBackElsewhere_56 (by decide) ?_
        have eB : (pWbeF m g j) k S = S2 := by subst eS1; subst eS2; first | rfl | simp [pWbeF, c_12, c_27]
        have eL : lp (pWbeF m g j) (n + 1) k S = lp (pWbeF m g j) n (k + 1) S2 := congrArg (lp (pWbeF m g j) n (k + 1)) eB
        rw [eL] at hk
        exact ih (k + 1) S2 (by omega) (by subst eS1; subst eS2; rw [← eB, pWbeF_r (by omega) (by decide) (by decide)]; exact hI) hk
set_option maxRecDepth 100000 in
set_option maxHeartbeats 4000000 in
theorem c_X2_writeBackElsewhere (l : Launch) (Z : wZ) (S : St) (h : Hl) (m g : Nat) (hm : m < 6) (hg : g < 4) (j : Nat) (hj : j < 8) (hcc : okI (S m 4 0 4) 4) : Cv l yX2_writeBackElsewhere cX2_writeBackElsewhere 4 1 22 Z [.ref (zA Z (m) (4) (0)), .int (nI (g)), .int (nI (j))] S h (pWbe S m g j) (h) := by
  have hc4 : pCC S m ≤ 4 := hcc.2
  refine Cv.of rfl (Nat.le_of_ble_eq_true rfl) (fun p e s mi args below meth c A0 Q X K => ?_)
  refine j_at rfl rfl (Ls3 := [(0, .ref (zA Z (m) (4) (0))), (1, .int (nI (g))), (2, .int (nI (j)))]) rfl rfl ?_
  refine j_iconst X dX2_writeBackElsewhere_0 rfl (v := 0) (by decide) ?_
  refine j_istore_n X dX2_writeBackElsewhere_1 rfl rfl (by decide) (Ls2 := [(3, .int (0)), (0, .ref (zA Z (m) (4) (0))), (1, .int (nI (g))), (2, .int (nI (j)))]) rfl ?_
  refine j_sub [0, 1, 2, 3] (Ls2 := [(3, .int (0)), (0, .ref (zA Z (m) (4) (0))), (1, .int (nI (g))), (2, .int (nI (j)))]) rfl ?_
  refine L_wbe l Z h m g hm hg j hj (pCC S m) hcc.2 X (pCC S m) 0 S (by omega) (by exact hcc.1) ?_
  refine j_name (fun S1 eS1 => ?_)
  exact j_at (by subst eS1; first | rfl | simp [pWbe]) rfl rfl rfl (K _ _ dX2_writeBackElsewhere_59)
set_option maxRecDepth 100000 in
set_option maxHeartbeats 4000000 in
theorem L_over (l : Launch) (Z : wZ) (h : Hl) (m g : Nat) (hm : m < 6) (hg : g < 4) (j : Nat) (hj : j < 8) (cc : Nat) (hc4 : cc ≤ 4) {p : Program} {e : Env} {s : State} {mi : MethodId} {args : Array Value} {below : List Frame} {meth : Method} {c : Code} {A0 : Nat → Prop} {Q : State → Prop} (X : JX p s mi args meth c cX2_takeOver 5 yX2_takeOver.cls Z A0) : ∀ (n k : Nat) (S : St), k + n = cc → S m 4 0 4 = nI cc → J p l e { frames := 2, cells := 0, slots := 0, locals := 45 } s mi args below meth c 5 Z A0 0 0 Q ((lp (pTakF m g j) n k S)) h [(3, .ref (zA Z (m) (g) (0))), (2, .int (nI (j)))] 98 [] → J p l e { frames := 2, cells := 0, slots := 0, locals := 45 } s mi args below meth c 5 Z A0 0 0 Q S h [(4, .int (nI (k))), (0, .ref (zA Z (m) (4) (0))), (1, .int (nI (g))), (2, .int (nI (j))), (3, .ref (zA Z (m) (g) (0)))] 39 [] := by
  intro n
  induction n with
  | zero =>
    intro k S hkn hI hk
    have hkN : cc = k := by omega
    subst hkN
    refine j_iload X dX2_takeOver_39 rfl (q := 0) rfl ?_
    refine j_aload_n X dX2_takeOver_41 rfl rfl (q := 1) rfl ?_
    refine jg_mach X hm 4 (by decide) lk_RX2_34 rfl rfl dX2_takeOver_42 rfl ?_
    refine j_topeq (y := (nI (cc))) (hI) ?_
    refine j_icmp_ge_t X (tgt := 98) dX2_takeOver_45 (by decide) (nI_le (Nat.le_refl _) (by omega)) ?_
    refine j_sub [4, 3] (Ls2 := [(3, .ref (zA Z (m) (g) (0))), (2, .int (nI (j)))]) rfl ?_
    exact hk
  | succ n ih =>
    intro k S hkn hI hk
    have hlt : k < cc := by omega
    refine j_iload X dX2_takeOver_39 rfl (q := 0) rfl ?_
    refine j_aload_n X dX2_takeOver_41 rfl rfl (q := 1) rfl ?_
    refine jg_mach X hm 4 (by decide) lk_RX2_34 rfl rfl dX2_takeOver_42 rfl ?_
    refine j_topeq (y := (nI (cc))) (hI) ?_
    refine j_icmp_ge_f X dX2_takeOver_45 rfl (tgt := 98) (by decide) (nI_ge hlt (by omega)) ?_
    refine j_iload X dX2_takeOver_48 rfl (q := 0) rfl ?_
    refine j_iload_n X dX2_takeOver_50 rfl rfl (q := 2) rfl ?_
    refine j_icmpN_eq X (a := k) (b := g) (by omega) (by omega) dX2_takeOver_51 rfl (tgt := 92) (by decide) (fun c_51 => ?_) (fun c_51 => ?_)
    · refine j_iinc X dX2_takeOver_92 rfl (q := 0) rfl (v := (nI (k + 1))) (nI_1 _) (by decide) (Ls2 := [(4, .int (nI (k + 1))), (0, .ref (zA Z (m) (4) (0))), (1, .int (nI (g))), (2, .int (nI (j))), (3, .ref (zA Z (m) (g) (0)))]) rfl ?_
      refine j_goto X (tgt := 39) dX2_takeOver_95 (by decide) ?_
      have eB : (pTakF m g j) k S = S := by first | rfl | simp [pTakF, inc, c_51]
      have eL : lp (pTakF m g j) (n + 1) k S = lp (pTakF m g j) n (k + 1) S := congrArg (lp (pTakF m g j) n (k + 1)) eB
      rw [eL] at hk
      exact ih (k + 1) S (by omega) (by rw [← eB, pTakF_r (by omega) (by decide)]; exact hI) hk
    · refine j_aload_n X dX2_takeOver_54 rfl rfl (q := 1) rfl ?_
      refine jg_mach X hm 0 (by decide) lk_RX2_11 rfl rfl dX2_takeOver_55 rfl ?_
      refine j_iload X dX2_takeOver_58 rfl (q := 0) rfl ?_
      refine j_aldCN X (g := k) hm (by omega) dX2_takeOver_60 rfl ?_
      refine jgN_core X hm (by omega) 0 (by decide) nk_RX2_77 rfl rfl dX2_takeOver_61 rfl ?_
      refine j_iload_n X dX2_takeOver_64 rfl rfl (q := 3) rfl ?_
      refine j_ialdN X (k := j) (wm_core hm (by omega) (by decide)) (wE_core hm (by omega) 1 _) hj (by decide) dX2_takeOver_65 rfl ?_
      refine j_if_eq X dX2_takeOver_66 rfl (tgt := 92) (by decide) (fun c_66 => ?_) (fun c_66 => ?_)
      · refine j_iinc X dX2_takeOver_92 rfl (q := 0) rfl (v := (nI (k + 1))) (nI_1 _) (by decide) (Ls2 := [(4, .int (nI (k + 1))), (0, .ref (zA Z (m) (4) (0))), (1, .int (nI (g))), (2, .int (nI (j))), (3, .ref (zA Z (m) (g) (0)))]) rfl ?_
        refine j_goto X (tgt := 39) dX2_takeOver_95 (by decide) ?_
        have eB : (pTakF m g j) k S = S := by first | rfl | simp [pTakF, inc, c_51, c_66]
        have eL : lp (pTakF m g j) (n + 1) k S = lp (pTakF m g j) n (k + 1) S := congrArg (lp (pTakF m g j) n (k + 1)) eB
        rw [eL] at hk
        exact ih (k + 1) S (by omega) (by rw [← eB, pTakF_r (by omega) (by decide)]; exact hI) hk
      · refine j_aload_n X dX2_takeOver_69 rfl rfl (q := 1) rfl ?_
        refine jg_mach X hm 0 (by decide) lk_RX2_11 rfl rfl dX2_takeOver_70 rfl ?_
        refine j_iload X dX2_takeOver_73 rfl (q := 0) rfl ?_
        refine j_aldCN X (g := k) hm (by omega) dX2_takeOver_75 rfl ?_
        refine jgN_core X hm (by omega) 0 (by decide) nk_RX2_77 rfl rfl dX2_takeOver_76 rfl ?_
        refine j_iload_n X dX2_takeOver_79 rfl rfl (q := 3) rfl ?_
        refine j_iconst X dX2_takeOver_80 rfl (v := 0) (by decide) ?_
        refine j_iastN X (k := j) (wm_core hm (by omega) (by decide)) (fun r => wE_core hm (by omega) 1 r) hj (by decide) dX2_takeOver_81 rfl ?_
        refine j_name (fun S1 eS1 => ?_)
        refine j_aload_n X dX2_takeOver_82 rfl rfl (q := 1) rfl ?_
        refine jg_mach X hm 2 (by decide) lk_RX2_22 rfl rfl dX2_takeOver_83 rfl ?_
        refine j_iconst X dX2_takeOver_86 rfl (v := 3) (by decide) ?_
        refine j_dup2 X dX2_takeOver_87 rfl rfl rfl ?_
        refine j_ialdN X (k := 3) (wm_mach hm (by decide)) (wE_mach hm 3 _) (by decide) (by decide) dX2_takeOver_88 rfl ?_
        refine j_iconst X dX2_takeOver_89 rfl (v := 1) (by decide) ?_
        refine j_iadd X dX2_takeOver_90 rfl ?_
        refine j_iastN X (k := 3) (wm_mach hm (by decide)) (fun r => wE_mach hm 3 r) (by decide) (by decide) dX2_takeOver_91 rfl ?_
        refine j_name (fun S2 eS2 => ?_)
        refine j_iinc X dX2_takeOver_92 rfl (q := 0) rfl (v := (nI (k + 1))) (nI_1 _) (by decide) (Ls2 := [(4, .int (nI (k + 1))), (0, .ref (zA Z (m) (4) (0))), (1, .int (nI (g))), (2, .int (nI (j))), (3, .ref (zA Z (m) (g) (0)))]) rfl ?_
        refine j_goto X (tgt := 39) dX2_takeOver_95 (by decide) ?_
        have eB : (pTakF m g j) k S = S2 := by subst eS1; subst eS2; first | rfl | simp [pTakF, inc, c_51, c_66]
        have eL : lp (pTakF m g j) (n + 1) k S = lp (pTakF m g j) n (k + 1) S2 := congrArg (lp (pTakF m g j) n (k + 1)) eB
        rw [eL] at hk
        exact ih (k + 1) S2 (by omega) (by subst eS1; subst eS2; rw [← eB, pTakF_r (by omega) (by decide)]; exact hI) hk
set_option maxRecDepth 100000 in
set_option maxHeartbeats 4000000 in
theorem c_X2_takeOver (l : Launch) (Z : wZ) (S : St) (h : Hl) (m g : Nat) (hm : m < 6) (hg : g < 4) (j : Nat) (hj : j < 8) (hcc : okI (S m 4 0 4) 4) : Cv l yX2_takeOver cX2_takeOver 5 2 45 Z [.ref (zA Z (m) (4) (0)), .int (nI (g)), .int (nI (j))] S h (pOver S m g j) (h) := by
  have hc4 : pCC S m ≤ 4 := hcc.2
  refine Cv.of rfl (Nat.le_of_ble_eq_true rfl) (fun p e s mi args below meth c A0 Q X K => ?_)
  refine j_at rfl rfl (Ls3 := [(0, .ref (zA Z (m) (4) (0))), (1, .int (nI (g))), (2, .int (nI (j)))]) rfl rfl ?_
  refine j_aload_n X dX2_takeOver_0 rfl rfl (q := 0) rfl ?_
  refine jg_mach X hm 0 (by decide) lk_RX2_11 rfl rfl dX2_takeOver_1 rfl ?_
  refine j_iload_n X dX2_takeOver_4 rfl rfl (q := 1) rfl ?_
  refine j_aldCN X (g := g) hm hg dX2_takeOver_5 rfl ?_
  refine j_astore_n X dX2_takeOver_6 rfl rfl (by decide) (Ls2 := [(3, .ref (zA Z (m) (g) (0))), (0, .ref (zA Z (m) (4) (0))), (1, .int (nI (g))), (2, .int (nI (j)))]) rfl ?_
  refine j_aload_n X dX2_takeOver_7 rfl rfl (q := 1) rfl ?_
  refine jg_mach X hm 2 (by decide) lk_RX2_22 rfl rfl dX2_takeOver_8 rfl ?_
  refine j_aload_n X dX2_takeOver_11 rfl rfl (q := 0) rfl ?_
  refine jgN_core X hm hg 0 (by decide) nk_RX2_77 rfl rfl dX2_takeOver_12 rfl ?_
  refine j_iload_n X dX2_takeOver_15 rfl rfl (q := 3) rfl ?_
  refine j_ialdN X (k := j) (wm_core hm hg (by decide)) (wE_core hm hg 1 _) hj (by decide) dX2_takeOver_16 rfl ?_
  refine j_if_ne X dX2_takeOver_17 rfl (tgt := 24) (by decide) (fun c_17 => ?_) (fun c_17 => ?_)
  · refine j_iconst X dX2_takeOver_24 rfl (v := 2) (by decide) ?_
    refine j_dup2 X dX2_takeOver_25 rfl rfl rfl ?_
    refine j_ialdN X (k := 2) (wm_mach hm (by decide)) (wE_mach hm 3 _) (by decide) (by decide) dX2_takeOver_26 rfl ?_
    refine j_iconst X dX2_takeOver_27 rfl (v := 1) (by decide) ?_
    refine j_iadd X dX2_takeOver_28 rfl ?_
    refine j_iastN X (k := 2) (wm_mach hm (by decide)) (fun r => wE_mach hm 3 r) (by decide) (by decide) dX2_takeOver_29 rfl ?_
    refine j_name (fun S1 eS1 => ?_)
    refine j_aload_n X dX2_takeOver_30 rfl rfl (q := 1) rfl ?_
    refine j_iload_n X dX2_takeOver_31 rfl rfl (q := 2) rfl ?_
    refine j_iload_n X dX2_takeOver_32 rfl rfl (q := 3) rfl ?_
    refine j_callv X (c_X2_writeBackElsewhere l Z S1 h m g hm hg j hj (by subst eS1; simp [setF_4, inc_r, set2_r, set3_r, pWB_r, pWbe_r, pWc_r, pOver_r, pOwn_r, pTak_r, pRoll_4, pNote_4, pEndT_4, pBegT_4, hg, pCC, hcc.2] <;> exact hcc)) (wm_mach hm (by decide)) (wE_mach hm 0 _) rfl lk_RX2_168 mi_X2_writeBackElsewhere ms_X2_writeBackElsewhere ini_RX2 mc_X2_writeBackElsewhere md_X2_writeBackElsewhere ⟨Nat.le_of_ble_eq_true rfl, Nat.le_of_ble_eq_true rfl⟩ ⟨Nat.le_of_ble_eq_true rfl, Nat.le_of_ble_eq_true rfl⟩ rfl (Nat.le_of_ble_eq_true rfl) (as := [.int (nI (g)), .int (nI (j))]) (rest := []) rfl dX2_takeOver_33 rfl ?_
    refine j_name (fun S2 eS2 => ?_)
    refine j_iconst X dX2_takeOver_36 rfl (v := 0) (by decide) ?_
    refine j_istore X dX2_takeOver_37 rfl (by decide) (Ls2 := [(4, .int (0)), (3, .ref (zA Z (m) (g) (0))), (0, .ref (zA Z (m) (4) (0))), (1, .int (nI (g))), (2, .int (nI (j)))]) rfl ?_
    refine j_sub [0, 2, 3, 4, 1] (Ls2 := [(4, .int (0)), (0, .ref (zA Z (m) (4) (0))), (1, .int (nI (g))), (2, .int (nI (j))), (3, .ref (zA Z (m) (g) (0)))]) rfl ?_
    refine L_over l Z h m g hm hg j hj (pCC S2 m) (by subst eS1; subst eS2; simp [setF_4, inc_r, set2_r, set3_r, pWB_r, pWbe_r, pWc_r, pOver_r, pOwn_r, pTak_r, pRoll_4, pNote_4, pEndT_4, pBegT_4, hg, pCC, hcc.2] <;> exact hcc.2) X (pCC S2 m) 0 S2 (by omega) (by subst eS1; subst eS2; simp [setF_4, inc_r, set2_r, set3_r, pWB_r, pWbe_r, pWc_r, pOver_r, pOwn_r, pTak_r, pRoll_4, pNote_4, pEndT_4, pBegT_4, hg, pCC, hcc.2] <;> exact hcc.1) ?_
    refine j_name (fun S3 eS3 => ?_)
    refine j_aload_n X dX2_takeOver_98 rfl rfl (q := 0) rfl ?_
    refine jgN_core X hm hg 0 (by decide) nk_RX2_77 rfl rfl dX2_takeOver_99 rfl ?_
    refine j_iload_n X dX2_takeOver_102 rfl rfl (q := 1) rfl ?_
    refine j_iconst X dX2_takeOver_103 rfl (v := 2) (by decide) ?_
    refine j_iastN X (k := j) (wm_core hm hg (by decide)) (fun r => wE_core hm hg 1 r) hj (by decide) dX2_takeOver_104 rfl ?_
    refine j_name (fun S4 eS4 => ?_)
    exact j_at (by subst eS1; subst eS2; subst eS3; subst eS4; first | rfl | simp [pOver, inc, c_17]) rfl rfl rfl (K _ _ dX2_takeOver_105)
  · refine j_iconst X dX2_takeOver_20 rfl (v := 1) (by decide) ?_
    refine j_goto X (tgt := 25) dX2_takeOver_21 (by decide) ?_
    refine j_dup2 X dX2_takeOver_25 rfl rfl rfl ?_
    refine j_ialdN X (k := 1) (wm_mach hm (by decide)) (wE_mach hm 3 _) (by decide) (by decide) dX2_takeOver_26 rfl ?_
    refine j_iconst X dX2_takeOver_27 rfl (v := 1) (by decide) ?_
    refine j_iadd X dX2_takeOver_28 rfl ?_
    refine j_iastN X (k := 1) (wm_mach hm (by decide)) (fun r => wE_mach hm 3 r) (by decide) (by decide) dX2_takeOver_29 rfl ?_
    refine j_name (fun S5 eS5 => ?_)
    refine j_aload_n X dX2_takeOver_30 rfl rfl (q := 1) rfl ?_
    refine j_iload_n X dX2_takeOver_31 rfl rfl (q := 2) rfl ?_
    refine j_iload_n X dX2_takeOver_32 rfl rfl (q := 3) rfl ?_
    refine j_callv X (c_X2_writeBackElsewhere l Z S5 h m g hm hg j hj (by subst eS5; simp [setF_4, inc_r, set2_r, set3_r, pWB_r, pWbe_r, pWc_r, pOver_r, pOwn_r, pTak_r, pRoll_4, pNote_4, pEndT_4, pBegT_4, hg, pCC, hcc.2] <;> exact hcc)) (wm_mach hm (by decide)) (wE_mach hm 0 _) rfl lk_RX2_168 mi_X2_writeBackElsewhere ms_X2_writeBackElsewhere ini_RX2 mc_X2_writeBackElsewhere md_X2_writeBackElsewhere ⟨Nat.le_of_ble_eq_true rfl, Nat.le_of_ble_eq_true rfl⟩ ⟨Nat.le_of_ble_eq_true rfl, Nat.le_of_ble_eq_true rfl⟩ rfl (Nat.le_of_ble_eq_true rfl) (as := [.int (nI (g)), .int (nI (j))]) (rest := []) rfl dX2_takeOver_33 rfl ?_
    refine j_name (fun S6 eS6 => ?_)
    refine j_iconst X dX2_takeOver_36 rfl (v := 0) (by decide) ?_
    refine j_istore X dX2_takeOver_37 rfl (by decide) (Ls2 := [(4, .int (0)), (3, .ref (zA Z (m) (g) (0))), (0, .ref (zA Z (m) (4) (0))), (1, .int (nI (g))), (2, .int (nI (j)))]) rfl ?_
    refine j_sub [0, 2, 3, 4, 1] (Ls2 := [(4, .int (0)), (0, .ref (zA Z (m) (4) (0))), (1, .int (nI (g))), (2, .int (nI (j))), (3, .ref (zA Z (m) (g) (0)))]) rfl ?_
    refine L_over l Z h m g hm hg j hj (pCC S6 m) (by subst eS5; subst eS6; simp [setF_4, inc_r, set2_r, set3_r, pWB_r, pWbe_r, pWc_r, pOver_r, pOwn_r, pTak_r, pRoll_4, pNote_4, pEndT_4, pBegT_4, hg, pCC, hcc.2] <;> exact hcc.2) X (pCC S6 m) 0 S6 (by omega) (by subst eS5; subst eS6; simp [setF_4, inc_r, set2_r, set3_r, pWB_r, pWbe_r, pWc_r, pOver_r, pOwn_r, pTak_r, pRoll_4, pNote_4, pEndT_4, pBegT_4, hg, pCC, hcc.2] <;> exact hcc.1) ?_
    refine j_name (fun S7 eS7 => ?_)
    refine j_aload_n X dX2_takeOver_98 rfl rfl (q := 0) rfl ?_
    refine jgN_core X hm hg 0 (by decide) nk_RX2_77 rfl rfl dX2_takeOver_99 rfl ?_
    refine j_iload_n X dX2_takeOver_102 rfl rfl (q := 1) rfl ?_
    refine j_iconst X dX2_takeOver_103 rfl (v := 2) (by decide) ?_
    refine j_iastN X (k := j) (wm_core hm hg (by decide)) (fun r => wE_core hm hg 1 r) hj (by decide) dX2_takeOver_104 rfl ?_
    refine j_name (fun S8 eS8 => ?_)
    exact j_at (by subst eS5; subst eS6; subst eS7; subst eS8; first | rfl | simp [pOver, inc, c_17]) rfl rfl rfl (K _ _ dX2_takeOver_105)

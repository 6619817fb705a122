def pNext (a : Int32) : Int32 := let x := 1103515245 * a.toInt64 + 12345; (x - x / 2147483648 * 2147483648).toInt32
def pRun (S : St) (m : Nat) : Int32 := S m 4 0 4 - pFinC S m
def pDrawF (S : St) (m : Nat) (k : Nat) (q : Int32 × Int32) : Bool × Int32 × Int32 := if pFin S m k = true then (true, q) else if q.1 = 0 then (false, q.1, nI k) else (true, q.1 + (-1), q.2)
def pTurn (a b : Int32) : Int32 := let x := a / 65536; x - x / b * b
def pDrawS (S : St) (m : Nat) : St := setF S m 4 0 7 (pNext (S m 4 0 7))
def pDrawL (S : St) (m : Nat) : Bool × Int32 × Int32 := lpE (pDrawF (pDrawS S m) m) (pCC S m) 0 (pTurn (pDrawS S m m 4 0 7) (pRun S m), 0)
def pDraw (S : St) (m : Nat) : Int32 × St := if 0 < pRun S m then (if (pDrawL S m).1 = true then -1 else (pDrawL S m).2.2, pDrawS S m) else (-1, S)
def pOutF (m j : Nat) (k : Nat) (S : St) : St := setF (if pHurt S m k (nI j) true = true then inc (pRoll S m k) m 5 else S) m k 1 j 0
def pOutS (S : St) (m j : Nat) (v : Int32) : St := pAddW (setF (lp (pOutF m j) (pCC S m) 0 S) m 4 2 j v) m (-1) j m 4 2
def pOut (S : St) (m j : Nat) (v : Int32) : Int32 × St := (pAborts (pOutS S m j v) m - pAborts S m, pOutS S m j v)
def pStart (S : St) (m : Nat) (a b d : Int32) : St :=
  let S1 := setF (setF (setF (setF (setF S m 4 0 4 a) m 4 0 5 b) m 4 0 6 d) m 4 0 8 0) m 4 4 7 0
  lp (pZeroF m 4 3) 8 0 (lp (pZeroF m 4 2) 8 0 (lp (fun k T => pClear T m k) 4 0 S1))
def cpG (S : St) (m m2 k : Nat) : St := setF S m 4 0 k (S m2 4 0 k)
def pCopyM (S : St) (m m2 : Nat) : St :=
  let S1 := lp (fun k T => pCopyC T m k m2 k) 4 0 S
  let S3 := pCopyL (cpR (cpR S1 m2 4 2 m 4 2 8) m2 4 3 m 4 3 8) m m2
  cpG (cpG (cpG (cpG (cpG S3 m m2 4) m m2 5) m m2 6) m m2 7) m m2 8
theorem setF_g {S : St} {m i k : Nat} {v : Int32} {m' g : Nat} (hg : g < 4) : setF S m 4 i k v m' g = S m' g := by
  funext i' k'
  rw [setF_at, if_neg (by omega)]
theorem cpR_4 {S : St} {m1 g1 i1 m g i n m' : Nat} (hg : g < 4) : cpR S m1 g1 i1 m g i n m' 4 = S m' 4 := by
  funext i' k'
  rw [cpR_at, if_neg (by omega)]
theorem cpR_r {S : St} {m1 g1 i1 m i n m' i' : Nat} (hi : i' ≠ i) : cpR S m1 g1 i1 m 4 i n m' 4 i' = S m' 4 i' := by
  funext k'
  rw [cpR_at, if_neg (by omega)]
theorem pCopyC_4 {S : St} {m g m2 g2 m' : Nat} (hg : g < 4) : pCopyC S m g m2 g2 m' 4 = S m' 4 := by
  simp [pCopyC, cpF, pCopyP, setF_4 hg, cpR_4 hg]
theorem pCopyC_lp {S : St} {m m2 m' : Nat} : lp (fun k T => pCopyC T m k m2 k) 4 0 S m' 4 = S m' 4 :=
  lp_lt (fun k T => pCopyC T m k m2 k) (fun T => T m' 4) 4 (fun k T hk => pCopyC_4 hk) _ 0 S (by omega)
theorem pOutF_r {S : St} {m j k m' i : Nat} (hk : k < 4) (h3 : i ≠ 3) : pOutF m j k S m' 4 i = S m' 4 i := by
  unfold pOutF
  rw [setF_4 hk]
  split
  · rw [inc_r h3, pRoll_4 hk]
  · rfl
theorem pOut_r {S : St} {m j m' i n : Nat} (hc : n ≤ 4) (h3 : i ≠ 3) : lp (pOutF m j) n 0 S m' 4 i = S m' 4 i :=
  lp_lt (pOutF m j) (fun T => T m' 4 i) 4 (fun k T hk => pOutF_r hk h3) _ 0 S (by omega)
theorem pApply_ne {S : St} {m e m' : Nat} (hm : m' ≠ 6) : pApply S m e 6 0 7 m' = S m' := by
  refine lp_ne (pAppF m e 6 0 7) (fun T => T m') (fun k T => ?_) 8 0 S
  dsimp only [pAppF]
  split
  · funext g i k'
    rw [setF_at, if_neg (by omega)]
  · rfl
theorem pZero_ne {S : St} {n m' : Nat} (hm : m' ≠ 6) : lp (pZeroF 6 0 7) n 0 S m' = S m' := by
  refine lp_ne (pZeroF 6 0 7) (fun T => T m') (fun k T => ?_) n 0 S
  funext g i k'
  rw [pZeroF, setF_at, if_neg (by omega)]
set_option maxRecDepth 100000 in
set_option maxHeartbeats 4000000 in
theorem L_rep0 (l : Launch) (Z : wZ) (h : Hl) (m : Nat) (hm : m < 6) {p : Program} {e : Env} {s : State} {mi : MethodId} {args : Array Value} {below : List Frame} {meth : Method} {c : Code} {A0 : Nat → Prop} {Q : State → Prop} (X : JX p s mi args meth c cX1_replaysOn 3 yX1_replaysOn.cls Z A0) : ∀ (n k : Nat) (S : St), k + n = 8 → J p l e { frames := 2, cells := 0, slots := 0, locals := 46 } s mi args below meth c 3 Z A0 0 0 Q ((lp (pZeroF 6 0 7) n k S)) h [(0, .ref (zA Z (m) (4) (4))), (1, .ref (zA Z (6) (0) (7)))] 18 [] → J p l e { frames := 2, cells := 0, slots := 0, locals := 46 } s mi args below meth c 3 Z A0 0 0 Q S h [(2, .int (nI (k))), (0, .ref (zA Z (m) (4) (4))), (1, .ref (zA Z (6) (0) (7)))] 2 [] := by
  intro n
  induction n with
  | zero =>
    intro k S hkn hk
    have hkN : 8 = k := by omega
    subst hkN
    refine j_iload_n X dX1_replaysOn_2 rfl rfl (q := 0) rfl ?_
    refine j_bipush X dX1_replaysOn_3 rfl (v := 8) (by decide) ?_
    refine j_icmp_ge_t X (tgt := 18) dX1_replaysOn_5 (by decide) (nI_le (Nat.le_refl _) (by decide)) ?_
    refine j_sub [1, 2] (Ls2 := [(0, .ref (zA Z (m) (4) (4))), (1, .ref (zA Z (6) (0) (7)))]) rfl ?_
    exact hk
  | succ n ih =>
    intro k S hkn hk
    have hlt : k < 8 := by omega
    refine j_iload_n X dX1_replaysOn_2 rfl rfl (q := 0) rfl ?_
    refine j_bipush X dX1_replaysOn_3 rfl (v := 8) (by decide) ?_
    refine j_icmp_ge_f X dX1_replaysOn_5 rfl (tgt := 18) (by decide) (nI_ge hlt (by decide)) ?_
    refine j_aload_n X dX1_replaysOn_8 rfl rfl (q := 2) rfl ?_
    refine j_iload_n X dX1_replaysOn_9 rfl rfl (q := 0) rfl ?_
    refine j_iconst X dX1_replaysOn_10 rfl (v := 0) (by decide) ?_
    refine j_iastN X (k := k) (wm_top (by decide)) (fun r => (fun _ => rfl) r) hlt (by decide) dX1_replaysOn_11 rfl ?_
    refine j_name (fun S1 eS1 => ?_)
    refine j_iinc X dX1_replaysOn_12 rfl (q := 0) rfl (v := (nI (k + 1))) (nI_1 _) (by decide) (Ls2 := [(2, .int (nI (k + 1))), (0, .ref (zA Z (m) (4) (4))), (1, .ref (zA Z (6) (0) (7)))]) rfl ?_
    refine j_goto X (tgt := 2) dX1_replaysOn_15 (by decide) ?_
    have eB : (pZeroF 6 0 7) k S = S1 := by subst eS1; first | rfl | simp [pZeroF]
    have eL : lp (pZeroF 6 0 7) (n + 1) k S = lp (pZeroF 6 0 7) n (k + 1) S1 := congrArg (lp (pZeroF 6 0 7) n (k + 1)) eB
    rw [eL] at hk
    exact ih (k + 1) S1 (by omega) hk
set_option maxRecDepth 100000 in
set_option maxHeartbeats 4000000 in
theorem L_rep1 (l : Launch) (Z : wZ) (h : Hl) (m : Nat) (hm : m < 6) (hm6 : m ≠ 6) (q : Nat) (hq4 : q ≤ rmI m) {p : Program} {e : Env} {s : State} {mi : MethodId} {args : Array Value} {below : List Frame} {meth : Method} {c : Code} {A0 : Nat → Prop} {Q : State → Prop} (X : JX p s mi args meth c cX1_replaysOn 3 yX1_replaysOn.cls Z A0) : ∀ (n k : Nat) (S : St), k + n = q → S m 4 4 7 = nI q → ((lpE (pRepF m 6 0 7) n k S).1 = true → J p l e { frames := 2, cells := 0, slots := 0, locals := 46 } s mi args below meth c 3 Z A0 0 0 Q ((lpE (pRepF m 6 0 7) n k S).2) h [] 51 []) → ((lpE (pRepF m 6 0 7) n k S).1 = false → J p l e { frames := 2, cells := 0, slots := 0, locals := 46 } s mi args below meth c 3 Z A0 0 0 Q ((lpE (pRepF m 6 0 7) n k S).2) h [] 37 []) → J p l e { frames := 2, cells := 0, slots := 0, locals := 46 } s mi args below meth c 3 Z A0 0 0 Q S h [(2, .int (nI (k))), (0, .ref (zA Z (m) (4) (4))), (1, .ref (zA Z (6) (0) (7)))] 20 [] := by
  intro n
  induction n with
  | zero =>
    intro k S hkn hI hT hF
    have hkN : q = k := by omega
    subst hkN
    refine j_iload_n X dX1_replaysOn_20 rfl rfl (q := 0) rfl ?_
    refine j_aload_n X dX1_replaysOn_21 rfl rfl (q := 1) rfl ?_
    refine jg_log X hm 7 (by decide) lk_RX1_34 rfl rfl dX1_replaysOn_22 rfl ?_
    refine j_topeq (y := (nI (q))) (hI) ?_
    refine j_icmp_ge_t X (tgt := 51) dX1_replaysOn_25 (by decide) (nI_le (Nat.le_refl _) (by have := rmI_le m; omega)) ?_
    refine j_sub [] (Ls2 := []) rfl ?_
    exact hT rfl
  | succ n ih =>
    intro k S hkn hI hT hF
    have hlt : k < q := by omega
    refine j_iload_n X dX1_replaysOn_20 rfl rfl (q := 0) rfl ?_
    refine j_aload_n X dX1_replaysOn_21 rfl rfl (q := 1) rfl ?_
    refine jg_log X hm 7 (by decide) lk_RX1_34 rfl rfl dX1_replaysOn_22 rfl ?_
    refine j_topeq (y := (nI (q))) (hI) ?_
    refine j_icmp_ge_f X dX1_replaysOn_25 rfl (tgt := 51) (by decide) (nI_ge hlt (by have := rmI_le m; omega)) ?_
    refine j_aload_n X dX1_replaysOn_28 rfl rfl (q := 1) rfl ?_
    refine j_iload_n X dX1_replaysOn_29 rfl rfl (q := 0) rfl ?_
    refine j_aload_n X dX1_replaysOn_30 rfl rfl (q := 2) rfl ?_
    refine j_calli X (c_X1_readsMatch l Z S h m hm k (by omega) 6 0 7 (wm_top (by decide)) (fun _ _ => rfl)) (wm_mach hm (by decide)) (wE_mach hm 4 _) rfl lk_RX1_62 mi_X1_readsMatch ms_X1_readsMatch ini_RX1 mc_X1_readsMatch md_X1_readsMatch ⟨Nat.le_of_ble_eq_true rfl, Nat.le_of_ble_eq_true rfl⟩ ⟨Nat.le_of_ble_eq_true rfl, Nat.le_of_ble_eq_true rfl⟩ rfl (Nat.le_of_ble_eq_true rfl) (as := [.int (nI (k)), .ref (zA Z (6) (0) (7))]) (rest := []) rfl dX1_replaysOn_31 rfl ?_
    refine j_ifb_ne X dX1_replaysOn_34 rfl (tgt := 39) (by decide) (fun c_34 => ?_) (fun c_34 => ?_)
    · refine j_aload_n X dX1_replaysOn_39 rfl rfl (q := 1) rfl ?_
      refine j_iload_n X dX1_replaysOn_40 rfl rfl (q := 0) rfl ?_
      refine j_aload_n X dX1_replaysOn_41 rfl rfl (q := 2) rfl ?_
      refine j_callv X (c_X1_applyWrites l Z S h m hm k (by omega) 6 0 7 (wm_top (by decide)) (fun _ _ => rfl)) (wm_mach hm (by decide)) (wE_mach hm 4 _) rfl lk_RX1_66 mi_X1_applyWrites ms_X1_applyWrites ini_RX1 mc_X1_applyWrites md_X1_applyWrites ⟨Nat.le_of_ble_eq_true rfl, Nat.le_of_ble_eq_true rfl⟩ ⟨Nat.le_of_ble_eq_true rfl, Nat.le_of_ble_eq_true rfl⟩ rfl (Nat.le_of_ble_eq_true rfl) (as := [.int (nI (k)), .ref (zA Z (6) (0) (7))]) (rest := []) rfl dX1_replaysOn_42 rfl ?_
      refine j_name (fun S1 eS1 => ?_)
      refine j_iinc X dX1_replaysOn_45 rfl (q := 0) rfl (v := (nI (k + 1))) (nI_1 _) (by decide) (Ls2 := [(2, .int (nI (k + 1))), (0, .ref (zA Z (m) (4) (4))), (1, .ref (zA Z (6) (0) (7)))]) rfl ?_
      refine j_goto X (tgt := 20) dX1_replaysOn_48 (by decide) ?_
      have eB : (pRepF m 6 0 7) k S = (true, S1) := by subst eS1; first | rfl | simp [pRepF, c_34]
      have eL : lpE (pRepF m 6 0 7) (n + 1) k S = lpE (pRepF m 6 0 7) n (k + 1) S1 := by rw [lpE, eB]; rfl
      rw [eL] at hT hF
      exact ih (k + 1) S1 (by omega) (by subst eS1; simp [pApply_ne hm6] <;> exact hI) hT hF
    · have eB : (pRepF m 6 0 7) k S = (false, S) := by first | rfl | simp [pRepF, c_34]
      have eL : lpE (pRepF m 6 0 7) (n + 1) k S = (false, S) := by rw [lpE, eB]; rfl
      rw [eL] at hF
      refine j_sub [] (Ls2 := []) rfl ?_
      exact hF rfl
set_option maxRecDepth 100000 in
set_option maxHeartbeats 4000000 in
theorem c_X1_replaysOn (l : Launch) (Z : wZ) (S : St) (h : Hl) (m : Nat) (hm : m < 6) (hm6 : m ≠ 6) (hq : okI (S m 4 4 7) 400) (hqr : pQ S m ≤ rmI m) : Ci l yX1_replaysOn cX1_replaysOn 3 .boolean 2 46 Z [.ref (zA Z (m) (4) (4)), .ref (zA Z (6) (0) (7))] S h (bI (pReplay S m 6 0 7).1) ((pReplay S m 6 0 7).2) (h) := by
  refine Ci.of rfl (bI_nar _) (Nat.le_of_ble_eq_true rfl) (fun p e s mi args below meth c A0 Q X K => ?_)
  refine j_at rfl rfl (Ls3 := [(0, .ref (zA Z (m) (4) (4))), (1, .ref (zA Z (6) (0) (7)))]) rfl rfl ?_
  refine j_iconst X dX1_replaysOn_0 rfl (v := 0) (by decide) ?_
  refine j_istore_n X dX1_replaysOn_1 rfl rfl (by decide) (Ls2 := [(2, .int (0)), (0, .ref (zA Z (m) (4) (4))), (1, .ref (zA Z (6) (0) (7)))]) rfl ?_
  refine j_sub [0, 1, 2] (Ls2 := [(2, .int (0)), (0, .ref (zA Z (m) (4) (4))), (1, .ref (zA Z (6) (0) (7)))]) rfl ?_
  refine L_rep0 l Z h m hm X 8 0 S (by omega) ?_
  refine j_name (fun S1 eS1 => ?_)
  refine j_iconst X dX1_replaysOn_18 rfl (v := 0) (by decide) ?_
  refine j_istore_n X dX1_replaysOn_19 rfl rfl (by decide) (Ls2 := [(2, .int (0)), (0, .ref (zA Z (m) (4) (4))), (1, .ref (zA Z (6) (0) (7)))]) rfl ?_
  refine j_sub [0, 1, 2] (Ls2 := [(2, .int (0)), (0, .ref (zA Z (m) (4) (4))), (1, .ref (zA Z (6) (0) (7)))]) rfl ?_
  refine L_rep1 l Z h m hm hm6 (pQ S m) hqr X (pQ S m) 0 S1 (by omega) (by subst eS1; simp [pZero_ne hm6] <;> exact hq.1) (fun hb2 => ?_) (fun hb2 => ?_)
  · refine j_name (fun S3 eS3 => ?_)
    refine j_iconst X dX1_replaysOn_51 rfl (v := 1) (by decide) ?_
    exact j_ret (by subst eS1; subst eS3; first | rfl | simp [pReplay, bI, hb2]) (by subst eS1; subst eS3; first | rfl | simp [pReplay, bI, hb2]) rfl (K _ _ dX1_replaysOn_52)
  · refine j_name (fun S4 eS4 => ?_)
    refine j_iconst X dX1_replaysOn_37 rfl (v := 0) (by decide) ?_
    exact j_ret (by subst eS1; subst eS4; first | rfl | simp [pReplay, bI, hb2]) (by subst eS1; subst eS4; first | rfl | simp [pReplay, bI, hb2]) rfl (K _ _ dX1_replaysOn_38)
set_option maxRecDepth 100000 in
set_option maxHeartbeats 4000000 in
theorem c_X2_fact_0 (l : Launch) (Z : wZ) (S : St) (h : Hl) (m : Nat) (hm : m < 6) (hcc : okI (S m 4 0 4) 4) : Ci l yX2_fact cX2_fact 2 .int 2 42 Z [.ref (zA Z (m) (4) (0)), .int (nI (0))] S h (pMFact S m 0) (S) (h) := by
  refine Ci.of rfl rfl (Nat.le_of_ble_eq_true rfl) (fun p e s mi args below meth c A0 Q X K => ?_)
  refine j_at rfl rfl (Ls3 := [(0, .ref (zA Z (m) (4) (0))), (1, .int (nI (0)))]) rfl rfl ?_
  refine j_iload_n X dX2_fact_0 rfl rfl (q := 1) rfl ?_
  refine j_tableIn X (tgt := 32) dX2_fact_1 (by decide) (by decide) rfl (by decide) ?_
  refine j_aload_n X dX2_fact_32 rfl rfl (q := 0) rfl ?_
  refine jg_mach X hm 4 (by decide) lk_RX2_34 rfl rfl dX2_fact_33 rfl ?_
  exact j_ret (by first | rfl | simp [pMFact]) (by first | rfl | simp [pMFact]) rfl (K _ _ dX2_fact_36)
set_option maxRecDepth 100000 in
set_option maxHeartbeats 4000000 in
theorem c_X2_fact_1 (l : Launch) (Z : wZ) (S : St) (h : Hl) (m : Nat) (hm : m < 6) (hcc : okI (S m 4 0 4) 4) : Ci l yX2_fact cX2_fact 2 .int 2 42 Z [.ref (zA Z (m) (4) (0)), .int (nI (1))] S h (pMFact S m 1) (S) (h) := by
  refine Ci.of rfl rfl (Nat.le_of_ble_eq_true rfl) (fun p e s mi args below meth c A0 Q X K => ?_)
  refine j_at rfl rfl (Ls3 := [(0, .ref (zA Z (m) (4) (0))), (1, .int (nI (1)))]) rfl rfl ?_
  refine j_iload_n X dX2_fact_0 rfl rfl (q := 1) rfl ?_
  refine j_tableIn X (tgt := 37) dX2_fact_1 (by decide) (by decide) rfl (by decide) ?_
  refine j_aload_n X dX2_fact_37 rfl rfl (q := 0) rfl ?_
  refine jg_mach X hm 5 (by decide) lk_RX2_38 rfl rfl dX2_fact_38 rfl ?_
  exact j_ret (by first | rfl | simp [pMFact]) (by first | rfl | simp [pMFact]) rfl (K _ _ dX2_fact_41)
set_option maxRecDepth 100000 in
set_option maxHeartbeats 4000000 in
theorem c_X2_fact_2 (l : Launch) (Z : wZ) (S : St) (h : Hl) (m : Nat) (hm : m < 6) (hcc : okI (S m 4 0 4) 4) : Ci l yX2_fact cX2_fact 2 .int 2 42 Z [.ref (zA Z (m) (4) (0)), .int (nI (2))] S h (pMFact S m 2) (S) (h) := by
  refine Ci.of rfl rfl (Nat.le_of_ble_eq_true rfl) (fun p e s mi args below meth c A0 Q X K => ?_)
  refine j_at rfl rfl (Ls3 := [(0, .ref (zA Z (m) (4) (0))), (1, .int (nI (2)))]) rfl rfl ?_
  refine j_iload_n X dX2_fact_0 rfl rfl (q := 1) rfl ?_
  refine j_tableIn X (tgt := 42) dX2_fact_1 (by decide) (by decide) rfl (by decide) ?_
  refine j_aload_n X dX2_fact_42 rfl rfl (q := 0) rfl ?_
  refine jg_mach X hm 6 (by decide) lk_RX2_41 rfl rfl dX2_fact_43 rfl ?_
  exact j_ret (by first | rfl | simp [pMFact]) (by first | rfl | simp [pMFact]) rfl (K _ _ dX2_fact_46)
set_option maxRecDepth 100000 in
set_option maxHeartbeats 4000000 in
theorem c_X2_fact_3 (l : Launch) (Z : wZ) (S : St) (h : Hl) (m : Nat) (hm : m < 6) (hcc : okI (S m 4 0 4) 4) : Ci l yX2_fact cX2_fact 2 .int 2 42 Z [.ref (zA Z (m) (4) (0)), .int (nI (3))] S h (pMFact S m 3) (S) (h) := by
  refine Ci.of rfl rfl (Nat.le_of_ble_eq_true rfl) (fun p e s mi args below meth c A0 Q X K => ?_)
  refine j_at rfl rfl (Ls3 := [(0, .ref (zA Z (m) (4) (0))), (1, .int (nI (3)))]) rfl rfl ?_
  refine j_iload_n X dX2_fact_0 rfl rfl (q := 1) rfl ?_
  refine j_tableIn X (tgt := 47) dX2_fact_1 (by decide) (by decide) rfl (by decide) ?_
  refine j_aload_n X dX2_fact_47 rfl rfl (q := 0) rfl ?_
  refine j_calli X (c_X2_finishedCores l Z S h m hm hcc) (wm_mach hm (by decide)) (wE_mach hm 0 _) rfl lk_RX2_69 mi_X2_finishedCores ms_X2_finishedCores ini_RX2 mc_X2_finishedCores md_X2_finishedCores ⟨Nat.le_of_ble_eq_true rfl, Nat.le_of_ble_eq_true rfl⟩ ⟨Nat.le_of_ble_eq_true rfl, Nat.le_of_ble_eq_true rfl⟩ rfl (Nat.le_of_ble_eq_true rfl) (as := []) (rest := []) rfl dX2_fact_48 rfl ?_
  exact j_ret (by first | rfl | simp [pMFact]) (by first | rfl | simp [pMFact]) rfl (K _ _ dX2_fact_51)
set_option maxRecDepth 100000 in
set_option maxHeartbeats 4000000 in
theorem c_X2_fact_4 (l : Launch) (Z : wZ) (S : St) (h : Hl) (m : Nat) (hm : m < 6) (hcc : okI (S m 4 0 4) 4) : Ci l yX2_fact cX2_fact 2 .int 2 42 Z [.ref (zA Z (m) (4) (0)), .int (nI (4))] S h (pMFact S m 4) (S) (h) := by
  refine Ci.of rfl rfl (Nat.le_of_ble_eq_true rfl) (fun p e s mi args below meth c A0 Q X K => ?_)
  refine j_at rfl rfl (Ls3 := [(0, .ref (zA Z (m) (4) (0))), (1, .int (nI (4)))]) rfl rfl ?_
  refine j_iload_n X dX2_fact_0 rfl rfl (q := 1) rfl ?_
  refine j_tableOut X (tgt := 52) dX2_fact_1 (by decide) (by decide) ?_
  refine j_aload_n X dX2_fact_52 rfl rfl (q := 0) rfl ?_
  refine jg_mach X hm 8 (by decide) lk_RX2_47 rfl rfl dX2_fact_53 rfl ?_
  exact j_ret (by first | rfl | simp [pMFact]) (by first | rfl | simp [pMFact]) rfl (K _ _ dX2_fact_56)
theorem c_X2_fact (l : Launch) (Z : wZ) (S : St) (h : Hl) (m : Nat) (hm : m < 6) (hcc : okI (S m 4 0 4) 4) (k : Nat) (hk : k < 5) : Ci l yX2_fact cX2_fact 2 .int 2 42 Z [.ref (zA Z (m) (4) (0)), .int (nI (k))] S h (pMFact S m k) (S) h := by
  match k, hk with
  | 0, _ => exact c_X2_fact_0 l Z S h m hm hcc
  | 1, _ => exact c_X2_fact_1 l Z S h m hm hcc
  | 2, _ => exact c_X2_fact_2 l Z S h m hm hcc
  | 3, _ => exact c_X2_fact_3 l Z S h m hm hcc
  | 4, _ => exact c_X2_fact_4 l Z S h m hm hcc
set_option maxRecDepth 100000 in
set_option maxHeartbeats 4000000 in
theorem c_X2_winsAgainst (l : Launch) (Z : wZ) (S : St) (h : Hl) (m g o : Nat) (hm : m < 6) (hg : g < 4) (ho : o < 4) : Ci l yX2_winsAgainst cX2_winsAgainst 3 .boolean 1 20 Z [.ref (zA Z (m) (4) (0)), .ref (zA Z (m) (g) (0)), .ref (zA Z (m) (o) (0))] S h (bI (pWins S m g o)) (S) (h) := by
  refine Ci.of rfl (bI_nar _) (Nat.le_of_ble_eq_true rfl) (fun p e s mi args below meth c A0 Q X K => ?_)
  refine j_at rfl rfl (Ls3 := [(0, .ref (zA Z (m) (4) (0))), (1, .ref (zA Z (m) (g) (0))), (2, .ref (zA Z (m) (o) (0)))]) rfl rfl ?_
  refine j_aload_n X dX2_winsAgainst_0 rfl rfl (q := 1) rfl ?_
  refine j_callNi X (c_X0_inTransaction l Z S h m g hm hg ) (wm_core hm hg (by decide)) (wE_core hm hg 0 _) rfl nk_RX2_141 mi_X0_inTransaction ms_X0_inTransaction ini_RX0 mc_X0_inTransaction md_X0_inTransaction ⟨Nat.le_of_ble_eq_true rfl, Nat.le_of_ble_eq_true rfl⟩ ⟨Nat.le_of_ble_eq_true rfl, Nat.le_of_ble_eq_true rfl⟩ rfl (Nat.le_of_ble_eq_true rfl) (as := []) (rest := []) rfl dX2_winsAgainst_1 rfl ?_
  refine j_ifb_eq X dX2_winsAgainst_4 rfl (tgt := 14) (by decide) (fun c_4 => ?_) (fun c_4 => ?_)
  · refine j_iconst X dX2_winsAgainst_14 rfl (v := 1) (by decide) ?_
    exact j_ret (by first | rfl | simp [pWins, bI, c_4]) (by first | rfl | simp [pWins, bI, c_4]) rfl (K _ _ dX2_winsAgainst_15)
  · refine j_aload_n X dX2_winsAgainst_7 rfl rfl (q := 0) rfl ?_
    refine jg_mach X hm 5 (by decide) lk_RX2_38 rfl rfl dX2_winsAgainst_8 rfl ?_
    refine j_if_ne X dX2_winsAgainst_11 rfl (tgt := 16) (by decide) (fun c_11 => ?_) (fun c_11 => ?_)
    · refine j_aload_n X dX2_winsAgainst_16 rfl rfl (q := 0) rfl ?_
      refine jg_mach X hm 5 (by decide) lk_RX2_38 rfl rfl dX2_winsAgainst_17 rfl ?_
      refine j_iconst X dX2_winsAgainst_20 rfl (v := 1) (by decide) ?_
      refine j_icmp_eq X dX2_winsAgainst_21 rfl (tgt := 39) (by decide) (fun c_21 => ?_) (fun c_21 => ?_)
      · refine j_iconst X dX2_winsAgainst_39 rfl (v := 0) (by decide) ?_
        exact j_ret (by first | rfl | simp [pWins, bI, c_4, c_11, c_21]) (by first | rfl | simp [pWins, bI, c_4, c_11, c_21]) rfl (K _ _ dX2_winsAgainst_40)
      · refine j_aload_n X dX2_winsAgainst_24 rfl rfl (q := 1) rfl ?_
        refine jgN_core X hm hg 5 (by decide) nk_RX2_199 rfl rfl dX2_winsAgainst_25 rfl ?_
        refine j_aload_n X dX2_winsAgainst_28 rfl rfl (q := 2) rfl ?_
        refine jgN_core X hm ho 5 (by decide) nk_RX2_199 rfl rfl dX2_winsAgainst_29 rfl ?_
        refine j_icmp_ge X dX2_winsAgainst_32 rfl (tgt := 39) (by decide) (fun c_32 => ?_) (fun c_32 => ?_)
        · refine j_iconst X dX2_winsAgainst_39 rfl (v := 0) (by decide) ?_
          exact j_ret (by first | rfl | simp [pWins, bI, c_4, c_11, c_21, c_32]) (by first | rfl | simp [pWins, bI, c_4, c_11, c_21, c_32]) rfl (K _ _ dX2_winsAgainst_40)
        · refine j_iconst X dX2_winsAgainst_35 rfl (v := 1) (by decide) ?_
          refine j_goto X (tgt := 40) dX2_winsAgainst_36 (by decide) ?_
          exact j_ret (by first | rfl | simp [pWins, bI, c_4, c_11, c_21, c_32]) (by first | rfl | simp [pWins, bI, c_4, c_11, c_21, c_32]) rfl (K _ _ dX2_winsAgainst_40)
    · refine j_iconst X dX2_winsAgainst_14 rfl (v := 1) (by decide) ?_
      exact j_ret (by first | rfl | simp [pWins, bI, c_4, c_11]) (by first | rfl | simp [pWins, bI, c_4, c_11]) rfl (K _ _ dX2_winsAgainst_15)
set_option maxRecDepth 100000 in
set_option maxHeartbeats 4000000 in
theorem L_wc (l : Launch) (Z : wZ) (h : Hl) (m g : Nat) (hm : m < 6) (hg : g < 4) (j : Nat) (hj : j < 8) (w : Bool) (cc : Nat) (hc4 : cc ≤ 4) {p : Program} {e : Env} {s : State} {mi : MethodId} {args : Array Value} {below : List Frame} {meth : Method} {c : Code} {A0 : Nat → Prop} {Q : State → Prop} (X : JX p s mi args meth c cX2_winsConflicts 8 yX2_winsConflicts.cls Z A0) : ∀ (n k : Nat) (S : St), k + n = cc → S m 4 0 4 = nI cc → ((lpE (pWcF m g j w) n k S).1 = true → J p l e { frames := 2, cells := 0, slots := 0, locals := 43 } s mi args below meth c 8 Z A0 0 0 Q ((lpE (pWcF m g j w) n k S).2) h [] 96 []) → ((lpE (pWcF m g j w) n k S).1 = false → J p l e { frames := 2, cells := 0, slots := 0, locals := 43 } s mi args below meth c 8 Z A0 0 0 Q ((lpE (pWcF m g j w) n k S).2) h [] 88 []) → J p l e { frames := 2, cells := 0, slots := 0, locals := 43 } s mi args below meth c 8 Z A0 0 0 Q S h [(5, .int (nI (k))), (0, .ref (zA Z (m) (4) (0))), (1, .int (nI (g))), (2, .int (nI (j))), (3, .int (bI (w))), (4, .ref (zA Z (m) (g) (0)))] 11 [] := by
  intro n
  induction n with
  | zero =>
    intro k S hkn hI hT hF
    have hkN : cc = k := by omega
    subst hkN
    refine j_iload X dX2_winsConflicts_11 rfl (q := 0) rfl ?_
    refine j_aload_n X dX2_winsConflicts_13 rfl rfl (q := 1) rfl ?_
    refine jg_mach X hm 4 (by decide) lk_RX2_34 rfl rfl dX2_winsConflicts_14 rfl ?_
    refine j_topeq (y := (nI (cc))) (hI) ?_
    refine j_icmp_ge_t X (tgt := 96) dX2_winsConflicts_17 (by decide) (nI_le (Nat.le_refl _) (by omega)) ?_
    refine j_sub [] (Ls2 := []) rfl ?_
    exact hT rfl
  | succ n ih =>
    intro k S hkn hI hT hF
    have hlt : k < cc := by omega
    refine j_iload X dX2_winsConflicts_11 rfl (q := 0) rfl ?_
    refine j_aload_n X dX2_winsConflicts_13 rfl rfl (q := 1) rfl ?_
    refine jg_mach X hm 4 (by decide) lk_RX2_34 rfl rfl dX2_winsConflicts_14 rfl ?_
    refine j_topeq (y := (nI (cc))) (hI) ?_
    refine j_icmp_ge_f X dX2_winsConflicts_17 rfl (tgt := 96) (by decide) (nI_ge hlt (by omega)) ?_
    refine j_aload_n X dX2_winsConflicts_20 rfl rfl (q := 1) rfl ?_
    refine jg_mach X hm 0 (by decide) lk_RX2_11 rfl rfl dX2_winsConflicts_21 rfl ?_
    refine j_iload X dX2_winsConflicts_24 rfl (q := 0) rfl ?_
    refine j_aldCN X (g := k) hm (by omega) dX2_winsConflicts_26 rfl ?_
    refine j_astore X dX2_winsConflicts_27 rfl (by decide) (Ls2 := [(6, .ref (zA Z (m) (k) (0))), (5, .int (nI (k))), (0, .ref (zA Z (m) (4) (0))), (1, .int (nI (g))), (2, .int (nI (j))), (3, .int (bI (w))), (4, .ref (zA Z (m) (g) (0)))]) rfl ?_
    refine j_iload X dX2_winsConflicts_29 rfl (q := 1) rfl ?_
    refine j_iload_n X dX2_winsConflicts_31 rfl rfl (q := 3) rfl ?_
    refine j_icmpN_eq X (a := k) (b := g) (by omega) (by omega) dX2_winsConflicts_32 rfl (tgt := 90) (by decide) (fun c_32 => ?_) (fun c_32 => ?_)
    · refine j_iinc X dX2_winsConflicts_90 rfl (q := 1) rfl (v := (nI (k + 1))) (nI_1 _) (by decide) (Ls2 := [(5, .int (nI (k + 1))), (6, .ref (zA Z (m) (k) (0))), (0, .ref (zA Z (m) (4) (0))), (1, .int (nI (g))), (2, .int (nI (j))), (3, .int (bI (w))), (4, .ref (zA Z (m) (g) (0)))]) rfl ?_
      refine j_goto X (tgt := 11) dX2_winsConflicts_93 (by decide) ?_
      refine j_sub [0, 2, 3, 4, 5, 6] (Ls2 := [(5, .int (nI (k + 1))), (0, .ref (zA Z (m) (4) (0))), (1, .int (nI (g))), (2, .int (nI (j))), (3, .int (bI (w))), (4, .ref (zA Z (m) (g) (0)))]) rfl ?_
      have eB : (pWcF m g j w) k S = (true, S) := by first | rfl | simp [pWcF, inc, c_32]
      have eL : lpE (pWcF m g j w) (n + 1) k S = lpE (pWcF m g j w) n (k + 1) S := by rw [lpE, eB]; rfl
      rw [eL] at hT hF
      exact ih (k + 1) S (by omega) (by have := pWcF_r (S := S) (m := m) (g := g) (j := j) (k := k) (m' := m) (i := 0) (w := w) hg (by omega) (by decide); rw [eB] at this; exact (congrFun this 4).trans hI) hT hF
    · refine j_aload X dX2_winsConflicts_35 rfl (q := 0) rfl ?_
      refine j_iload_n X dX2_winsConflicts_37 rfl rfl (q := 4) rfl ?_
      refine j_iload_n X dX2_winsConflicts_38 rfl rfl (q := 5) rfl ?_
      refine j_callNi X (c_X0_isHurtBy l Z S h m k hm (by omega) (nI (j)) w) (wm_core hm (by omega) (by decide)) (wE_core hm (by omega) 0 _) rfl nk_RX2_191 mi_X0_isHurtBy ms_X0_isHurtBy ini_RX0 mc_X0_isHurtBy md_X0_isHurtBy ⟨Nat.le_of_ble_eq_true rfl, Nat.le_of_ble_eq_true rfl⟩ ⟨Nat.le_of_ble_eq_true rfl, Nat.le_of_ble_eq_true rfl⟩ rfl (Nat.le_of_ble_eq_true rfl) (as := [.int (nI (j)), .int (bI (w))]) (rest := []) rfl dX2_winsConflicts_39 rfl ?_
      refine j_ifb_ne X dX2_winsConflicts_42 rfl (tgt := 48) (by decide) (fun c_42 => ?_) (fun c_42 => ?_)
      · refine j_aload_n X dX2_winsConflicts_48 rfl rfl (q := 2) rfl ?_
        refine j_aload X dX2_winsConflicts_49 rfl (q := 6) rfl ?_
        refine j_aload X dX2_winsConflicts_51 rfl (q := 0) rfl ?_
        refine j_calli X (c_X2_winsAgainst l Z S h m g k hm hg (by omega)) (wm_mach hm (by decide)) (wE_mach hm 0 _) rfl lk_RX2_195 mi_X2_winsAgainst ms_X2_winsAgainst ini_RX2 mc_X2_winsAgainst md_X2_winsAgainst ⟨Nat.le_of_ble_eq_true rfl, Nat.le_of_ble_eq_true rfl⟩ ⟨Nat.le_of_ble_eq_true rfl, Nat.le_of_ble_eq_true rfl⟩ rfl (Nat.le_of_ble_eq_true rfl) (as := [.ref (zA Z (m) (g) (0)), .ref (zA Z (m) (k) (0))]) (rest := []) rfl dX2_winsConflicts_53 rfl ?_
        refine j_istore X dX2_winsConflicts_56 rfl (by decide) (Ls2 := [(7, .int (bI (pWins S m g k))), (6, .ref (zA Z (m) (k) (0))), (5, .int (nI (k))), (0, .ref (zA Z (m) (4) (0))), (1, .int (nI (g))), (2, .int (nI (j))), (3, .int (bI (w))), (4, .ref (zA Z (m) (g) (0)))]) rfl ?_
        refine j_iload X dX2_winsConflicts_58 rfl (q := 0) rfl ?_
        refine j_ifb_eq X dX2_winsConflicts_60 rfl (tgt := 68) (by decide) (fun c_60 => ?_) (fun c_60 => ?_)
        · refine j_aload X dX2_winsConflicts_68 rfl (q := 7) rfl ?_
          refine j_callNv X (c_X0_rollBack l Z S h m g hm hg ) (wm_core hm hg (by decide)) (wE_core hm hg 0 _) rfl nk_RX2_177 mi_X0_rollBack ms_X0_rollBack ini_RX0 mc_X0_rollBack md_X0_rollBack ⟨Nat.le_of_ble_eq_true rfl, Nat.le_of_ble_eq_true rfl⟩ ⟨Nat.le_of_ble_eq_true rfl, Nat.le_of_ble_eq_true rfl⟩ rfl (Nat.le_of_ble_eq_true rfl) (as := []) (rest := []) rfl dX2_winsConflicts_70 rfl ?_
          refine j_name (fun S1 eS1 => ?_)
          refine j_aload_n X dX2_winsConflicts_73 rfl rfl (q := 3) rfl ?_
          refine jg_mach X hm 2 (by decide) lk_RX2_22 rfl rfl dX2_winsConflicts_74 rfl ?_
          refine j_iconst X dX2_winsConflicts_77 rfl (v := 5) (by decide) ?_
          refine j_dup2 X dX2_winsConflicts_78 rfl rfl rfl ?_
          refine j_ialdN X (k := 5) (wm_mach hm (by decide)) (wE_mach hm 3 _) (by decide) (by decide) dX2_winsConflicts_79 rfl ?_
          refine j_iconst X dX2_winsConflicts_80 rfl (v := 1) (by decide) ?_
          refine j_iadd X dX2_winsConflicts_81 rfl ?_
          refine j_iastN X (k := 5) (wm_mach hm (by decide)) (fun r => wE_mach hm 3 r) (by decide) (by decide) dX2_winsConflicts_82 rfl ?_
          refine j_name (fun S2 eS2 => ?_)
          refine j_iload X dX2_winsConflicts_83 rfl (q := 0) rfl ?_
          refine j_if_ne_f X dX2_winsConflicts_85 rfl (tgt := 90) (by decide) (by rw [c_60]; decide) ?_
          have eB : (pWcF m g j w) k S = (false, S2) := by subst eS1; subst eS2; first | rfl | simp [pWcF, inc, c_32, c_42, c_60]
          have eL : lpE (pWcF m g j w) (n + 1) k S = (false, S2) := by rw [lpE, eB]; rfl
          rw [eL] at hF
          refine j_sub [] (Ls2 := []) rfl ?_
          exact hF rfl
        · refine j_aload X dX2_winsConflicts_63 rfl (q := 1) rfl ?_
          refine j_goto X (tgt := 70) dX2_winsConflicts_65 (by decide) ?_
          refine j_callNv X (c_X0_rollBack l Z S h m k hm (by omega) ) (wm_core hm (by omega) (by decide)) (wE_core hm (by omega) 0 _) rfl nk_RX2_177 mi_X0_rollBack ms_X0_rollBack ini_RX0 mc_X0_rollBack md_X0_rollBack ⟨Nat.le_of_ble_eq_true rfl, Nat.le_of_ble_eq_true rfl⟩ ⟨Nat.le_of_ble_eq_true rfl, Nat.le_of_ble_eq_true rfl⟩ rfl (Nat.le_of_ble_eq_true rfl) (as := []) (rest := []) rfl dX2_winsConflicts_70 rfl ?_
          refine j_name (fun S3 eS3 => ?_)
          refine j_aload_n X dX2_winsConflicts_73 rfl rfl (q := 3) rfl ?_
          refine jg_mach X hm 2 (by decide) lk_RX2_22 rfl rfl dX2_winsConflicts_74 rfl ?_
          refine j_iconst X dX2_winsConflicts_77 rfl (v := 5) (by decide) ?_
          refine j_dup2 X dX2_winsConflicts_78 rfl rfl rfl ?_
          refine j_ialdN X (k := 5) (wm_mach hm (by decide)) (wE_mach hm 3 _) (by decide) (by decide) dX2_winsConflicts_79 rfl ?_
          refine j_iconst X dX2_winsConflicts_80 rfl (v := 1) (by decide) ?_
          refine j_iadd X dX2_winsConflicts_81 rfl ?_
          refine j_iastN X (k := 5) (wm_mach hm (by decide)) (fun r => wE_mach hm 3 r) (by decide) (by decide) dX2_winsConflicts_82 rfl ?_
          refine j_name (fun S4 eS4 => ?_)
          refine j_iload X dX2_winsConflicts_83 rfl (q := 0) rfl ?_
          refine j_if_ne_t X (tgt := 90) dX2_winsConflicts_85 (by decide) (by rw [c_60]; decide) ?_
          refine j_iinc X dX2_winsConflicts_90 rfl (q := 2) rfl (v := (nI (k + 1))) (nI_1 _) (by decide) (Ls2 := [(5, .int (nI (k + 1))), (7, .int (bI (pWins S m g k))), (6, .ref (zA Z (m) (k) (0))), (0, .ref (zA Z (m) (4) (0))), (1, .int (nI (g))), (2, .int (nI (j))), (3, .int (bI (w))), (4, .ref (zA Z (m) (g) (0)))]) rfl ?_
          refine j_goto X (tgt := 11) dX2_winsConflicts_93 (by decide) ?_
          refine j_sub [0, 3, 4, 5, 6, 7] (Ls2 := [(5, .int (nI (k + 1))), (0, .ref (zA Z (m) (4) (0))), (1, .int (nI (g))), (2, .int (nI (j))), (3, .int (bI (w))), (4, .ref (zA Z (m) (g) (0)))]) rfl ?_
          have eB : (pWcF m g j w) k S = (true, S4) := by subst eS3; subst eS4; first | rfl | simp [pWcF, inc, c_32, c_42, c_60]
          have eL : lpE (pWcF m g j w) (n + 1) k S = lpE (pWcF m g j w) n (k + 1) S4 := by rw [lpE, eB]; rfl
          rw [eL] at hT hF
          exact ih (k + 1) S4 (by omega) (by subst eS3; subst eS4; have := pWcF_r (S := S) (m := m) (g := g) (j := j) (k := k) (m' := m) (i := 0) (w := w) hg (by omega) (by decide); rw [eB] at this; exact (congrFun this 4).trans hI) hT hF
      · refine j_goto X (tgt := 90) dX2_winsConflicts_45 (by decide) ?_
        refine j_iinc X dX2_winsConflicts_90 rfl (q := 1) rfl (v := (nI (k + 1))) (nI_1 _) (by decide) (Ls2 := [(5, .int (nI (k + 1))), (6, .ref (zA Z (m) (k) (0))), (0, .ref (zA Z (m) (4) (0))), (1, .int (nI (g))), (2, .int (nI (j))), (3, .int (bI (w))), (4, .ref (zA Z (m) (g) (0)))]) rfl ?_
        refine j_goto X (tgt := 11) dX2_winsConflicts_93 (by decide) ?_
        refine j_sub [0, 2, 3, 4, 5, 6] (Ls2 := [(5, .int (nI (k + 1))), (0, .ref (zA Z (m) (4) (0))), (1, .int (nI (g))), (2, .int (nI (j))), (3, .int (bI (w))), (4, .ref (zA Z (m) (g) (0)))]) rfl ?_
        have eB : (pWcF m g j w) k S = (true, S) := by first | rfl | simp [pWcF, inc, c_32, c_42]
        have eL : lpE (pWcF m g j w) (n + 1) k S = lpE (pWcF m g j w) n (k + 1) S := by rw [lpE, eB]; rfl
        rw [eL] at hT hF
        exact ih (k + 1) S (by omega) (by have := pWcF_r (S := S) (m := m) (g := g) (j := j) (k := k) (m' := m) (i := 0) (w := w) hg (by omega) (by decide); rw [eB] at this; exact (congrFun this 4).trans hI) hT hF
set_option maxRecDepth 100000 in
set_option maxHeartbeats 4000000 in
theorem c_X2_winsConflicts (l : Launch) (Z : wZ) (S : St) (h : Hl) (m g : Nat) (hm : m < 6) (hg : g < 4) (j : Nat) (hj : j < 8) (w : Bool) (hcc : okI (S m 4 0 4) 4) : Ci l yX2_winsConflicts cX2_winsConflicts 8 .boolean 2 43 Z [.ref (zA Z (m) (4) (0)), .int (nI (g)), .int (nI (j)), .int (bI (w))] S h (bI (pWc S m g j w).1) ((pWc S m g j w).2) (h) := by
  have hc4 : pCC S m ≤ 4 := hcc.2
  refine Ci.of rfl (bI_nar _) (Nat.le_of_ble_eq_true rfl) (fun p e s mi args below meth c A0 Q X K => ?_)
  refine j_at rfl rfl (Ls3 := [(0, .ref (zA Z (m) (4) (0))), (1, .int (nI (g))), (2, .int (nI (j))), (3, .int (bI (w)))]) rfl rfl ?_
  refine j_aload_n X dX2_winsConflicts_0 rfl rfl (q := 0) rfl ?_
  refine jg_mach X hm 0 (by decide) lk_RX2_11 rfl rfl dX2_winsConflicts_1 rfl ?_
  refine j_iload_n X dX2_winsConflicts_4 rfl rfl (q := 1) rfl ?_
  refine j_aldCN X (g := g) hm hg dX2_winsConflicts_5 rfl ?_
  refine j_astore X dX2_winsConflicts_6 rfl (by decide) (Ls2 := [(4, .ref (zA Z (m) (g) (0))), (0, .ref (zA Z (m) (4) (0))), (1, .int (nI (g))), (2, .int (nI (j))), (3, .int (bI (w)))]) rfl ?_
  refine j_iconst X dX2_winsConflicts_8 rfl (v := 0) (by decide) ?_
  refine j_istore X dX2_winsConflicts_9 rfl (by decide) (Ls2 := [(5, .int (0)), (4, .ref (zA Z (m) (g) (0))), (0, .ref (zA Z (m) (4) (0))), (1, .int (nI (g))), (2, .int (nI (j))), (3, .int (bI (w)))]) rfl ?_
  refine j_sub [0, 2, 3, 4, 5, 1] (Ls2 := [(5, .int (0)), (0, .ref (zA Z (m) (4) (0))), (1, .int (nI (g))), (2, .int (nI (j))), (3, .int (bI (w))), (4, .ref (zA Z (m) (g) (0)))]) rfl ?_
  refine L_wc l Z h m g hm hg j hj w (pCC S m) hcc.2 X (pCC S m) 0 S (by omega) (by exact hcc.1) (fun hb1 => ?_) (fun hb1 => ?_)
  · refine j_name (fun S2 eS2 => ?_)
    refine j_iconst X dX2_winsConflicts_96 rfl (v := 1) (by decide) ?_
    exact j_ret (by subst eS2; first | rfl | simp [pWc, bI, hb1]) (by subst eS2; first | rfl | simp [pWc, bI, hb1]) rfl (K _ _ dX2_winsConflicts_97)
  · refine j_name (fun S3 eS3 => ?_)
    refine j_iconst X dX2_winsConflicts_88 rfl (v := 0) (by decide) ?_
    exact j_ret (by subst eS3; first | rfl | simp [pWc, bI, hb1]) (by subst eS3; first | rfl | simp [pWc, bI, hb1]) rfl (K _ _ dX2_winsConflicts_89)
set_option maxRecDepth 100000 in
set_option maxHeartbeats 4000000 in
theorem c_X2_readLine (l : Launch) (Z : wZ) (S : St) (h : Hl) (m g : Nat) (hm : m < 6) (hg : g < 4) (j : Nat) (hj : j < 8) (hcc : okI (S m 4 0 4) 4) : Cv l yX2_readLine cX2_readLine 4 3 70 Z [.ref (zA Z (m) (4) (0)), .int (nI (g)), .int (nI (j))] S h (pRead S m g j) (h) := by
  have hc4 : pCC S m ≤ 4 := hcc.2
  refine Cv.of rfl (Nat.le_of_ble_eq_true rfl) (fun p e s mi args below meth c A0 Q X K => ?_)
  refine j_at rfl rfl (Ls3 := [(0, .ref (zA Z (m) (4) (0))), (1, .int (nI (g))), (2, .int (nI (j)))]) rfl rfl ?_
  refine j_aload_n X dX2_readLine_0 rfl rfl (q := 0) rfl ?_
  refine jg_mach X hm 0 (by decide) lk_RX2_11 rfl rfl dX2_readLine_1 rfl ?_
  refine j_iload_n X dX2_readLine_4 rfl rfl (q := 1) rfl ?_
  refine j_aldCN X (g := g) hm hg dX2_readLine_5 rfl ?_
  refine j_astore_n X dX2_readLine_6 rfl rfl (by decide) (Ls2 := [(3, .ref (zA Z (m) (g) (0))), (0, .ref (zA Z (m) (4) (0))), (1, .int (nI (g))), (2, .int (nI (j)))]) rfl ?_
  refine j_iload_n X dX2_readLine_7 rfl rfl (q := 3) rfl ?_
  refine j_callSNi X (c_X5_isLine l Z S h (nI (j))) nk_RX2_160 mt_X5_isLine ini_RX5 mc_X5_isLine md_X5_isLine ⟨Nat.le_of_ble_eq_true rfl, Nat.le_of_ble_eq_true rfl⟩ ⟨Nat.le_of_ble_eq_true rfl, Nat.le_of_ble_eq_true rfl⟩ rfl (Nat.le_of_ble_eq_true rfl) (as := [.int (nI (j))]) (rest := []) rfl dX2_readLine_8 rfl ?_
  refine j_if_eq_f X dX2_readLine_11 rfl (tgt := 24) (by decide) (by rw [pIsLine_ok hj]; decide) ?_
  refine j_aload_n X dX2_readLine_14 rfl rfl (q := 1) rfl ?_
  refine j_iload_n X dX2_readLine_15 rfl rfl (q := 2) rfl ?_
  refine j_iload_n X dX2_readLine_16 rfl rfl (q := 3) rfl ?_
  refine j_iconst X dX2_readLine_17 rfl (v := 0) (by decide) ?_
  refine j_calli X (c_X2_winsConflicts l Z S h m g hm hg j hj false hcc) (wm_mach hm (by decide)) (wE_mach hm 0 _) rfl lk_RX2_164 mi_X2_winsConflicts ms_X2_winsConflicts ini_RX2 mc_X2_winsConflicts md_X2_winsConflicts ⟨Nat.le_of_ble_eq_true rfl, Nat.le_of_ble_eq_true rfl⟩ ⟨Nat.le_of_ble_eq_true rfl, Nat.le_of_ble_eq_true rfl⟩ rfl (Nat.le_of_ble_eq_true rfl) (as := [.int (nI (g)), .int (nI (j)), .int (0)]) (rest := []) rfl dX2_readLine_18 rfl ?_
  refine j_name (fun S1 eS1 => ?_)
  refine j_ifb_ne X dX2_readLine_21 rfl (tgt := 25) (by decide) (fun c_21 => ?_) (fun c_21 => ?_)
  · refine j_aload_n X dX2_readLine_25 rfl rfl (q := 0) rfl ?_
    refine jgN_core X hm hg 0 (by decide) nk_RX2_77 rfl rfl dX2_readLine_26 rfl ?_
    refine j_iload_n X dX2_readLine_29 rfl rfl (q := 3) rfl ?_
    refine j_ialdN X (k := j) (wm_core hm hg (by decide)) (wE_core hm hg 1 _) hj (by decide) dX2_readLine_30 rfl ?_
    refine j_if_ne X dX2_readLine_31 rfl (tgt := 69) (by decide) (fun c_31 => ?_) (fun c_31 => ?_)
    · refine j_aload_n X dX2_readLine_69 rfl rfl (q := 0) rfl ?_
      refine j_iload_n X dX2_readLine_70 rfl rfl (q := 3) rfl ?_
      refine j_callNv X (c_X0_noteRead l Z S1 h m g hm hg j hj) (wm_core hm hg (by decide)) (wE_core hm hg 0 _) rfl nk_RX2_171 mi_X0_noteRead ms_X0_noteRead ini_RX0 mc_X0_noteRead md_X0_noteRead ⟨Nat.le_of_ble_eq_true rfl, Nat.le_of_ble_eq_true rfl⟩ ⟨Nat.le_of_ble_eq_true rfl, Nat.le_of_ble_eq_true rfl⟩ rfl (Nat.le_of_ble_eq_true rfl) (as := [.int (nI (j))]) (rest := []) rfl dX2_readLine_71 rfl ?_
      refine j_name (fun S2 eS2 => ?_)
      refine j_aload_n X dX2_readLine_74 rfl rfl (q := 0) rfl ?_
      refine j_aload_n X dX2_readLine_75 rfl rfl (q := 0) rfl ?_
      refine jgN_core X hm hg 1 (by decide) nk_RX2_87 rfl rfl dX2_readLine_76 rfl ?_
      refine j_iload_n X dX2_readLine_79 rfl rfl (q := 3) rfl ?_
      refine j_ialdN X (k := j) (wm_core hm hg (by decide)) (wE_core hm hg 2 _) hj (by decide) dX2_readLine_80 rfl ?_
      refine jpN_core X hm hg 4 (by decide) nk_RX2_138 rfl rfl rfl (vp_nar_int _) rfl rfl dX2_readLine_81 rfl ?_
      refine j_name (fun S3 eS3 => ?_)
      exact j_at (by subst eS1; subst eS2; subst eS3; first | rfl | simp [pRead, pMiss, pGot, inc, c_21, c_31]) rfl rfl rfl (K _ _ dX2_readLine_84)
    · refine j_aload_n X dX2_readLine_34 rfl rfl (q := 1) rfl ?_
      refine jg_mach X hm 2 (by decide) lk_RX2_22 rfl rfl dX2_readLine_35 rfl ?_
      refine j_iconst X dX2_readLine_38 rfl (v := 0) (by decide) ?_
      refine j_dup2 X dX2_readLine_39 rfl rfl rfl ?_
      refine j_ialdN X (k := 0) (wm_mach hm (by decide)) (wE_mach hm 3 _) (by decide) (by decide) dX2_readLine_40 rfl ?_
      refine j_iconst X dX2_readLine_41 rfl (v := 1) (by decide) ?_
      refine j_iadd X dX2_readLine_42 rfl ?_
      refine j_iastN X (k := 0) (wm_mach hm (by decide)) (fun r => wE_mach hm 3 r) (by decide) (by decide) dX2_readLine_43 rfl ?_
      refine j_name (fun S4 eS4 => ?_)
      refine j_aload_n X dX2_readLine_44 rfl rfl (q := 1) rfl ?_
      refine j_iload_n X dX2_readLine_45 rfl rfl (q := 2) rfl ?_
      refine j_iload_n X dX2_readLine_46 rfl rfl (q := 3) rfl ?_
      refine j_callv X (c_X2_writeBackElsewhere l Z S4 h m g hm hg j hj (by subst eS1; subst eS4; simp [setF_4, inc_r, set2_r, set3_r, pWB_r, pWbe_r, pWc_r, pOver_r, pOwn_r, pTak_r, pRoll_4, pNote_4, pEndT_4, pBegT_4, hg, pCC, hcc.2, setF_g] <;> exact hcc)) (wm_mach hm (by decide)) (wE_mach hm 0 _) rfl lk_RX2_168 mi_X2_writeBackElsewhere ms_X2_writeBackElsewhere ini_RX2 mc_X2_writeBackElsewhere md_X2_writeBackElsewhere ⟨Nat.le_of_ble_eq_true rfl, Nat.le_of_ble_eq_true rfl⟩ ⟨Nat.le_of_ble_eq_true rfl, Nat.le_of_ble_eq_true rfl⟩ rfl (Nat.le_of_ble_eq_true rfl) (as := [.int (nI (g)), .int (nI (j))]) (rest := []) rfl dX2_readLine_47 rfl ?_
      refine j_name (fun S5 eS5 => ?_)
      refine j_aload_n X dX2_readLine_50 rfl rfl (q := 0) rfl ?_
      refine jgN_core X hm hg 0 (by decide) nk_RX2_77 rfl rfl dX2_readLine_51 rfl ?_
      refine j_iload_n X dX2_readLine_54 rfl rfl (q := 3) rfl ?_
      refine j_iconst X dX2_readLine_55 rfl (v := 1) (by decide) ?_
      refine j_iastN X (k := j) (wm_core hm hg (by decide)) (fun r => wE_core hm hg 1 r) hj (by decide) dX2_readLine_56 rfl ?_
      refine j_name (fun S6 eS6 => ?_)
      refine j_aload_n X dX2_readLine_57 rfl rfl (q := 0) rfl ?_
      refine jgN_core X hm hg 1 (by decide) nk_RX2_87 rfl rfl dX2_readLine_58 rfl ?_
      refine j_iload_n X dX2_readLine_61 rfl rfl (q := 3) rfl ?_
      refine j_aload_n X dX2_readLine_62 rfl rfl (q := 1) rfl ?_
      refine jg_mach X hm 1 (by decide) lk_RX2_18 rfl rfl dX2_readLine_63 rfl ?_
      refine j_iload_n X dX2_readLine_66 rfl rfl (q := 3) rfl ?_
      refine j_ialdN X (k := j) (wm_mach hm (by decide)) (wE_mach hm 2 _) hj (by decide) dX2_readLine_67 rfl ?_
      refine j_iastN X (k := j) (wm_core hm hg (by decide)) (fun r => wE_core hm hg 2 r) hj (by decide) dX2_readLine_68 rfl ?_
      refine j_name (fun S7 eS7 => ?_)
      refine j_aload_n X dX2_readLine_69 rfl rfl (q := 0) rfl ?_
      refine j_iload_n X dX2_readLine_70 rfl rfl (q := 3) rfl ?_
      refine j_callNv X (c_X0_noteRead l Z S7 h m g hm hg j hj) (wm_core hm hg (by decide)) (wE_core hm hg 0 _) rfl nk_RX2_171 mi_X0_noteRead ms_X0_noteRead ini_RX0 mc_X0_noteRead md_X0_noteRead ⟨Nat.le_of_ble_eq_true rfl, Nat.le_of_ble_eq_true rfl⟩ ⟨Nat.le_of_ble_eq_true rfl, Nat.le_of_ble_eq_true rfl⟩ rfl (Nat.le_of_ble_eq_true rfl) (as := [.int (nI (j))]) (rest := []) rfl dX2_readLine_71 rfl ?_
      refine j_name (fun S8 eS8 => ?_)
      refine j_aload_n X dX2_readLine_74 rfl rfl (q := 0) rfl ?_
      refine j_aload_n X dX2_readLine_75 rfl rfl (q := 0) rfl ?_
      refine jgN_core X hm hg 1 (by decide) nk_RX2_87 rfl rfl dX2_readLine_76 rfl ?_
      refine j_iload_n X dX2_readLine_79 rfl rfl (q := 3) rfl ?_
      refine j_ialdN X (k := j) (wm_core hm hg (by decide)) (wE_core hm hg 2 _) hj (by decide) dX2_readLine_80 rfl ?_
      refine jpN_core X hm hg 4 (by decide) nk_RX2_138 rfl rfl rfl (vp_nar_int _) rfl rfl dX2_readLine_81 rfl ?_
      refine j_name (fun S9 eS9 => ?_)
      exact j_at (by subst eS1; subst eS4; subst eS5; subst eS6; subst eS7; subst eS8; subst eS9; first | rfl | simp [pRead, pMiss, pGot, inc, c_21, c_31]) rfl rfl rfl (K _ _ dX2_readLine_84)
  · exact j_at (by subst eS1; first | rfl | simp [pRead, pMiss, pGot, inc, c_21]) rfl rfl rfl (K _ _ dX2_readLine_24)
set_option maxRecDepth 100000 in
set_option maxHeartbeats 4000000 in
theorem c_X2_writeLine (l : Launch) (Z : wZ) (S : St) (h : Hl) (m g : Nat) (hm : m < 6) (hg : g < 4) (j : Nat) (hj : j < 8) (hcc : okI (S m 4 0 4) 4) (hq : okI (S m 4 4 7) 400) : Cv l yX2_writeLine cX2_writeLine 4 3 71 Z [.ref (zA Z (m) (4) (0)), .int (nI (g)), .int (nI (j))] S h (pWrite S m g j) (h) := by
  have hc4 : pCC S m ≤ 4 := hcc.2
  refine Cv.of rfl (Nat.le_of_ble_eq_true rfl) (fun p e s mi args below meth c A0 Q X K => ?_)
  refine j_at rfl rfl (Ls3 := [(0, .ref (zA Z (m) (4) (0))), (1, .int (nI (g))), (2, .int (nI (j)))]) rfl rfl ?_
  refine j_aload_n X dX2_writeLine_0 rfl rfl (q := 0) rfl ?_
  refine jg_mach X hm 0 (by decide) lk_RX2_11 rfl rfl dX2_writeLine_1 rfl ?_
  refine j_iload_n X dX2_writeLine_4 rfl rfl (q := 1) rfl ?_
  refine j_aldCN X (g := g) hm hg dX2_writeLine_5 rfl ?_
  refine j_astore_n X dX2_writeLine_6 rfl rfl (by decide) (Ls2 := [(3, .ref (zA Z (m) (g) (0))), (0, .ref (zA Z (m) (4) (0))), (1, .int (nI (g))), (2, .int (nI (j)))]) rfl ?_
  refine j_iload_n X dX2_writeLine_7 rfl rfl (q := 3) rfl ?_
  refine j_callSNi X (c_X5_isLine l Z S h (nI (j))) nk_RX2_160 mt_X5_isLine ini_RX5 mc_X5_isLine md_X5_isLine ⟨Nat.le_of_ble_eq_true rfl, Nat.le_of_ble_eq_true rfl⟩ ⟨Nat.le_of_ble_eq_true rfl, Nat.le_of_ble_eq_true rfl⟩ rfl (Nat.le_of_ble_eq_true rfl) (as := [.int (nI (j))]) (rest := []) rfl dX2_writeLine_8 rfl ?_
  refine j_if_eq_f X dX2_writeLine_11 rfl (tgt := 24) (by decide) (by rw [pIsLine_ok hj]; decide) ?_
  refine j_aload_n X dX2_writeLine_14 rfl rfl (q := 1) rfl ?_
  refine j_iload_n X dX2_writeLine_15 rfl rfl (q := 2) rfl ?_
  refine j_iload_n X dX2_writeLine_16 rfl rfl (q := 3) rfl ?_
  refine j_iconst X dX2_writeLine_17 rfl (v := 1) (by decide) ?_
  refine j_calli X (c_X2_winsConflicts l Z S h m g hm hg j hj true hcc) (wm_mach hm (by decide)) (wE_mach hm 0 _) rfl lk_RX2_164 mi_X2_winsConflicts ms_X2_winsConflicts ini_RX2 mc_X2_winsConflicts md_X2_winsConflicts ⟨Nat.le_of_ble_eq_true rfl, Nat.le_of_ble_eq_true rfl⟩ ⟨Nat.le_of_ble_eq_true rfl, Nat.le_of_ble_eq_true rfl⟩ rfl (Nat.le_of_ble_eq_true rfl) (as := [.int (nI (g)), .int (nI (j)), .int (1)]) (rest := []) rfl dX2_writeLine_18 rfl ?_
  refine j_name (fun S1 eS1 => ?_)
  refine j_ifb_ne X dX2_writeLine_21 rfl (tgt := 25) (by decide) (fun c_21 => ?_) (fun c_21 => ?_)
  · refine j_aload_n X dX2_writeLine_25 rfl rfl (q := 0) rfl ?_
    refine j_iload_n X dX2_writeLine_26 rfl rfl (q := 3) rfl ?_
    refine j_aload_n X dX2_writeLine_27 rfl rfl (q := 1) rfl ?_
    refine jg_mach X hm 6 (by decide) lk_RX2_41 rfl rfl dX2_writeLine_28 rfl ?_
    refine j_callNi X (c_X0_hasNoRoomFor l Z S1 h m g hm hg (nI (j)) (S1 m 4 0 6)) (wm_core hm hg (by decide)) (wE_core hm hg 0 _) rfl nk_RX2_174 mi_X0_hasNoRoomFor ms_X0_hasNoRoomFor ini_RX0 mc_X0_hasNoRoomFor md_X0_hasNoRoomFor ⟨Nat.le_of_ble_eq_true rfl, Nat.le_of_ble_eq_true rfl⟩ ⟨Nat.le_of_ble_eq_true rfl, Nat.le_of_ble_eq_true rfl⟩ rfl (Nat.le_of_ble_eq_true rfl) (as := [.int (nI (j)), .int (S1 m 4 0 6)]) (rest := []) rfl dX2_writeLine_31 rfl ?_
    refine j_ifb_eq X dX2_writeLine_34 rfl (tgt := 53) (by decide) (fun c_34 => ?_) (fun c_34 => ?_)
    · refine j_aload_n X dX2_writeLine_53 rfl rfl (q := 0) rfl ?_
      refine jgN_core X hm hg 0 (by decide) nk_RX2_77 rfl rfl dX2_writeLine_54 rfl ?_
      refine j_iload_n X dX2_writeLine_57 rfl rfl (q := 3) rfl ?_
      refine j_ialdN X (k := j) (wm_core hm hg (by decide)) (wE_core hm hg 1 _) hj (by decide) dX2_writeLine_58 rfl ?_
      refine j_iconst X dX2_writeLine_59 rfl (v := 2) (by decide) ?_
      refine j_icmp_eq X dX2_writeLine_60 rfl (tgt := 72) (by decide) (fun c_60 => ?_) (fun c_60 => ?_)
      · refine j_aload_n X dX2_writeLine_72 rfl rfl (q := 0) rfl ?_
        refine j_callNi X (c_X0_inTransaction l Z S1 h m g hm hg ) (wm_core hm hg (by decide)) (wE_core hm hg 0 _) rfl nk_RX2_141 mi_X0_inTransaction ms_X0_inTransaction ini_RX0 mc_X0_inTransaction md_X0_inTransaction ⟨Nat.le_of_ble_eq_true rfl, Nat.le_of_ble_eq_true rfl⟩ ⟨Nat.le_of_ble_eq_true rfl, Nat.le_of_ble_eq_true rfl⟩ rfl (Nat.le_of_ble_eq_true rfl) (as := []) (rest := []) rfl dX2_writeLine_73 rfl ?_
        refine j_ifb_eq X dX2_writeLine_76 rfl (tgt := 96) (by decide) (fun c_76 => ?_) (fun c_76 => ?_)
        · refine j_aload_n X dX2_writeLine_96 rfl rfl (q := 0) rfl ?_
          refine jgN_core X hm hg 1 (by decide) nk_RX2_87 rfl rfl dX2_writeLine_97 rfl ?_
          refine j_iload_n X dX2_writeLine_100 rfl rfl (q := 3) rfl ?_
          refine j_aload_n X dX2_writeLine_101 rfl rfl (q := 0) rfl ?_
          refine jgN_core X hm hg 4 (by decide) nk_RX2_138 rfl rfl dX2_writeLine_102 rfl ?_
          refine j_iastN X (k := j) (wm_core hm hg (by decide)) (fun r => wE_core hm hg 2 r) hj (by decide) dX2_writeLine_105 rfl ?_
          refine j_name (fun S2 eS2 => ?_)
          refine j_aload_n X dX2_writeLine_106 rfl rfl (q := 0) rfl ?_
          refine j_callNi X (c_X0_inTransaction l Z S2 h m g hm hg ) (wm_core hm hg (by decide)) (wE_core hm hg 0 _) rfl nk_RX2_141 mi_X0_inTransaction ms_X0_inTransaction ini_RX0 mc_X0_inTransaction md_X0_inTransaction ⟨Nat.le_of_ble_eq_true rfl, Nat.le_of_ble_eq_true rfl⟩ ⟨Nat.le_of_ble_eq_true rfl, Nat.le_of_ble_eq_true rfl⟩ rfl (Nat.le_of_ble_eq_true rfl) (as := []) (rest := []) rfl dX2_writeLine_107 rfl ?_
          refine j_ifb_eq X dX2_writeLine_110 rfl (tgt := 128) (by decide) (fun c_110 => ?_) (fun c_110 => ?_)
          · refine j_aload_n X dX2_writeLine_128 rfl rfl (q := 1) rfl ?_
            refine jg_mach X hm 3 (by decide) lk_RX2_30 rfl rfl dX2_writeLine_129 rfl ?_
            refine j_iload_n X dX2_writeLine_132 rfl rfl (q := 2) rfl ?_
            refine j_iload_n X dX2_writeLine_133 rfl rfl (q := 3) rfl ?_
            refine j_aload_n X dX2_writeLine_134 rfl rfl (q := 0) rfl ?_
            refine jgN_core X hm hg 1 (by decide) nk_RX2_87 rfl rfl dX2_writeLine_135 rfl ?_
            refine j_callNv X (c_X1_addWrite l Z S2 h m hm (nI (g)) j m g 2 (wm_core hm hg (by decide)) (fun _ r => wE_core hm hg 2 r) (by subst eS1; subst eS2; simp [setF_4, inc_r, set2_r, set3_r, pWB_r, pWbe_r, pWc_r, pOver_r, pOwn_r, pTak_r, pRoll_4, pNote_4, pEndT_4, pBegT_4, hg, pCC, hcc.2, setF_g] <;> exact hq)) (wm_mach hm (by decide)) (wE_mach hm 4 _) rfl nk_RX2_187 mi_X1_addWrite ms_X1_addWrite ini_RX1 mc_X1_addWrite md_X1_addWrite ⟨Nat.le_of_ble_eq_true rfl, Nat.le_of_ble_eq_true rfl⟩ ⟨Nat.le_of_ble_eq_true rfl, Nat.le_of_ble_eq_true rfl⟩ rfl (Nat.le_of_ble_eq_true rfl) (as := [.int (nI (g)), .int (nI (j)), .ref (zA Z (m) (g) (2))]) (rest := []) rfl dX2_writeLine_138 rfl ?_
            refine j_name (fun S3 eS3 => ?_)
            exact j_at (by subst eS1; subst eS2; subst eS3; first | rfl | simp [pWrite, pWrB, pOwn, pPut, inc, c_21, c_34, c_60, c_76, c_110]) rfl rfl rfl (K _ _ dX2_writeLine_141)
          · refine j_aload_n X dX2_writeLine_113 rfl rfl (q := 0) rfl ?_
            refine j_dup X dX2_writeLine_114 rfl rfl ?_
            refine jgN_core X hm hg 10 (by decide) nk_RX2_80 rfl rfl dX2_writeLine_115 rfl ?_
            refine j_iconst X dX2_writeLine_118 rfl (v := 1) (by decide) ?_
            refine j_iload_n X dX2_writeLine_119 rfl rfl (q := 3) rfl ?_
            refine j_ishl X dX2_writeLine_120 rfl ?_
            refine j_ior X dX2_writeLine_121 rfl ?_
            refine jpN_core X hm hg 10 (by decide) nk_RX2_80 rfl rfl rfl (vp_nar_int _) rfl rfl dX2_writeLine_122 rfl ?_
            refine j_name (fun S4 eS4 => ?_)
            refine j_goto X (tgt := 141) dX2_writeLine_125 (by decide) ?_
            exact j_at (by subst eS1; subst eS2; subst eS4; first | rfl | simp [pWrite, pWrB, pOwn, pPut, inc, c_21, c_34, c_60, c_76, c_110]) rfl rfl rfl (K _ _ dX2_writeLine_141)
        · refine j_aload_n X dX2_writeLine_79 rfl rfl (q := 0) rfl ?_
          refine jgN_core X hm hg 10 (by decide) nk_RX2_80 rfl rfl dX2_writeLine_80 rfl ?_
          refine j_iload_n X dX2_writeLine_83 rfl rfl (q := 3) rfl ?_
          refine j_callSNi X (c_X5_contains l Z S1 h (S1 m g 0 10) (nI (j))) nk_RX2_83 mt_X5_contains ini_RX5 mc_X5_contains md_X5_contains ⟨Nat.le_of_ble_eq_true rfl, Nat.le_of_ble_eq_true rfl⟩ ⟨Nat.le_of_ble_eq_true rfl, Nat.le_of_ble_eq_true rfl⟩ rfl (Nat.le_of_ble_eq_true rfl) (as := [.int (S1 m g 0 10), .int (nI (j))]) (rest := []) rfl dX2_writeLine_84 rfl ?_
          refine j_ifb_ne X dX2_writeLine_87 rfl (tgt := 96) (by decide) (fun c_87 => ?_) (fun c_87 => ?_)
          · refine j_aload_n X dX2_writeLine_96 rfl rfl (q := 0) rfl ?_
            refine jgN_core X hm hg 1 (by decide) nk_RX2_87 rfl rfl dX2_writeLine_97 rfl ?_
            refine j_iload_n X dX2_writeLine_100 rfl rfl (q := 3) rfl ?_
            refine j_aload_n X dX2_writeLine_101 rfl rfl (q := 0) rfl ?_
            refine jgN_core X hm hg 4 (by decide) nk_RX2_138 rfl rfl dX2_writeLine_102 rfl ?_
            refine j_iastN X (k := j) (wm_core hm hg (by decide)) (fun r => wE_core hm hg 2 r) hj (by decide) dX2_writeLine_105 rfl ?_
            refine j_name (fun S5 eS5 => ?_)
            refine j_aload_n X dX2_writeLine_106 rfl rfl (q := 0) rfl ?_
            refine j_callNi X (c_X0_inTransaction l Z S5 h m g hm hg ) (wm_core hm hg (by decide)) (wE_core hm hg 0 _) rfl nk_RX2_141 mi_X0_inTransaction ms_X0_inTransaction ini_RX0 mc_X0_inTransaction md_X0_inTransaction ⟨Nat.le_of_ble_eq_true rfl, Nat.le_of_ble_eq_true rfl⟩ ⟨Nat.le_of_ble_eq_true rfl, Nat.le_of_ble_eq_true rfl⟩ rfl (Nat.le_of_ble_eq_true rfl) (as := []) (rest := []) rfl dX2_writeLine_107 rfl ?_
            refine j_ifb_eq X dX2_writeLine_110 rfl (tgt := 128) (by decide) (fun c_110_6 => ?_) (fun c_110_6 => ?_)
            · refine j_aload_n X dX2_writeLine_128 rfl rfl (q := 1) rfl ?_
              refine jg_mach X hm 3 (by decide) lk_RX2_30 rfl rfl dX2_writeLine_129 rfl ?_
              refine j_iload_n X dX2_writeLine_132 rfl rfl (q := 2) rfl ?_
              refine j_iload_n X dX2_writeLine_133 rfl rfl (q := 3) rfl ?_
              refine j_aload_n X dX2_writeLine_134 rfl rfl (q := 0) rfl ?_
              refine jgN_core X hm hg 1 (by decide) nk_RX2_87 rfl rfl dX2_writeLine_135 rfl ?_
              refine j_callNv X (c_X1_addWrite l Z S5 h m hm (nI (g)) j m g 2 (wm_core hm hg (by decide)) (fun _ r => wE_core hm hg 2 r) (by subst eS1; subst eS5; simp [setF_4, inc_r, set2_r, set3_r, pWB_r, pWbe_r, pWc_r, pOver_r, pOwn_r, pTak_r, pRoll_4, pNote_4, pEndT_4, pBegT_4, hg, pCC, hcc.2, setF_g] <;> exact hq)) (wm_mach hm (by decide)) (wE_mach hm 4 _) rfl nk_RX2_187 mi_X1_addWrite ms_X1_addWrite ini_RX1 mc_X1_addWrite md_X1_addWrite ⟨Nat.le_of_ble_eq_true rfl, Nat.le_of_ble_eq_true rfl⟩ ⟨Nat.le_of_ble_eq_true rfl, Nat.le_of_ble_eq_true rfl⟩ rfl (Nat.le_of_ble_eq_true rfl) (as := [.int (nI (g)), .int (nI (j)), .ref (zA Z (m) (g) (2))]) (rest := []) rfl dX2_writeLine_138 rfl ?_
              refine j_name (fun S7 eS7 => ?_)
              exact j_at (by subst eS1; subst eS5; subst eS7; first | rfl | simp [pWrite, pWrB, pOwn, pPut, inc, c_21, c_34, c_60, c_76, c_87, c_110_6]) rfl rfl rfl (K _ _ dX2_writeLine_141)
            · refine j_aload_n X dX2_writeLine_113 rfl rfl (q := 0) rfl ?_
              refine j_dup X dX2_writeLine_114 rfl rfl ?_
              refine jgN_core X hm hg 10 (by decide) nk_RX2_80 rfl rfl dX2_writeLine_115 rfl ?_
              refine j_iconst X dX2_writeLine_118 rfl (v := 1) (by decide) ?_
              refine j_iload_n X dX2_writeLine_119 rfl rfl (q := 3) rfl ?_
              refine j_ishl X dX2_writeLine_120 rfl ?_
              refine j_ior X dX2_writeLine_121 rfl ?_
              refine jpN_core X hm hg 10 (by decide) nk_RX2_80 rfl rfl rfl (vp_nar_int _) rfl rfl dX2_writeLine_122 rfl ?_
              refine j_name (fun S8 eS8 => ?_)
              refine j_goto X (tgt := 141) dX2_writeLine_125 (by decide) ?_
              exact j_at (by subst eS1; subst eS5; subst eS8; first | rfl | simp [pWrite, pWrB, pOwn, pPut, inc, c_21, c_34, c_60, c_76, c_87, c_110_6]) rfl rfl rfl (K _ _ dX2_writeLine_141)
          · refine j_aload_n X dX2_writeLine_90 rfl rfl (q := 1) rfl ?_
            refine j_aload_n X dX2_writeLine_91 rfl rfl (q := 0) rfl ?_
            refine j_iload_n X dX2_writeLine_92 rfl rfl (q := 3) rfl ?_
            refine j_callv X (c_X2_writeBack l Z S1 h m g hm hg j hj) (wm_mach hm (by decide)) (wE_mach hm 0 _) rfl lk_RX2_183 mi_X2_writeBack ms_X2_writeBack ini_RX2 mc_X2_writeBack md_X2_writeBack ⟨Nat.le_of_ble_eq_true rfl, Nat.le_of_ble_eq_true rfl⟩ ⟨Nat.le_of_ble_eq_true rfl, Nat.le_of_ble_eq_true rfl⟩ rfl (Nat.le_of_ble_eq_true rfl) (as := [.ref (zA Z (m) (g) (0)), .int (nI (j))]) (rest := []) rfl dX2_writeLine_93 rfl ?_
            refine j_name (fun S9 eS9 => ?_)
            refine j_aload_n X dX2_writeLine_96 rfl rfl (q := 0) rfl ?_
            refine jgN_core X hm hg 1 (by decide) nk_RX2_87 rfl rfl dX2_writeLine_97 rfl ?_
            refine j_iload_n X dX2_writeLine_100 rfl rfl (q := 3) rfl ?_
            refine j_aload_n X dX2_writeLine_101 rfl rfl (q := 0) rfl ?_
            refine jgN_core X hm hg 4 (by decide) nk_RX2_138 rfl rfl dX2_writeLine_102 rfl ?_
            refine j_iastN X (k := j) (wm_core hm hg (by decide)) (fun r => wE_core hm hg 2 r) hj (by decide) dX2_writeLine_105 rfl ?_
            refine j_name (fun S10 eS10 => ?_)
            refine j_aload_n X dX2_writeLine_106 rfl rfl (q := 0) rfl ?_
            refine j_callNi X (c_X0_inTransaction l Z S10 h m g hm hg ) (wm_core hm hg (by decide)) (wE_core hm hg 0 _) rfl nk_RX2_141 mi_X0_inTransaction ms_X0_inTransaction ini_RX0 mc_X0_inTransaction md_X0_inTransaction ⟨Nat.le_of_ble_eq_true rfl, Nat.le_of_ble_eq_true rfl⟩ ⟨Nat.le_of_ble_eq_true rfl, Nat.le_of_ble_eq_true rfl⟩ rfl (Nat.le_of_ble_eq_true rfl) (as := []) (rest := []) rfl dX2_writeLine_107 rfl ?_
            refine j_ifb_eq X dX2_writeLine_110 rfl (tgt := 128) (by decide) (fun c_110_11 => ?_) (fun c_110_11 => ?_)
            · refine j_aload_n X dX2_writeLine_128 rfl rfl (q := 1) rfl ?_
              refine jg_mach X hm 3 (by decide) lk_RX2_30 rfl rfl dX2_writeLine_129 rfl ?_
              refine j_iload_n X dX2_writeLine_132 rfl rfl (q := 2) rfl ?_
              refine j_iload_n X dX2_writeLine_133 rfl rfl (q := 3) rfl ?_
              refine j_aload_n X dX2_writeLine_134 rfl rfl (q := 0) rfl ?_
              refine jgN_core X hm hg 1 (by decide) nk_RX2_87 rfl rfl dX2_writeLine_135 rfl ?_
              refine j_callNv X (c_X1_addWrite l Z S10 h m hm (nI (g)) j m g 2 (wm_core hm hg (by decide)) (fun _ r => wE_core hm hg 2 r) (by subst eS1; subst eS9; subst eS10; simp [setF_4, inc_r, set2_r, set3_r, pWB_r, pWbe_r, pWc_r, pOver_r, pOwn_r, pTak_r, pRoll_4, pNote_4, pEndT_4, pBegT_4, hg, pCC, hcc.2, setF_g] <;> exact hq)) (wm_mach hm (by decide)) (wE_mach hm 4 _) rfl nk_RX2_187 mi_X1_addWrite ms_X1_addWrite ini_RX1 mc_X1_addWrite md_X1_addWrite ⟨Nat.le_of_ble_eq_true rfl, Nat.le_of_ble_eq_true rfl⟩ ⟨Nat.le_of_ble_eq_true rfl, Nat.le_of_ble_eq_true rfl⟩ rfl (Nat.le_of_ble_eq_true rfl) (as := [.int (nI (g)), .int (nI (j)), .ref (zA Z (m) (g) (2))]) (rest := []) rfl dX2_writeLine_138 rfl ?_
              refine j_name (fun S12 eS12 => ?_)
              exact j_at (by subst eS1; subst eS9; subst eS10; subst eS12; first | rfl | simp [pWrite, pWrB, pOwn, pPut, inc, c_21, c_34, c_60, c_76, c_87, c_110_11]) rfl rfl rfl (K _ _ dX2_writeLine_141)
            · refine j_aload_n X dX2_writeLine_113 rfl rfl (q := 0) rfl ?_
              refine j_dup X dX2_writeLine_114 rfl rfl ?_
              refine jgN_core X hm hg 10 (by decide) nk_RX2_80 rfl rfl dX2_writeLine_115 rfl ?_
              refine j_iconst X dX2_writeLine_118 rfl (v := 1) (by decide) ?_
              refine j_iload_n X dX2_writeLine_119 rfl rfl (q := 3) rfl ?_
              refine j_ishl X dX2_writeLine_120 rfl ?_
              refine j_ior X dX2_writeLine_121 rfl ?_
              refine jpN_core X hm hg 10 (by decide) nk_RX2_80 rfl rfl rfl (vp_nar_int _) rfl rfl dX2_writeLine_122 rfl ?_
              refine j_name (fun S13 eS13 => ?_)
              refine j_goto X (tgt := 141) dX2_writeLine_125 (by decide) ?_
              exact j_at (by subst eS1; subst eS9; subst eS10; subst eS13; first | rfl | simp [pWrite, pWrB, pOwn, pPut, inc, c_21, c_34, c_60, c_76, c_87, c_110_11]) rfl rfl rfl (K _ _ dX2_writeLine_141)
      · refine j_aload_n X dX2_writeLine_63 rfl rfl (q := 1) rfl ?_
        refine j_iload_n X dX2_writeLine_64 rfl rfl (q := 2) rfl ?_
        refine j_iload_n X dX2_writeLine_65 rfl rfl (q := 3) rfl ?_
        refine j_callv X (c_X2_takeOver l Z S1 h m g hm hg j hj (by subst eS1; simp [setF_4, inc_r, set2_r, set3_r, pWB_r, pWbe_r, pWc_r, pOver_r, pOwn_r, pTak_r, pRoll_4, pNote_4, pEndT_4, pBegT_4, hg, pCC, hcc.2, setF_g] <;> exact hcc)) (wm_mach hm (by decide)) (wE_mach hm 0 _) rfl lk_RX2_180 mi_X2_takeOver ms_X2_takeOver ini_RX2 mc_X2_takeOver md_X2_takeOver ⟨Nat.le_of_ble_eq_true rfl, Nat.le_of_ble_eq_true rfl⟩ ⟨Nat.le_of_ble_eq_true rfl, Nat.le_of_ble_eq_true rfl⟩ rfl (Nat.le_of_ble_eq_true rfl) (as := [.int (nI (g)), .int (nI (j))]) (rest := []) rfl dX2_writeLine_66 rfl ?_
        refine j_name (fun S14 eS14 => ?_)
        refine j_goto X (tgt := 96) dX2_writeLine_69 (by decide) ?_
        refine j_aload_n X dX2_writeLine_96 rfl rfl (q := 0) rfl ?_
        refine jgN_core X hm hg 1 (by decide) nk_RX2_87 rfl rfl dX2_writeLine_97 rfl ?_
        refine j_iload_n X dX2_writeLine_100 rfl rfl (q := 3) rfl ?_
        refine j_aload_n X dX2_writeLine_101 rfl rfl (q := 0) rfl ?_
        refine jgN_core X hm hg 4 (by decide) nk_RX2_138 rfl rfl dX2_writeLine_102 rfl ?_
        refine j_iastN X (k := j) (wm_core hm hg (by decide)) (fun r => wE_core hm hg 2 r) hj (by decide) dX2_writeLine_105 rfl ?_
        refine j_name (fun S15 eS15 => ?_)
        refine j_aload_n X dX2_writeLine_106 rfl rfl (q := 0) rfl ?_
        refine j_callNi X (c_X0_inTransaction l Z S15 h m g hm hg ) (wm_core hm hg (by decide)) (wE_core hm hg 0 _) rfl nk_RX2_141 mi_X0_inTransaction ms_X0_inTransaction ini_RX0 mc_X0_inTransaction md_X0_inTransaction ⟨Nat.le_of_ble_eq_true rfl, Nat.le_of_ble_eq_true rfl⟩ ⟨Nat.le_of_ble_eq_true rfl, Nat.le_of_ble_eq_true rfl⟩ rfl (Nat.le_of_ble_eq_true rfl) (as := []) (rest := []) rfl dX2_writeLine_107 rfl ?_
        refine j_ifb_eq X dX2_writeLine_110 rfl (tgt := 128) (by decide) (fun c_110_16 => ?_) (fun c_110_16 => ?_)
        · refine j_aload_n X dX2_writeLine_128 rfl rfl (q := 1) rfl ?_
          refine jg_mach X hm 3 (by decide) lk_RX2_30 rfl rfl dX2_writeLine_129 rfl ?_
          refine j_iload_n X dX2_writeLine_132 rfl rfl (q := 2) rfl ?_
          refine j_iload_n X dX2_writeLine_133 rfl rfl (q := 3) rfl ?_
          refine j_aload_n X dX2_writeLine_134 rfl rfl (q := 0) rfl ?_
          refine jgN_core X hm hg 1 (by decide) nk_RX2_87 rfl rfl dX2_writeLine_135 rfl ?_
          refine j_callNv X (c_X1_addWrite l Z S15 h m hm (nI (g)) j m g 2 (wm_core hm hg (by decide)) (fun _ r => wE_core hm hg 2 r) (by subst eS1; subst eS14; subst eS15; simp [setF_4, inc_r, set2_r, set3_r, pWB_r, pWbe_r, pWc_r, pOver_r, pOwn_r, pTak_r, pRoll_4, pNote_4, pEndT_4, pBegT_4, hg, pCC, hcc.2, setF_g] <;> exact hq)) (wm_mach hm (by decide)) (wE_mach hm 4 _) rfl nk_RX2_187 mi_X1_addWrite ms_X1_addWrite ini_RX1 mc_X1_addWrite md_X1_addWrite ⟨Nat.le_of_ble_eq_true rfl, Nat.le_of_ble_eq_true rfl⟩ ⟨Nat.le_of_ble_eq_true rfl, Nat.le_of_ble_eq_true rfl⟩ rfl (Nat.le_of_ble_eq_true rfl) (as := [.int (nI (g)), .int (nI (j)), .ref (zA Z (m) (g) (2))]) (rest := []) rfl dX2_writeLine_138 rfl ?_
          refine j_name (fun S17 eS17 => ?_)
          exact j_at (by subst eS1; subst eS14; subst eS15; subst eS17; first | rfl | simp [pWrite, pWrB, pOwn, pPut, inc, c_21, c_34, c_60, c_110_16]) rfl rfl rfl (K _ _ dX2_writeLine_141)
        · refine j_aload_n X dX2_writeLine_113 rfl rfl (q := 0) rfl ?_
          refine j_dup X dX2_writeLine_114 rfl rfl ?_
          refine jgN_core X hm hg 10 (by decide) nk_RX2_80 rfl rfl dX2_writeLine_115 rfl ?_
          refine j_iconst X dX2_writeLine_118 rfl (v := 1) (by decide) ?_
          refine j_iload_n X dX2_writeLine_119 rfl rfl (q := 3) rfl ?_
          refine j_ishl X dX2_writeLine_120 rfl ?_
          refine j_ior X dX2_writeLine_121 rfl ?_
          refine jpN_core X hm hg 10 (by decide) nk_RX2_80 rfl rfl rfl (vp_nar_int _) rfl rfl dX2_writeLine_122 rfl ?_
          refine j_name (fun S18 eS18 => ?_)
          refine j_goto X (tgt := 141) dX2_writeLine_125 (by decide) ?_
          exact j_at (by subst eS1; subst eS14; subst eS15; subst eS18; first | rfl | simp [pWrite, pWrB, pOwn, pPut, inc, c_21, c_34, c_60, c_110_16]) rfl rfl rfl (K _ _ dX2_writeLine_141)
    · refine j_aload_n X dX2_writeLine_37 rfl rfl (q := 0) rfl ?_
      refine j_callNv X (c_X0_rollBack l Z S1 h m g hm hg ) (wm_core hm hg (by decide)) (wE_core hm hg 0 _) rfl nk_RX2_177 mi_X0_rollBack ms_X0_rollBack ini_RX0 mc_X0_rollBack md_X0_rollBack ⟨Nat.le_of_ble_eq_true rfl, Nat.le_of_ble_eq_true rfl⟩ ⟨Nat.le_of_ble_eq_true rfl, Nat.le_of_ble_eq_true rfl⟩ rfl (Nat.le_of_ble_eq_true rfl) (as := []) (rest := []) rfl dX2_writeLine_38 rfl ?_
      refine j_name (fun S19 eS19 => ?_)
      refine j_aload_n X dX2_writeLine_41 rfl rfl (q := 1) rfl ?_
      refine jg_mach X hm 2 (by decide) lk_RX2_22 rfl rfl dX2_writeLine_42 rfl ?_
      refine j_bipush X dX2_writeLine_45 rfl (v := 6) (by decide) ?_
      refine j_dup2 X dX2_writeLine_47 rfl rfl rfl ?_
      refine j_ialdN X (k := 6) (wm_mach hm (by decide)) (wE_mach hm 3 _) (by decide) (by decide) dX2_writeLine_48 rfl ?_
      refine j_iconst X dX2_writeLine_49 rfl (v := 1) (by decide) ?_
      refine j_iadd X dX2_writeLine_50 rfl ?_
      refine j_iastN X (k := 6) (wm_mach hm (by decide)) (fun r => wE_mach hm 3 r) (by decide) (by decide) dX2_writeLine_51 rfl ?_
      refine j_name (fun S20 eS20 => ?_)
      exact j_at (by subst eS1; subst eS19; subst eS20; first | rfl | simp [pWrite, pWrB, pOwn, pPut, inc, c_21, c_34]) rfl rfl rfl (K _ _ dX2_writeLine_52)
  · exact j_at (by subst eS1; first | rfl | simp [pWrite, pWrB, pOwn, pPut, inc, c_21]) rfl rfl rfl (K _ _ dX2_writeLine_24)
set_option maxRecDepth 100000 in
set_option maxHeartbeats 4000000 in
theorem c_X2_beginIn (l : Launch) (Z : wZ) (S : St) (h : Hl) (m g : Nat) (hm : m < 6) (hg : g < 4) : Cv l yX2_beginIn cX2_beginIn 2 1 21 Z [.ref (zA Z (m) (4) (0)), .ref (zA Z (m) (g) (0))] S h (pBegin S m g) (h) := by
  refine Cv.of rfl (Nat.le_of_ble_eq_true rfl) (fun p e s mi args below meth c A0 Q X K => ?_)
  refine j_at rfl rfl (Ls3 := [(0, .ref (zA Z (m) (4) (0))), (1, .ref (zA Z (m) (g) (0)))]) rfl rfl ?_
  refine j_aload_n X dX2_beginIn_0 rfl rfl (q := 1) rfl ?_
  refine j_callNi X (c_X0_inTransaction l Z S h m g hm hg ) (wm_core hm hg (by decide)) (wE_core hm hg 0 _) rfl nk_RX2_141 mi_X0_inTransaction ms_X0_inTransaction ini_RX0 mc_X0_inTransaction md_X0_inTransaction ⟨Nat.le_of_ble_eq_true rfl, Nat.le_of_ble_eq_true rfl⟩ ⟨Nat.le_of_ble_eq_true rfl, Nat.le_of_ble_eq_true rfl⟩ rfl (Nat.le_of_ble_eq_true rfl) (as := []) (rest := []) rfl dX2_beginIn_1 rfl ?_
  refine j_ifb_eq X dX2_beginIn_4 rfl (tgt := 8) (by decide) (fun c_4 => ?_) (fun c_4 => ?_)
  · refine j_aload_n X dX2_beginIn_8 rfl rfl (q := 1) rfl ?_
    refine jgN_core X hm hg 6 (by decide) nk_RX2_144 rfl rfl dX2_beginIn_9 rfl ?_
    refine j_iconst X dX2_beginIn_12 rfl (v := -1) (by decide) ?_
    refine j_icmp_eq X dX2_beginIn_13 rfl (tgt := 27) (by decide) (fun c_13 => ?_) (fun c_13 => ?_)
    · refine j_aload_n X dX2_beginIn_27 rfl rfl (q := 1) rfl ?_
      refine j_aload_n X dX2_beginIn_28 rfl rfl (q := 0) rfl ?_
      refine jg_mach X hm 8 (by decide) lk_RX2_47 rfl rfl dX2_beginIn_29 rfl ?_
      refine j_callNv X (c_X0_beginTransaction l Z S h m g hm hg (S m 4 0 8)) (wm_core hm hg (by decide)) (wE_core hm hg 0 _) rfl nk_RX2_147 mi_X0_beginTransaction ms_X0_beginTransaction ini_RX0 mc_X0_beginTransaction md_X0_beginTransaction ⟨Nat.le_of_ble_eq_true rfl, Nat.le_of_ble_eq_true rfl⟩ ⟨Nat.le_of_ble_eq_true rfl, Nat.le_of_ble_eq_true rfl⟩ rfl (Nat.le_of_ble_eq_true rfl) (as := [.int (S m 4 0 8)]) (rest := []) rfl dX2_beginIn_32 rfl ?_
      refine j_name (fun S1 eS1 => ?_)
      refine j_aload_n X dX2_beginIn_35 rfl rfl (q := 0) rfl ?_
      refine j_dup X dX2_beginIn_36 rfl rfl ?_
      refine jg_mach X hm 8 (by decide) lk_RX2_47 rfl rfl dX2_beginIn_37 rfl ?_
      refine j_iconst X dX2_beginIn_40 rfl (v := 1) (by decide) ?_
      refine j_iadd X dX2_beginIn_41 rfl ?_
      refine jp_mach X hm 8 (by decide) lk_RX2_47 rfl rfl rfl (vp_nar_int _) rfl rfl dX2_beginIn_42 rfl ?_
      refine j_name (fun S2 eS2 => ?_)
      exact j_at (by subst eS1; subst eS2; first | rfl | simp [pBegin, c_4, c_13]) rfl rfl rfl (K _ _ dX2_beginIn_45)
    · refine j_aload_n X dX2_beginIn_16 rfl rfl (q := 1) rfl ?_
      refine j_aload_n X dX2_beginIn_17 rfl rfl (q := 1) rfl ?_
      refine jgN_core X hm hg 6 (by decide) nk_RX2_144 rfl rfl dX2_beginIn_18 rfl ?_
      refine j_callNv X (c_X0_beginTransaction l Z S h m g hm hg (S m g 0 6)) (wm_core hm hg (by decide)) (wE_core hm hg 0 _) rfl nk_RX2_147 mi_X0_beginTransaction ms_X0_beginTransaction ini_RX0 mc_X0_beginTransaction md_X0_beginTransaction ⟨Nat.le_of_ble_eq_true rfl, Nat.le_of_ble_eq_true rfl⟩ ⟨Nat.le_of_ble_eq_true rfl, Nat.le_of_ble_eq_true rfl⟩ rfl (Nat.le_of_ble_eq_true rfl) (as := [.int (S m g 0 6)]) (rest := []) rfl dX2_beginIn_21 rfl ?_
      refine j_name (fun S3 eS3 => ?_)
      refine j_goto X (tgt := 45) dX2_beginIn_24 (by decide) ?_
      exact j_at (by subst eS3; first | rfl | simp [pBegin, c_4, c_13]) rfl rfl rfl (K _ _ dX2_beginIn_45)
  · exact j_at (by first | rfl | simp [pBegin, c_4]) rfl rfl rfl (K _ _ dX2_beginIn_7)
set_option maxRecDepth 100000 in
set_option maxHeartbeats 4000000 in
theorem c_X2_commitIn (l : Launch) (Z : wZ) (S : St) (h : Hl) (m g : Nat) (hm : m < 6) (hg : g < 4) (hq : okI (S m 4 4 7) 400) : Cv l yX2_commitIn cX2_commitIn 3 3 70 Z [.ref (zA Z (m) (4) (0)), .int (nI (g))] S h (pCommit S m g) (h) := by
  refine Cv.of rfl (Nat.le_of_ble_eq_true rfl) (fun p e s mi args below meth c A0 Q X K => ?_)
  refine j_at rfl rfl (Ls3 := [(0, .ref (zA Z (m) (4) (0))), (1, .int (nI (g)))]) rfl rfl ?_
  refine j_aload_n X dX2_commitIn_0 rfl rfl (q := 0) rfl ?_
  refine jg_mach X hm 0 (by decide) lk_RX2_11 rfl rfl dX2_commitIn_1 rfl ?_
  refine j_iload_n X dX2_commitIn_4 rfl rfl (q := 1) rfl ?_
  refine j_aldCN X (g := g) hm hg dX2_commitIn_5 rfl ?_
  refine j_astore_n X dX2_commitIn_6 rfl rfl (by decide) (Ls2 := [(2, .ref (zA Z (m) (g) (0))), (0, .ref (zA Z (m) (4) (0))), (1, .int (nI (g)))]) rfl ?_
  refine j_aload_n X dX2_commitIn_7 rfl rfl (q := 0) rfl ?_
  refine j_callNi X (c_X0_inTransaction l Z S h m g hm hg ) (wm_core hm hg (by decide)) (wE_core hm hg 0 _) rfl nk_RX2_141 mi_X0_inTransaction ms_X0_inTransaction ini_RX0 mc_X0_inTransaction md_X0_inTransaction ⟨Nat.le_of_ble_eq_true rfl, Nat.le_of_ble_eq_true rfl⟩ ⟨Nat.le_of_ble_eq_true rfl, Nat.le_of_ble_eq_true rfl⟩ rfl (Nat.le_of_ble_eq_true rfl) (as := []) (rest := []) rfl dX2_commitIn_8 rfl ?_
  refine j_ifb_eq X dX2_commitIn_11 rfl (tgt := 37) (by decide) (fun c_11 => ?_) (fun c_11 => ?_)
  · exact j_at (by first | rfl | simp [pCommit, c_11]) rfl rfl rfl (K _ _ dX2_commitIn_37)
  · refine j_aload_n X dX2_commitIn_14 rfl rfl (q := 1) rfl ?_
    refine jg_mach X hm 3 (by decide) lk_RX2_30 rfl rfl dX2_commitIn_15 rfl ?_
    refine j_iload_n X dX2_commitIn_18 rfl rfl (q := 2) rfl ?_
    refine j_aload_n X dX2_commitIn_19 rfl rfl (q := 0) rfl ?_
    refine j_callNv X (c_X1_addTransaction l Z S h m hm (nI (g)) m g hm hg hq) (wm_mach hm (by decide)) (wE_mach hm 4 _) rfl nk_RX2_150 mi_X1_addTransaction ms_X1_addTransaction ini_RX1 mc_X1_addTransaction md_X1_addTransaction ⟨Nat.le_of_ble_eq_true rfl, Nat.le_of_ble_eq_true rfl⟩ ⟨Nat.le_of_ble_eq_true rfl, Nat.le_of_ble_eq_true rfl⟩ rfl (Nat.le_of_ble_eq_true rfl) (as := [.int (nI (g)), .ref (zA Z (m) (g) (0))]) (rest := []) rfl dX2_commitIn_20 rfl ?_
    refine j_name (fun S1 eS1 => ?_)
    refine j_aload_n X dX2_commitIn_23 rfl rfl (q := 0) rfl ?_
    refine j_callNv X (c_X0_endTransaction l Z S1 h m g hm hg ) (wm_core hm hg (by decide)) (wE_core hm hg 0 _) rfl nk_RX2_154 mi_X0_endTransaction ms_X0_endTransaction ini_RX0 mc_X0_endTransaction md_X0_endTransaction ⟨Nat.le_of_ble_eq_true rfl, Nat.le_of_ble_eq_true rfl⟩ ⟨Nat.le_of_ble_eq_true rfl, Nat.le_of_ble_eq_true rfl⟩ rfl (Nat.le_of_ble_eq_true rfl) (as := []) (rest := []) rfl dX2_commitIn_24 rfl ?_
    refine j_name (fun S2 eS2 => ?_)
    refine j_aload_n X dX2_commitIn_27 rfl rfl (q := 0) rfl ?_
    refine j_dup X dX2_commitIn_28 rfl rfl ?_
    refine jgN_core X hm hg 13 (by decide) nk_RX2_157 rfl rfl dX2_commitIn_29 rfl ?_
    refine j_iconst X dX2_commitIn_32 rfl (v := 1) (by decide) ?_
    refine j_iadd X dX2_commitIn_33 rfl ?_
    refine jpN_core X hm hg 13 (by decide) nk_RX2_157 rfl rfl rfl (vp_nar_int _) rfl rfl dX2_commitIn_34 rfl ?_
    refine j_name (fun S3 eS3 => ?_)
    exact j_at (by subst eS1; subst eS2; subst eS3; first | rfl | simp [pCommit, c_11]) rfl rfl rfl (K _ _ dX2_commitIn_37)
set_option maxRecDepth 100000 in
set_option maxHeartbeats 4000000 in
theorem c_X2_stepCore_0 (l : Launch) (Z : wZ) (S : St) (h : Hl) (m g : Nat) (hm : m < 6) (hg : g < 4) (hcc : okI (S m 4 0 4) 4) (hq : okI (S m 4 4 7) 400) (hps : okI (S m g 0 3) 29) (hfin : pFin S m g = false) (hkd : S m g 4 (pPs S m g) = nI 0) (j : Nat) : Ci l yX2_stepCore cX2_stepCore 7 .int 4 94 Z [.ref (zA Z (m) (4) (0)), .int (nI (g))] S h ((pStepK S m g 0 j).1) ((pStepK S m g 0 j).2) (h) := by
  have hc4 : pCC S m ≤ 4 := hcc.2
  have hps30 : pPs S m g < 30 := by have : pPs S m g ≤ 29 := hps.2; omega
  refine Ci.of rfl rfl (Nat.le_of_ble_eq_true rfl) (fun p e s mi args below meth c A0 Q X K => ?_)
  refine j_at rfl rfl (Ls3 := [(0, .ref (zA Z (m) (4) (0))), (1, .int (nI (g)))]) rfl rfl ?_
  refine j_aload_n X dX2_stepCore_0 rfl rfl (q := 0) rfl ?_
  refine jg_mach X hm 0 (by decide) lk_RX2_11 rfl rfl dX2_stepCore_1 rfl ?_
  refine j_iload_n X dX2_stepCore_4 rfl rfl (q := 1) rfl ?_
  refine j_aldCN X (g := g) hm hg dX2_stepCore_5 rfl ?_
  refine j_astore_n X dX2_stepCore_6 rfl rfl (by decide) (Ls2 := [(2, .ref (zA Z (m) (g) (0))), (0, .ref (zA Z (m) (4) (0))), (1, .int (nI (g)))]) rfl ?_
  refine j_aload_n X dX2_stepCore_7 rfl rfl (q := 0) rfl ?_
  refine j_callNi X (c_X0_isFinished l Z S h m g hm hg ) (wm_core hm hg (by decide)) (wE_core hm hg 0 _) rfl nk_RX2_73 mi_X0_isFinished ms_X0_isFinished ini_RX0 mc_X0_isFinished md_X0_isFinished ⟨Nat.le_of_ble_eq_true rfl, Nat.le_of_ble_eq_true rfl⟩ ⟨Nat.le_of_ble_eq_true rfl, Nat.le_of_ble_eq_true rfl⟩ rfl (Nat.le_of_ble_eq_true rfl) (as := []) (rest := []) rfl dX2_stepCore_8 rfl ?_
  refine j_if_eq_t X (tgt := 16) dX2_stepCore_11 (by decide) (by rw [hfin]; decide) ?_
  refine j_aload_n X dX2_stepCore_16 rfl rfl (q := 0) rfl ?_
  refine jgN_core X hm hg 2 (by decide) nk_RX2_104 rfl rfl dX2_stepCore_17 rfl ?_
  refine jgN_prog X (Or.inl ⟨hm, hg⟩) 1 (by decide) nk_RX2_108 rfl rfl dX2_stepCore_20 rfl ?_
  refine j_aload_n X dX2_stepCore_23 rfl rfl (q := 0) rfl ?_
  refine jgN_core X hm hg 3 (by decide) nk_RX2_113 rfl rfl dX2_stepCore_24 rfl ?_
  refine j_topeq (y := (nI (pPs S m g))) (hps.1) ?_
  refine j_ialdN X (k := pPs S m g) (wm_prog (Or.inl ⟨hm, hg⟩) (by decide)) (wE_oper (Or.inl ⟨hm, hg⟩) _) hps30 (by decide) dX2_stepCore_27 rfl ?_
  refine j_istore_n X dX2_stepCore_28 rfl rfl (by decide) (Ls2 := [(3, .int (S m g 5 (pPs S m g))), (2, .ref (zA Z (m) (g) (0))), (0, .ref (zA Z (m) (4) (0))), (1, .int (nI (g)))]) rfl ?_
  refine j_aload_n X dX2_stepCore_29 rfl rfl (q := 2) rfl ?_
  refine j_calli X (c_X2_abortsSoFar l Z S h m hm ) (wm_mach hm (by decide)) (wE_mach hm 0 _) rfl lk_RX2_116 mi_X2_abortsSoFar ms_X2_abortsSoFar ini_RX2 mc_X2_abortsSoFar md_X2_abortsSoFar ⟨Nat.le_of_ble_eq_true rfl, Nat.le_of_ble_eq_true rfl⟩ ⟨Nat.le_of_ble_eq_true rfl, Nat.le_of_ble_eq_true rfl⟩ rfl (Nat.le_of_ble_eq_true rfl) (as := []) (rest := []) rfl dX2_stepCore_30 rfl ?_
  refine j_istore X dX2_stepCore_33 rfl (by decide) (Ls2 := [(4, .int (pAborts S m)), (3, .int (S m g 5 (pPs S m g))), (2, .ref (zA Z (m) (g) (0))), (0, .ref (zA Z (m) (4) (0))), (1, .int (nI (g)))]) rfl ?_
  refine j_aload_n X dX2_stepCore_35 rfl rfl (q := 2) rfl ?_
  refine jgN_core X hm hg 14 (by decide) nk_RX2_119 rfl rfl dX2_stepCore_36 rfl ?_
  refine j_istore X dX2_stepCore_39 rfl (by decide) (Ls2 := [(5, .int (S m g 0 14)), (4, .int (pAborts S m)), (3, .int (S m g 5 (pPs S m g))), (2, .ref (zA Z (m) (g) (0))), (0, .ref (zA Z (m) (4) (0))), (1, .int (nI (g)))]) rfl ?_
  refine j_aload_n X dX2_stepCore_41 rfl rfl (q := 4) rfl ?_
  refine jg_mach X hm 2 (by decide) lk_RX2_22 rfl rfl dX2_stepCore_42 rfl ?_
  refine j_bipush X dX2_stepCore_45 rfl (v := 7) (by decide) ?_
  refine j_dup2 X dX2_stepCore_47 rfl rfl rfl ?_
  refine j_ialdN X (k := 7) (wm_mach hm (by decide)) (wE_mach hm 3 _) (by decide) (by decide) dX2_stepCore_48 rfl ?_
  refine j_iconst X dX2_stepCore_49 rfl (v := 1) (by decide) ?_
  refine j_iadd X dX2_stepCore_50 rfl ?_
  refine j_iastN X (k := 7) (wm_mach hm (by decide)) (fun r => wE_mach hm 3 r) (by decide) (by decide) dX2_stepCore_51 rfl ?_
  refine j_name (fun S1 eS1 => ?_)
  refine j_aload_n X dX2_stepCore_52 rfl rfl (q := 3) rfl ?_
  refine jgN_core X hm hg 2 (by decide) nk_RX2_104 rfl rfl dX2_stepCore_53 rfl ?_
  refine jgN_prog X (Or.inl ⟨hm, hg⟩) 0 (by decide) nk_RX2_122 rfl rfl dX2_stepCore_56 rfl ?_
  refine j_aload_n X dX2_stepCore_59 rfl rfl (q := 3) rfl ?_
  refine jgN_core X hm hg 3 (by decide) nk_RX2_113 rfl rfl dX2_stepCore_60 rfl ?_
  refine j_topeq (y := (nI (pPs S m g))) (by subst eS1; simp [setF_4, inc_r, set2_r, set3_r, pWB_r, pWbe_r, pWc_r, pOver_r, pOwn_r, pTak_r, pRoll_4, pNote_4, pEndT_4, pBegT_4, hg, pCC, hcc.2, setF_g] <;> exact hps.1) ?_
  refine j_ialdN X (k := pPs S m g) (wm_prog (Or.inl ⟨hm, hg⟩) (by decide)) (wE_kinds (Or.inl ⟨hm, hg⟩) _) hps30 (by decide) dX2_stepCore_63 rfl ?_
  refine j_topeq (y := (nI (0))) (by subst eS1; simp [setF_4, inc_r, set2_r, set3_r, pWB_r, pWbe_r, pWc_r, pOver_r, pOwn_r, pTak_r, pRoll_4, pNote_4, pEndT_4, pBegT_4, hg, pCC, hcc.2, setF_g] <;> exact hkd) ?_
  refine j_tableIn X (tgt := 96) dX2_stepCore_64 (by decide) (by decide) rfl (by decide) ?_
  refine j_aload_n X dX2_stepCore_96 rfl rfl (q := 4) rfl ?_
  refine j_aload_n X dX2_stepCore_97 rfl rfl (q := 3) rfl ?_
  refine j_callv X (c_X2_beginIn l Z S1 h m g hm hg) (wm_mach hm (by decide)) (wE_mach hm 0 _) rfl lk_RX2_125 mi_X2_beginIn ms_X2_beginIn ini_RX2 mc_X2_beginIn md_X2_beginIn ⟨Nat.le_of_ble_eq_true rfl, Nat.le_of_ble_eq_true rfl⟩ ⟨Nat.le_of_ble_eq_true rfl, Nat.le_of_ble_eq_true rfl⟩ rfl (Nat.le_of_ble_eq_true rfl) (as := [.ref (zA Z (m) (g) (0))]) (rest := []) rfl dX2_stepCore_98 rfl ?_
  refine j_name (fun S2 eS2 => ?_)
  refine j_goto X (tgt := 140) dX2_stepCore_101 (by decide) ?_
  refine j_aload_n X dX2_stepCore_140 rfl rfl (q := 4) rfl ?_
  refine j_calli X (c_X2_abortsSoFar l Z S2 h m hm ) (wm_mach hm (by decide)) (wE_mach hm 0 _) rfl lk_RX2_116 mi_X2_abortsSoFar ms_X2_abortsSoFar ini_RX2 mc_X2_abortsSoFar md_X2_abortsSoFar ⟨Nat.le_of_ble_eq_true rfl, Nat.le_of_ble_eq_true rfl⟩ ⟨Nat.le_of_ble_eq_true rfl, Nat.le_of_ble_eq_true rfl⟩ rfl (Nat.le_of_ble_eq_true rfl) (as := []) (rest := []) rfl dX2_stepCore_141 rfl ?_
  refine j_iload X dX2_stepCore_144 rfl (q := 1) rfl ?_
  refine j_isub X dX2_stepCore_146 rfl ?_
  refine j_istore X dX2_stepCore_147 rfl (by decide) (Ls2 := [(6, .int ((pAborts S2 m) - (pAborts S m))), (5, .int (S m g 0 14)), (4, .int (pAborts S m)), (3, .int (S m g 5 (pPs S m g))), (2, .ref (zA Z (m) (g) (0))), (0, .ref (zA Z (m) (4) (0))), (1, .int (nI (g)))]) rfl ?_
  refine j_aload_n X dX2_stepCore_149 rfl rfl (q := 4) rfl ?_
  refine jgN_core X hm hg 14 (by decide) nk_RX2_119 rfl rfl dX2_stepCore_150 rfl ?_
  refine j_iload X dX2_stepCore_153 rfl (q := 1) rfl ?_
  refine j_icmp_eq X dX2_stepCore_155 rfl (tgt := 164) (by decide) (fun c_155 => ?_) (fun c_155 => ?_)
  · refine j_aload_n X dX2_stepCore_164 rfl rfl (q := 4) rfl ?_
    refine j_dup X dX2_stepCore_165 rfl rfl ?_
    refine jgN_core X hm hg 3 (by decide) nk_RX2_113 rfl rfl dX2_stepCore_166 rfl ?_
    refine j_iconst X dX2_stepCore_169 rfl (v := 1) (by decide) ?_
    refine j_iadd X dX2_stepCore_170 rfl ?_
    refine jpN_core X hm hg 3 (by decide) nk_RX2_113 rfl rfl rfl (vp_nar_int _) rfl rfl dX2_stepCore_171 rfl ?_
    refine j_name (fun S3 eS3 => ?_)
    refine j_iload X dX2_stepCore_174 rfl (q := 0) rfl ?_
    exact j_ret (by subst eS1; subst eS2; subst eS3; first | rfl | simp [pStepK, pExec, inc, c_155]) (by subst eS1; subst eS2; subst eS3; first | rfl | simp [pStepK, pExec, inc, c_155]) rfl (K _ _ dX2_stepCore_176)
  · refine j_iload X dX2_stepCore_158 rfl (q := 0) rfl ?_
    refine j_bipush X dX2_stepCore_160 rfl (v := 8) (by decide) ?_
    refine j_iadd X dX2_stepCore_162 rfl ?_
    exact j_ret (by subst eS1; subst eS2; first | rfl | simp [pStepK, pExec, inc, c_155]) (by subst eS1; subst eS2; first | rfl | simp [pStepK, pExec, inc, c_155]) rfl (K _ _ dX2_stepCore_163)
set_option maxRecDepth 100000 in
set_option maxHeartbeats 4000000 in
theorem c_X2_stepCore_1 (l : Launch) (Z : wZ) (S : St) (h : Hl) (m g : Nat) (hm : m < 6) (hg : g < 4) (hcc : okI (S m 4 0 4) 4) (hq : okI (S m 4 4 7) 400) (hps : okI (S m g 0 3) 29) (hfin : pFin S m g = false) (hkd : S m g 4 (pPs S m g) = nI 1) (j : Nat) : Ci l yX2_stepCore cX2_stepCore 7 .int 4 94 Z [.ref (zA Z (m) (4) (0)), .int (nI (g))] S h ((pStepK S m g 1 j).1) ((pStepK S m g 1 j).2) (h) := by
  have hc4 : pCC S m ≤ 4 := hcc.2
  have hps30 : pPs S m g < 30 := by have : pPs S m g ≤ 29 := hps.2; omega
  refine Ci.of rfl rfl (Nat.le_of_ble_eq_true rfl) (fun p e s mi args below meth c A0 Q X K => ?_)
  refine j_at rfl rfl (Ls3 := [(0, .ref (zA Z (m) (4) (0))), (1, .int (nI (g)))]) rfl rfl ?_
  refine j_aload_n X dX2_stepCore_0 rfl rfl (q := 0) rfl ?_
  refine jg_mach X hm 0 (by decide) lk_RX2_11 rfl rfl dX2_stepCore_1 rfl ?_
  refine j_iload_n X dX2_stepCore_4 rfl rfl (q := 1) rfl ?_
  refine j_aldCN X (g := g) hm hg dX2_stepCore_5 rfl ?_
  refine j_astore_n X dX2_stepCore_6 rfl rfl (by decide) (Ls2 := [(2, .ref (zA Z (m) (g) (0))), (0, .ref (zA Z (m) (4) (0))), (1, .int (nI (g)))]) rfl ?_
  refine j_aload_n X dX2_stepCore_7 rfl rfl (q := 0) rfl ?_
  refine j_callNi X (c_X0_isFinished l Z S h m g hm hg ) (wm_core hm hg (by decide)) (wE_core hm hg 0 _) rfl nk_RX2_73 mi_X0_isFinished ms_X0_isFinished ini_RX0 mc_X0_isFinished md_X0_isFinished ⟨Nat.le_of_ble_eq_true rfl, Nat.le_of_ble_eq_true rfl⟩ ⟨Nat.le_of_ble_eq_true rfl, Nat.le_of_ble_eq_true rfl⟩ rfl (Nat.le_of_ble_eq_true rfl) (as := []) (rest := []) rfl dX2_stepCore_8 rfl ?_
  refine j_if_eq_t X (tgt := 16) dX2_stepCore_11 (by decide) (by rw [hfin]; decide) ?_
  refine j_aload_n X dX2_stepCore_16 rfl rfl (q := 0) rfl ?_
  refine jgN_core X hm hg 2 (by decide) nk_RX2_104 rfl rfl dX2_stepCore_17 rfl ?_
  refine jgN_prog X (Or.inl ⟨hm, hg⟩) 1 (by decide) nk_RX2_108 rfl rfl dX2_stepCore_20 rfl ?_
  refine j_aload_n X dX2_stepCore_23 rfl rfl (q := 0) rfl ?_
  refine jgN_core X hm hg 3 (by decide) nk_RX2_113 rfl rfl dX2_stepCore_24 rfl ?_
  refine j_topeq (y := (nI (pPs S m g))) (hps.1) ?_
  refine j_ialdN X (k := pPs S m g) (wm_prog (Or.inl ⟨hm, hg⟩) (by decide)) (wE_oper (Or.inl ⟨hm, hg⟩) _) hps30 (by decide) dX2_stepCore_27 rfl ?_
  refine j_istore_n X dX2_stepCore_28 rfl rfl (by decide) (Ls2 := [(3, .int (S m g 5 (pPs S m g))), (2, .ref (zA Z (m) (g) (0))), (0, .ref (zA Z (m) (4) (0))), (1, .int (nI (g)))]) rfl ?_
  refine j_aload_n X dX2_stepCore_29 rfl rfl (q := 2) rfl ?_
  refine j_calli X (c_X2_abortsSoFar l Z S h m hm ) (wm_mach hm (by decide)) (wE_mach hm 0 _) rfl lk_RX2_116 mi_X2_abortsSoFar ms_X2_abortsSoFar ini_RX2 mc_X2_abortsSoFar md_X2_abortsSoFar ⟨Nat.le_of_ble_eq_true rfl, Nat.le_of_ble_eq_true rfl⟩ ⟨Nat.le_of_ble_eq_true rfl, Nat.le_of_ble_eq_true rfl⟩ rfl (Nat.le_of_ble_eq_true rfl) (as := []) (rest := []) rfl dX2_stepCore_30 rfl ?_
  refine j_istore X dX2_stepCore_33 rfl (by decide) (Ls2 := [(4, .int (pAborts S m)), (3, .int (S m g 5 (pPs S m g))), (2, .ref (zA Z (m) (g) (0))), (0, .ref (zA Z (m) (4) (0))), (1, .int (nI (g)))]) rfl ?_
  refine j_aload_n X dX2_stepCore_35 rfl rfl (q := 2) rfl ?_
  refine jgN_core X hm hg 14 (by decide) nk_RX2_119 rfl rfl dX2_stepCore_36 rfl ?_
  refine j_istore X dX2_stepCore_39 rfl (by decide) (Ls2 := [(5, .int (S m g 0 14)), (4, .int (pAborts S m)), (3, .int (S m g 5 (pPs S m g))), (2, .ref (zA Z (m) (g) (0))), (0, .ref (zA Z (m) (4) (0))), (1, .int (nI (g)))]) rfl ?_
  refine j_aload_n X dX2_stepCore_41 rfl rfl (q := 4) rfl ?_
  refine jg_mach X hm 2 (by decide) lk_RX2_22 rfl rfl dX2_stepCore_42 rfl ?_
  refine j_bipush X dX2_stepCore_45 rfl (v := 7) (by decide) ?_
  refine j_dup2 X dX2_stepCore_47 rfl rfl rfl ?_
  refine j_ialdN X (k := 7) (wm_mach hm (by decide)) (wE_mach hm 3 _) (by decide) (by decide) dX2_stepCore_48 rfl ?_
  refine j_iconst X dX2_stepCore_49 rfl (v := 1) (by decide) ?_
  refine j_iadd X dX2_stepCore_50 rfl ?_
  refine j_iastN X (k := 7) (wm_mach hm (by decide)) (fun r => wE_mach hm 3 r) (by decide) (by decide) dX2_stepCore_51 rfl ?_
  refine j_name (fun S1 eS1 => ?_)
  refine j_aload_n X dX2_stepCore_52 rfl rfl (q := 3) rfl ?_
  refine jgN_core X hm hg 2 (by decide) nk_RX2_104 rfl rfl dX2_stepCore_53 rfl ?_
  refine jgN_prog X (Or.inl ⟨hm, hg⟩) 0 (by decide) nk_RX2_122 rfl rfl dX2_stepCore_56 rfl ?_
  refine j_aload_n X dX2_stepCore_59 rfl rfl (q := 3) rfl ?_
  refine jgN_core X hm hg 3 (by decide) nk_RX2_113 rfl rfl dX2_stepCore_60 rfl ?_
  refine j_topeq (y := (nI (pPs S m g))) (by subst eS1; simp [setF_4, inc_r, set2_r, set3_r, pWB_r, pWbe_r, pWc_r, pOver_r, pOwn_r, pTak_r, pRoll_4, pNote_4, pEndT_4, pBegT_4, hg, pCC, hcc.2, setF_g] <;> exact hps.1) ?_
  refine j_ialdN X (k := pPs S m g) (wm_prog (Or.inl ⟨hm, hg⟩) (by decide)) (wE_kinds (Or.inl ⟨hm, hg⟩) _) hps30 (by decide) dX2_stepCore_63 rfl ?_
  refine j_topeq (y := (nI (1))) (by subst eS1; simp [setF_4, inc_r, set2_r, set3_r, pWB_r, pWbe_r, pWc_r, pOver_r, pOwn_r, pTak_r, pRoll_4, pNote_4, pEndT_4, pBegT_4, hg, pCC, hcc.2, setF_g] <;> exact hkd) ?_
  refine j_tableIn X (tgt := 104) dX2_stepCore_64 (by decide) (by decide) rfl (by decide) ?_
  refine j_aload_n X dX2_stepCore_104 rfl rfl (q := 4) rfl ?_
  refine j_iload_n X dX2_stepCore_105 rfl rfl (q := 5) rfl ?_
  refine j_callv X (c_X2_commitIn l Z S1 h m g hm hg (by subst eS1; simp [setF_4, inc_r, set2_r, set3_r, pWB_r, pWbe_r, pWc_r, pOver_r, pOwn_r, pTak_r, pRoll_4, pNote_4, pEndT_4, pBegT_4, hg, pCC, hcc.2, setF_g] <;> exact hq)) (wm_mach hm (by decide)) (wE_mach hm 0 _) rfl lk_RX2_128 mi_X2_commitIn ms_X2_commitIn ini_RX2 mc_X2_commitIn md_X2_commitIn ⟨Nat.le_of_ble_eq_true rfl, Nat.le_of_ble_eq_true rfl⟩ ⟨Nat.le_of_ble_eq_true rfl, Nat.le_of_ble_eq_true rfl⟩ rfl (Nat.le_of_ble_eq_true rfl) (as := [.int (nI (g))]) (rest := []) rfl dX2_stepCore_106 rfl ?_
  refine j_name (fun S2 eS2 => ?_)
  refine j_goto X (tgt := 140) dX2_stepCore_109 (by decide) ?_
  refine j_aload_n X dX2_stepCore_140 rfl rfl (q := 4) rfl ?_
  refine j_calli X (c_X2_abortsSoFar l Z S2 h m hm ) (wm_mach hm (by decide)) (wE_mach hm 0 _) rfl lk_RX2_116 mi_X2_abortsSoFar ms_X2_abortsSoFar ini_RX2 mc_X2_abortsSoFar md_X2_abortsSoFar ⟨Nat.le_of_ble_eq_true rfl, Nat.le_of_ble_eq_true rfl⟩ ⟨Nat.le_of_ble_eq_true rfl, Nat.le_of_ble_eq_true rfl⟩ rfl (Nat.le_of_ble_eq_true rfl) (as := []) (rest := []) rfl dX2_stepCore_141 rfl ?_
  refine j_iload X dX2_stepCore_144 rfl (q := 1) rfl ?_
  refine j_isub X dX2_stepCore_146 rfl ?_
  refine j_istore X dX2_stepCore_147 rfl (by decide) (Ls2 := [(6, .int ((pAborts S2 m) - (pAborts S m))), (5, .int (S m g 0 14)), (4, .int (pAborts S m)), (3, .int (S m g 5 (pPs S m g))), (2, .ref (zA Z (m) (g) (0))), (0, .ref (zA Z (m) (4) (0))), (1, .int (nI (g)))]) rfl ?_
  refine j_aload_n X dX2_stepCore_149 rfl rfl (q := 4) rfl ?_
  refine jgN_core X hm hg 14 (by decide) nk_RX2_119 rfl rfl dX2_stepCore_150 rfl ?_
  refine j_iload X dX2_stepCore_153 rfl (q := 1) rfl ?_
  refine j_icmp_eq X dX2_stepCore_155 rfl (tgt := 164) (by decide) (fun c_155 => ?_) (fun c_155 => ?_)
  · refine j_aload_n X dX2_stepCore_164 rfl rfl (q := 4) rfl ?_
    refine j_dup X dX2_stepCore_165 rfl rfl ?_
    refine jgN_core X hm hg 3 (by decide) nk_RX2_113 rfl rfl dX2_stepCore_166 rfl ?_
    refine j_iconst X dX2_stepCore_169 rfl (v := 1) (by decide) ?_
    refine j_iadd X dX2_stepCore_170 rfl ?_
    refine jpN_core X hm hg 3 (by decide) nk_RX2_113 rfl rfl rfl (vp_nar_int _) rfl rfl dX2_stepCore_171 rfl ?_
    refine j_name (fun S3 eS3 => ?_)
    refine j_iload X dX2_stepCore_174 rfl (q := 0) rfl ?_
    exact j_ret (by subst eS1; subst eS2; subst eS3; first | rfl | simp [pStepK, pExec, inc, c_155]) (by subst eS1; subst eS2; subst eS3; first | rfl | simp [pStepK, pExec, inc, c_155]) rfl (K _ _ dX2_stepCore_176)
  · refine j_iload X dX2_stepCore_158 rfl (q := 0) rfl ?_
    refine j_bipush X dX2_stepCore_160 rfl (v := 8) (by decide) ?_
    refine j_iadd X dX2_stepCore_162 rfl ?_
    exact j_ret (by subst eS1; subst eS2; first | rfl | simp [pStepK, pExec, inc, c_155]) (by subst eS1; subst eS2; first | rfl | simp [pStepK, pExec, inc, c_155]) rfl (K _ _ dX2_stepCore_163)
set_option maxRecDepth 100000 in
set_option maxHeartbeats 4000000 in
theorem c_X2_stepCore_2 (l : Launch) (Z : wZ) (S : St) (h : Hl) (m g : Nat) (hm : m < 6) (hg : g < 4) (hcc : okI (S m 4 0 4) 4) (hq : okI (S m 4 4 7) 400) (hps : okI (S m g 0 3) 29) (hfin : pFin S m g = false) (hkd : S m g 4 (pPs S m g) = nI 2) (j : Nat) (hj : j < 8) (hop : S m g 5 (pPs S m g) = nI j) : Ci l yX2_stepCore cX2_stepCore 7 .int 4 94 Z [.ref (zA Z (m) (4) (0)), .int (nI (g))] S h ((pStepK S m g 2 j).1) ((pStepK S m g 2 j).2) (h) := by
  have hc4 : pCC S m ≤ 4 := hcc.2
  have hps30 : pPs S m g < 30 := by have : pPs S m g ≤ 29 := hps.2; omega
  refine Ci.of rfl rfl (Nat.le_of_ble_eq_true rfl) (fun p e s mi args below meth c A0 Q X K => ?_)
  refine j_at rfl rfl (Ls3 := [(0, .ref (zA Z (m) (4) (0))), (1, .int (nI (g)))]) rfl rfl ?_
  refine j_aload_n X dX2_stepCore_0 rfl rfl (q := 0) rfl ?_
  refine jg_mach X hm 0 (by decide) lk_RX2_11 rfl rfl dX2_stepCore_1 rfl ?_
  refine j_iload_n X dX2_stepCore_4 rfl rfl (q := 1) rfl ?_
  refine j_aldCN X (g := g) hm hg dX2_stepCore_5 rfl ?_
  refine j_astore_n X dX2_stepCore_6 rfl rfl (by decide) (Ls2 := [(2, .ref (zA Z (m) (g) (0))), (0, .ref (zA Z (m) (4) (0))), (1, .int (nI (g)))]) rfl ?_
  refine j_aload_n X dX2_stepCore_7 rfl rfl (q := 0) rfl ?_
  refine j_callNi X (c_X0_isFinished l Z S h m g hm hg ) (wm_core hm hg (by decide)) (wE_core hm hg 0 _) rfl nk_RX2_73 mi_X0_isFinished ms_X0_isFinished ini_RX0 mc_X0_isFinished md_X0_isFinished ⟨Nat.le_of_ble_eq_true rfl, Nat.le_of_ble_eq_true rfl⟩ ⟨Nat.le_of_ble_eq_true rfl, Nat.le_of_ble_eq_true rfl⟩ rfl (Nat.le_of_ble_eq_true rfl) (as := []) (rest := []) rfl dX2_stepCore_8 rfl ?_
  refine j_if_eq_t X (tgt := 16) dX2_stepCore_11 (by decide) (by rw [hfin]; decide) ?_
  refine j_aload_n X dX2_stepCore_16 rfl rfl (q := 0) rfl ?_
  refine jgN_core X hm hg 2 (by decide) nk_RX2_104 rfl rfl dX2_stepCore_17 rfl ?_
  refine jgN_prog X (Or.inl ⟨hm, hg⟩) 1 (by decide) nk_RX2_108 rfl rfl dX2_stepCore_20 rfl ?_
  refine j_aload_n X dX2_stepCore_23 rfl rfl (q := 0) rfl ?_
  refine jgN_core X hm hg 3 (by decide) nk_RX2_113 rfl rfl dX2_stepCore_24 rfl ?_
  refine j_topeq (y := (nI (pPs S m g))) (hps.1) ?_
  refine j_ialdN X (k := pPs S m g) (wm_prog (Or.inl ⟨hm, hg⟩) (by decide)) (wE_oper (Or.inl ⟨hm, hg⟩) _) hps30 (by decide) dX2_stepCore_27 rfl ?_
  refine j_topeq (y := (nI (j))) (hop) ?_
  refine j_istore_n X dX2_stepCore_28 rfl rfl (by decide) (Ls2 := [(3, .int (nI (j))), (2, .ref (zA Z (m) (g) (0))), (0, .ref (zA Z (m) (4) (0))), (1, .int (nI (g)))]) rfl ?_
  refine j_aload_n X dX2_stepCore_29 rfl rfl (q := 2) rfl ?_
  refine j_calli X (c_X2_abortsSoFar l Z S h m hm ) (wm_mach hm (by decide)) (wE_mach hm 0 _) rfl lk_RX2_116 mi_X2_abortsSoFar ms_X2_abortsSoFar ini_RX2 mc_X2_abortsSoFar md_X2_abortsSoFar ⟨Nat.le_of_ble_eq_true rfl, Nat.le_of_ble_eq_true rfl⟩ ⟨Nat.le_of_ble_eq_true rfl, Nat.le_of_ble_eq_true rfl⟩ rfl (Nat.le_of_ble_eq_true rfl) (as := []) (rest := []) rfl dX2_stepCore_30 rfl ?_
  refine j_istore X dX2_stepCore_33 rfl (by decide) (Ls2 := [(4, .int (pAborts S m)), (3, .int (nI (j))), (2, .ref (zA Z (m) (g) (0))), (0, .ref (zA Z (m) (4) (0))), (1, .int (nI (g)))]) rfl ?_
  refine j_aload_n X dX2_stepCore_35 rfl rfl (q := 2) rfl ?_
  refine jgN_core X hm hg 14 (by decide) nk_RX2_119 rfl rfl dX2_stepCore_36 rfl ?_
  refine j_istore X dX2_stepCore_39 rfl (by decide) (Ls2 := [(5, .int (S m g 0 14)), (4, .int (pAborts S m)), (3, .int (nI (j))), (2, .ref (zA Z (m) (g) (0))), (0, .ref (zA Z (m) (4) (0))), (1, .int (nI (g)))]) rfl ?_
  refine j_aload_n X dX2_stepCore_41 rfl rfl (q := 4) rfl ?_
  refine jg_mach X hm 2 (by decide) lk_RX2_22 rfl rfl dX2_stepCore_42 rfl ?_
  refine j_bipush X dX2_stepCore_45 rfl (v := 7) (by decide) ?_
  refine j_dup2 X dX2_stepCore_47 rfl rfl rfl ?_
  refine j_ialdN X (k := 7) (wm_mach hm (by decide)) (wE_mach hm 3 _) (by decide) (by decide) dX2_stepCore_48 rfl ?_
  refine j_iconst X dX2_stepCore_49 rfl (v := 1) (by decide) ?_
  refine j_iadd X dX2_stepCore_50 rfl ?_
  refine j_iastN X (k := 7) (wm_mach hm (by decide)) (fun r => wE_mach hm 3 r) (by decide) (by decide) dX2_stepCore_51 rfl ?_
  refine j_name (fun S1 eS1 => ?_)
  refine j_aload_n X dX2_stepCore_52 rfl rfl (q := 3) rfl ?_
  refine jgN_core X hm hg 2 (by decide) nk_RX2_104 rfl rfl dX2_stepCore_53 rfl ?_
  refine jgN_prog X (Or.inl ⟨hm, hg⟩) 0 (by decide) nk_RX2_122 rfl rfl dX2_stepCore_56 rfl ?_
  refine j_aload_n X dX2_stepCore_59 rfl rfl (q := 3) rfl ?_
  refine jgN_core X hm hg 3 (by decide) nk_RX2_113 rfl rfl dX2_stepCore_60 rfl ?_
  refine j_topeq (y := (nI (pPs S m g))) (by subst eS1; simp [setF_4, inc_r, set2_r, set3_r, pWB_r, pWbe_r, pWc_r, pOver_r, pOwn_r, pTak_r, pRoll_4, pNote_4, pEndT_4, pBegT_4, hg, pCC, hcc.2, setF_g] <;> exact hps.1) ?_
  refine j_ialdN X (k := pPs S m g) (wm_prog (Or.inl ⟨hm, hg⟩) (by decide)) (wE_kinds (Or.inl ⟨hm, hg⟩) _) hps30 (by decide) dX2_stepCore_63 rfl ?_
  refine j_topeq (y := (nI (2))) (by subst eS1; simp [setF_4, inc_r, set2_r, set3_r, pWB_r, pWbe_r, pWc_r, pOver_r, pOwn_r, pTak_r, pRoll_4, pNote_4, pEndT_4, pBegT_4, hg, pCC, hcc.2, setF_g] <;> exact hkd) ?_
  refine j_tableIn X (tgt := 112) dX2_stepCore_64 (by decide) (by decide) rfl (by decide) ?_
  refine j_aload_n X dX2_stepCore_112 rfl rfl (q := 4) rfl ?_
  refine j_iload_n X dX2_stepCore_113 rfl rfl (q := 5) rfl ?_
  refine j_iload_n X dX2_stepCore_114 rfl rfl (q := 2) rfl ?_
  refine j_callv X (c_X2_readLine l Z S1 h m g hm hg j hj (by subst eS1; simp [setF_4, inc_r, set2_r, set3_r, pWB_r, pWbe_r, pWc_r, pOver_r, pOwn_r, pTak_r, pRoll_4, pNote_4, pEndT_4, pBegT_4, hg, pCC, hcc.2, setF_g] <;> exact hcc)) (wm_mach hm (by decide)) (wE_mach hm 0 _) rfl lk_RX2_131 mi_X2_readLine ms_X2_readLine ini_RX2 mc_X2_readLine md_X2_readLine ⟨Nat.le_of_ble_eq_true rfl, Nat.le_of_ble_eq_true rfl⟩ ⟨Nat.le_of_ble_eq_true rfl, Nat.le_of_ble_eq_true rfl⟩ rfl (Nat.le_of_ble_eq_true rfl) (as := [.int (nI (g)), .int (nI (j))]) (rest := []) rfl dX2_stepCore_115 rfl ?_
  refine j_name (fun S2 eS2 => ?_)
  refine j_goto X (tgt := 140) dX2_stepCore_118 (by decide) ?_
  refine j_aload_n X dX2_stepCore_140 rfl rfl (q := 4) rfl ?_
  refine j_calli X (c_X2_abortsSoFar l Z S2 h m hm ) (wm_mach hm (by decide)) (wE_mach hm 0 _) rfl lk_RX2_116 mi_X2_abortsSoFar ms_X2_abortsSoFar ini_RX2 mc_X2_abortsSoFar md_X2_abortsSoFar ⟨Nat.le_of_ble_eq_true rfl, Nat.le_of_ble_eq_true rfl⟩ ⟨Nat.le_of_ble_eq_true rfl, Nat.le_of_ble_eq_true rfl⟩ rfl (Nat.le_of_ble_eq_true rfl) (as := []) (rest := []) rfl dX2_stepCore_141 rfl ?_
  refine j_iload X dX2_stepCore_144 rfl (q := 1) rfl ?_
  refine j_isub X dX2_stepCore_146 rfl ?_
  refine j_istore X dX2_stepCore_147 rfl (by decide) (Ls2 := [(6, .int ((pAborts S2 m) - (pAborts S m))), (5, .int (S m g 0 14)), (4, .int (pAborts S m)), (3, .int (nI (j))), (2, .ref (zA Z (m) (g) (0))), (0, .ref (zA Z (m) (4) (0))), (1, .int (nI (g)))]) rfl ?_
  refine j_aload_n X dX2_stepCore_149 rfl rfl (q := 4) rfl ?_
  refine jgN_core X hm hg 14 (by decide) nk_RX2_119 rfl rfl dX2_stepCore_150 rfl ?_
  refine j_iload X dX2_stepCore_153 rfl (q := 1) rfl ?_
  refine j_icmp_eq X dX2_stepCore_155 rfl (tgt := 164) (by decide) (fun c_155 => ?_) (fun c_155 => ?_)
  · refine j_aload_n X dX2_stepCore_164 rfl rfl (q := 4) rfl ?_
    refine j_dup X dX2_stepCore_165 rfl rfl ?_
    refine jgN_core X hm hg 3 (by decide) nk_RX2_113 rfl rfl dX2_stepCore_166 rfl ?_
    refine j_iconst X dX2_stepCore_169 rfl (v := 1) (by decide) ?_
    refine j_iadd X dX2_stepCore_170 rfl ?_
    refine jpN_core X hm hg 3 (by decide) nk_RX2_113 rfl rfl rfl (vp_nar_int _) rfl rfl dX2_stepCore_171 rfl ?_
    refine j_name (fun S3 eS3 => ?_)
    refine j_iload X dX2_stepCore_174 rfl (q := 0) rfl ?_
    exact j_ret (by subst eS1; subst eS2; subst eS3; first | rfl | simp [pStepK, pExec, inc, hop, c_155]) (by subst eS1; subst eS2; subst eS3; first | rfl | simp [pStepK, pExec, inc, hop, c_155]) rfl (K _ _ dX2_stepCore_176)
  · refine j_iload X dX2_stepCore_158 rfl (q := 0) rfl ?_
    refine j_bipush X dX2_stepCore_160 rfl (v := 8) (by decide) ?_
    refine j_iadd X dX2_stepCore_162 rfl ?_
    exact j_ret (by subst eS1; subst eS2; first | rfl | simp [pStepK, pExec, inc, hop, c_155]) (by subst eS1; subst eS2; first | rfl | simp [pStepK, pExec, inc, hop, c_155]) rfl (K _ _ dX2_stepCore_163)
set_option maxRecDepth 100000 in
set_option maxHeartbeats 4000000 in
theorem c_X2_stepCore_3 (l : Launch) (Z : wZ) (S : St) (h : Hl) (m g : Nat) (hm : m < 6) (hg : g < 4) (hcc : okI (S m 4 0 4) 4) (hq : okI (S m 4 4 7) 400) (hps : okI (S m g 0 3) 29) (hfin : pFin S m g = false) (hkd : S m g 4 (pPs S m g) = nI 3) (j : Nat) (hj : j < 8) (hop : S m g 5 (pPs S m g) = nI j) : Ci l yX2_stepCore cX2_stepCore 7 .int 4 94 Z [.ref (zA Z (m) (4) (0)), .int (nI (g))] S h ((pStepK S m g 3 j).1) ((pStepK S m g 3 j).2) (h) := by
  have hc4 : pCC S m ≤ 4 := hcc.2
  have hps30 : pPs S m g < 30 := by have : pPs S m g ≤ 29 := hps.2; omega
  refine Ci.of rfl rfl (Nat.le_of_ble_eq_true rfl) (fun p e s mi args below meth c A0 Q X K => ?_)
  refine j_at rfl rfl (Ls3 := [(0, .ref (zA Z (m) (4) (0))), (1, .int (nI (g)))]) rfl rfl ?_
  refine j_aload_n X dX2_stepCore_0 rfl rfl (q := 0) rfl ?_
  refine jg_mach X hm 0 (by decide) lk_RX2_11 rfl rfl dX2_stepCore_1 rfl ?_
  refine j_iload_n X dX2_stepCore_4 rfl rfl (q := 1) rfl ?_
  refine j_aldCN X (g := g) hm hg dX2_stepCore_5 rfl ?_
  refine j_astore_n X dX2_stepCore_6 rfl rfl (by decide) (Ls2 := [(2, .ref (zA Z (m) (g) (0))), (0, .ref (zA Z (m) (4) (0))), (1, .int (nI (g)))]) rfl ?_
  refine j_aload_n X dX2_stepCore_7 rfl rfl (q := 0) rfl ?_
  refine j_callNi X (c_X0_isFinished l Z S h m g hm hg ) (wm_core hm hg (by decide)) (wE_core hm hg 0 _) rfl nk_RX2_73 mi_X0_isFinished ms_X0_isFinished ini_RX0 mc_X0_isFinished md_X0_isFinished ⟨Nat.le_of_ble_eq_true rfl, Nat.le_of_ble_eq_true rfl⟩ ⟨Nat.le_of_ble_eq_true rfl, Nat.le_of_ble_eq_true rfl⟩ rfl (Nat.le_of_ble_eq_true rfl) (as := []) (rest := []) rfl dX2_stepCore_8 rfl ?_
  refine j_if_eq_t X (tgt := 16) dX2_stepCore_11 (by decide) (by rw [hfin]; decide) ?_
  refine j_aload_n X dX2_stepCore_16 rfl rfl (q := 0) rfl ?_
  refine jgN_core X hm hg 2 (by decide) nk_RX2_104 rfl rfl dX2_stepCore_17 rfl ?_
  refine jgN_prog X (Or.inl ⟨hm, hg⟩) 1 (by decide) nk_RX2_108 rfl rfl dX2_stepCore_20 rfl ?_
  refine j_aload_n X dX2_stepCore_23 rfl rfl (q := 0) rfl ?_
  refine jgN_core X hm hg 3 (by decide) nk_RX2_113 rfl rfl dX2_stepCore_24 rfl ?_
  refine j_topeq (y := (nI (pPs S m g))) (hps.1) ?_
  refine j_ialdN X (k := pPs S m g) (wm_prog (Or.inl ⟨hm, hg⟩) (by decide)) (wE_oper (Or.inl ⟨hm, hg⟩) _) hps30 (by decide) dX2_stepCore_27 rfl ?_
  refine j_topeq (y := (nI (j))) (hop) ?_
  refine j_istore_n X dX2_stepCore_28 rfl rfl (by decide) (Ls2 := [(3, .int (nI (j))), (2, .ref (zA Z (m) (g) (0))), (0, .ref (zA Z (m) (4) (0))), (1, .int (nI (g)))]) rfl ?_
  refine j_aload_n X dX2_stepCore_29 rfl rfl (q := 2) rfl ?_
  refine j_calli X (c_X2_abortsSoFar l Z S h m hm ) (wm_mach hm (by decide)) (wE_mach hm 0 _) rfl lk_RX2_116 mi_X2_abortsSoFar ms_X2_abortsSoFar ini_RX2 mc_X2_abortsSoFar md_X2_abortsSoFar ⟨Nat.le_of_ble_eq_true rfl, Nat.le_of_ble_eq_true rfl⟩ ⟨Nat.le_of_ble_eq_true rfl, Nat.le_of_ble_eq_true rfl⟩ rfl (Nat.le_of_ble_eq_true rfl) (as := []) (rest := []) rfl dX2_stepCore_30 rfl ?_
  refine j_istore X dX2_stepCore_33 rfl (by decide) (Ls2 := [(4, .int (pAborts S m)), (3, .int (nI (j))), (2, .ref (zA Z (m) (g) (0))), (0, .ref (zA Z (m) (4) (0))), (1, .int (nI (g)))]) rfl ?_
  refine j_aload_n X dX2_stepCore_35 rfl rfl (q := 2) rfl ?_
  refine jgN_core X hm hg 14 (by decide) nk_RX2_119 rfl rfl dX2_stepCore_36 rfl ?_
  refine j_istore X dX2_stepCore_39 rfl (by decide) (Ls2 := [(5, .int (S m g 0 14)), (4, .int (pAborts S m)), (3, .int (nI (j))), (2, .ref (zA Z (m) (g) (0))), (0, .ref (zA Z (m) (4) (0))), (1, .int (nI (g)))]) rfl ?_
  refine j_aload_n X dX2_stepCore_41 rfl rfl (q := 4) rfl ?_
  refine jg_mach X hm 2 (by decide) lk_RX2_22 rfl rfl dX2_stepCore_42 rfl ?_
  refine j_bipush X dX2_stepCore_45 rfl (v := 7) (by decide) ?_
  refine j_dup2 X dX2_stepCore_47 rfl rfl rfl ?_
  refine j_ialdN X (k := 7) (wm_mach hm (by decide)) (wE_mach hm 3 _) (by decide) (by decide) dX2_stepCore_48 rfl ?_
  refine j_iconst X dX2_stepCore_49 rfl (v := 1) (by decide) ?_
  refine j_iadd X dX2_stepCore_50 rfl ?_
  refine j_iastN X (k := 7) (wm_mach hm (by decide)) (fun r => wE_mach hm 3 r) (by decide) (by decide) dX2_stepCore_51 rfl ?_
  refine j_name (fun S1 eS1 => ?_)
  refine j_aload_n X dX2_stepCore_52 rfl rfl (q := 3) rfl ?_
  refine jgN_core X hm hg 2 (by decide) nk_RX2_104 rfl rfl dX2_stepCore_53 rfl ?_
  refine jgN_prog X (Or.inl ⟨hm, hg⟩) 0 (by decide) nk_RX2_122 rfl rfl dX2_stepCore_56 rfl ?_
  refine j_aload_n X dX2_stepCore_59 rfl rfl (q := 3) rfl ?_
  refine jgN_core X hm hg 3 (by decide) nk_RX2_113 rfl rfl dX2_stepCore_60 rfl ?_
  refine j_topeq (y := (nI (pPs S m g))) (by subst eS1; simp [setF_4, inc_r, set2_r, set3_r, pWB_r, pWbe_r, pWc_r, pOver_r, pOwn_r, pTak_r, pRoll_4, pNote_4, pEndT_4, pBegT_4, hg, pCC, hcc.2, setF_g] <;> exact hps.1) ?_
  refine j_ialdN X (k := pPs S m g) (wm_prog (Or.inl ⟨hm, hg⟩) (by decide)) (wE_kinds (Or.inl ⟨hm, hg⟩) _) hps30 (by decide) dX2_stepCore_63 rfl ?_
  refine j_topeq (y := (nI (3))) (by subst eS1; simp [setF_4, inc_r, set2_r, set3_r, pWB_r, pWbe_r, pWc_r, pOver_r, pOwn_r, pTak_r, pRoll_4, pNote_4, pEndT_4, pBegT_4, hg, pCC, hcc.2, setF_g] <;> exact hkd) ?_
  refine j_tableIn X (tgt := 121) dX2_stepCore_64 (by decide) (by decide) rfl (by decide) ?_
  refine j_aload_n X dX2_stepCore_121 rfl rfl (q := 4) rfl ?_
  refine j_iload_n X dX2_stepCore_122 rfl rfl (q := 5) rfl ?_
  refine j_iload_n X dX2_stepCore_123 rfl rfl (q := 2) rfl ?_
  refine j_callv X (c_X2_writeLine l Z S1 h m g hm hg j hj (by subst eS1; simp [setF_4, inc_r, set2_r, set3_r, pWB_r, pWbe_r, pWc_r, pOver_r, pOwn_r, pTak_r, pRoll_4, pNote_4, pEndT_4, pBegT_4, hg, pCC, hcc.2, setF_g] <;> exact hcc) (by subst eS1; simp [setF_4, inc_r, set2_r, set3_r, pWB_r, pWbe_r, pWc_r, pOver_r, pOwn_r, pTak_r, pRoll_4, pNote_4, pEndT_4, pBegT_4, hg, pCC, hcc.2, setF_g] <;> exact hq)) (wm_mach hm (by decide)) (wE_mach hm 0 _) rfl lk_RX2_135 mi_X2_writeLine ms_X2_writeLine ini_RX2 mc_X2_writeLine md_X2_writeLine ⟨Nat.le_of_ble_eq_true rfl, Nat.le_of_ble_eq_true rfl⟩ ⟨Nat.le_of_ble_eq_true rfl, Nat.le_of_ble_eq_true rfl⟩ rfl (Nat.le_of_ble_eq_true rfl) (as := [.int (nI (g)), .int (nI (j))]) (rest := []) rfl dX2_stepCore_124 rfl ?_
  refine j_name (fun S2 eS2 => ?_)
  refine j_goto X (tgt := 140) dX2_stepCore_127 (by decide) ?_
  refine j_aload_n X dX2_stepCore_140 rfl rfl (q := 4) rfl ?_
  refine j_calli X (c_X2_abortsSoFar l Z S2 h m hm ) (wm_mach hm (by decide)) (wE_mach hm 0 _) rfl lk_RX2_116 mi_X2_abortsSoFar ms_X2_abortsSoFar ini_RX2 mc_X2_abortsSoFar md_X2_abortsSoFar ⟨Nat.le_of_ble_eq_true rfl, Nat.le_of_ble_eq_true rfl⟩ ⟨Nat.le_of_ble_eq_true rfl, Nat.le_of_ble_eq_true rfl⟩ rfl (Nat.le_of_ble_eq_true rfl) (as := []) (rest := []) rfl dX2_stepCore_141 rfl ?_
  refine j_iload X dX2_stepCore_144 rfl (q := 1) rfl ?_
  refine j_isub X dX2_stepCore_146 rfl ?_
  refine j_istore X dX2_stepCore_147 rfl (by decide) (Ls2 := [(6, .int ((pAborts S2 m) - (pAborts S m))), (5, .int (S m g 0 14)), (4, .int (pAborts S m)), (3, .int (nI (j))), (2, .ref (zA Z (m) (g) (0))), (0, .ref (zA Z (m) (4) (0))), (1, .int (nI (g)))]) rfl ?_
  refine j_aload_n X dX2_stepCore_149 rfl rfl (q := 4) rfl ?_
  refine jgN_core X hm hg 14 (by decide) nk_RX2_119 rfl rfl dX2_stepCore_150 rfl ?_
  refine j_iload X dX2_stepCore_153 rfl (q := 1) rfl ?_
  refine j_icmp_eq X dX2_stepCore_155 rfl (tgt := 164) (by decide) (fun c_155 => ?_) (fun c_155 => ?_)
  · refine j_aload_n X dX2_stepCore_164 rfl rfl (q := 4) rfl ?_
    refine j_dup X dX2_stepCore_165 rfl rfl ?_
    refine jgN_core X hm hg 3 (by decide) nk_RX2_113 rfl rfl dX2_stepCore_166 rfl ?_
    refine j_iconst X dX2_stepCore_169 rfl (v := 1) (by decide) ?_
    refine j_iadd X dX2_stepCore_170 rfl ?_
    refine jpN_core X hm hg 3 (by decide) nk_RX2_113 rfl rfl rfl (vp_nar_int _) rfl rfl dX2_stepCore_171 rfl ?_
    refine j_name (fun S3 eS3 => ?_)
    refine j_iload X dX2_stepCore_174 rfl (q := 0) rfl ?_
    exact j_ret (by subst eS1; subst eS2; subst eS3; first | rfl | simp [pStepK, pExec, inc, hop, c_155]) (by subst eS1; subst eS2; subst eS3; first | rfl | simp [pStepK, pExec, inc, hop, c_155]) rfl (K _ _ dX2_stepCore_176)
  · refine j_iload X dX2_stepCore_158 rfl (q := 0) rfl ?_
    refine j_bipush X dX2_stepCore_160 rfl (v := 8) (by decide) ?_
    refine j_iadd X dX2_stepCore_162 rfl ?_
    exact j_ret (by subst eS1; subst eS2; first | rfl | simp [pStepK, pExec, inc, hop, c_155]) (by subst eS1; subst eS2; first | rfl | simp [pStepK, pExec, inc, hop, c_155]) rfl (K _ _ dX2_stepCore_163)
set_option maxRecDepth 100000 in
set_option maxHeartbeats 4000000 in
theorem c_X2_stepCore_4 (l : Launch) (Z : wZ) (S : St) (h : Hl) (m g : Nat) (hm : m < 6) (hg : g < 4) (hcc : okI (S m 4 0 4) 4) (hq : okI (S m 4 4 7) 400) (hps : okI (S m g 0 3) 29) (hfin : pFin S m g = false) (hkd : S m g 4 (pPs S m g) = nI 4) (j : Nat) : Ci l yX2_stepCore cX2_stepCore 7 .int 4 94 Z [.ref (zA Z (m) (4) (0)), .int (nI (g))] S h ((pStepK S m g 4 j).1) ((pStepK S m g 4 j).2) (h) := by
  have hc4 : pCC S m ≤ 4 := hcc.2
  have hps30 : pPs S m g < 30 := by have : pPs S m g ≤ 29 := hps.2; omega
  refine Ci.of rfl rfl (Nat.le_of_ble_eq_true rfl) (fun p e s mi args below meth c A0 Q X K => ?_)
  refine j_at rfl rfl (Ls3 := [(0, .ref (zA Z (m) (4) (0))), (1, .int (nI (g)))]) rfl rfl ?_
  refine j_aload_n X dX2_stepCore_0 rfl rfl (q := 0) rfl ?_
  refine jg_mach X hm 0 (by decide) lk_RX2_11 rfl rfl dX2_stepCore_1 rfl ?_
  refine j_iload_n X dX2_stepCore_4 rfl rfl (q := 1) rfl ?_
  refine j_aldCN X (g := g) hm hg dX2_stepCore_5 rfl ?_
  refine j_astore_n X dX2_stepCore_6 rfl rfl (by decide) (Ls2 := [(2, .ref (zA Z (m) (g) (0))), (0, .ref (zA Z (m) (4) (0))), (1, .int (nI (g)))]) rfl ?_
  refine j_aload_n X dX2_stepCore_7 rfl rfl (q := 0) rfl ?_
  refine j_callNi X (c_X0_isFinished l Z S h m g hm hg ) (wm_core hm hg (by decide)) (wE_core hm hg 0 _) rfl nk_RX2_73 mi_X0_isFinished ms_X0_isFinished ini_RX0 mc_X0_isFinished md_X0_isFinished ⟨Nat.le_of_ble_eq_true rfl, Nat.le_of_ble_eq_true rfl⟩ ⟨Nat.le_of_ble_eq_true rfl, Nat.le_of_ble_eq_true rfl⟩ rfl (Nat.le_of_ble_eq_true rfl) (as := []) (rest := []) rfl dX2_stepCore_8 rfl ?_
  refine j_if_eq_t X (tgt := 16) dX2_stepCore_11 (by decide) (by rw [hfin]; decide) ?_
  refine j_aload_n X dX2_stepCore_16 rfl rfl (q := 0) rfl ?_
  refine jgN_core X hm hg 2 (by decide) nk_RX2_104 rfl rfl dX2_stepCore_17 rfl ?_
  refine jgN_prog X (Or.inl ⟨hm, hg⟩) 1 (by decide) nk_RX2_108 rfl rfl dX2_stepCore_20 rfl ?_
  refine j_aload_n X dX2_stepCore_23 rfl rfl (q := 0) rfl ?_
  refine jgN_core X hm hg 3 (by decide) nk_RX2_113 rfl rfl dX2_stepCore_24 rfl ?_
  refine j_topeq (y := (nI (pPs S m g))) (hps.1) ?_
  refine j_ialdN X (k := pPs S m g) (wm_prog (Or.inl ⟨hm, hg⟩) (by decide)) (wE_oper (Or.inl ⟨hm, hg⟩) _) hps30 (by decide) dX2_stepCore_27 rfl ?_
  refine j_istore_n X dX2_stepCore_28 rfl rfl (by decide) (Ls2 := [(3, .int (S m g 5 (pPs S m g))), (2, .ref (zA Z (m) (g) (0))), (0, .ref (zA Z (m) (4) (0))), (1, .int (nI (g)))]) rfl ?_
  refine j_aload_n X dX2_stepCore_29 rfl rfl (q := 2) rfl ?_
  refine j_calli X (c_X2_abortsSoFar l Z S h m hm ) (wm_mach hm (by decide)) (wE_mach hm 0 _) rfl lk_RX2_116 mi_X2_abortsSoFar ms_X2_abortsSoFar ini_RX2 mc_X2_abortsSoFar md_X2_abortsSoFar ⟨Nat.le_of_ble_eq_true rfl, Nat.le_of_ble_eq_true rfl⟩ ⟨Nat.le_of_ble_eq_true rfl, Nat.le_of_ble_eq_true rfl⟩ rfl (Nat.le_of_ble_eq_true rfl) (as := []) (rest := []) rfl dX2_stepCore_30 rfl ?_
  refine j_istore X dX2_stepCore_33 rfl (by decide) (Ls2 := [(4, .int (pAborts S m)), (3, .int (S m g 5 (pPs S m g))), (2, .ref (zA Z (m) (g) (0))), (0, .ref (zA Z (m) (4) (0))), (1, .int (nI (g)))]) rfl ?_
  refine j_aload_n X dX2_stepCore_35 rfl rfl (q := 2) rfl ?_
  refine jgN_core X hm hg 14 (by decide) nk_RX2_119 rfl rfl dX2_stepCore_36 rfl ?_
  refine j_istore X dX2_stepCore_39 rfl (by decide) (Ls2 := [(5, .int (S m g 0 14)), (4, .int (pAborts S m)), (3, .int (S m g 5 (pPs S m g))), (2, .ref (zA Z (m) (g) (0))), (0, .ref (zA Z (m) (4) (0))), (1, .int (nI (g)))]) rfl ?_
  refine j_aload_n X dX2_stepCore_41 rfl rfl (q := 4) rfl ?_
  refine jg_mach X hm 2 (by decide) lk_RX2_22 rfl rfl dX2_stepCore_42 rfl ?_
  refine j_bipush X dX2_stepCore_45 rfl (v := 7) (by decide) ?_
  refine j_dup2 X dX2_stepCore_47 rfl rfl rfl ?_
  refine j_ialdN X (k := 7) (wm_mach hm (by decide)) (wE_mach hm 3 _) (by decide) (by decide) dX2_stepCore_48 rfl ?_
  refine j_iconst X dX2_stepCore_49 rfl (v := 1) (by decide) ?_
  refine j_iadd X dX2_stepCore_50 rfl ?_
  refine j_iastN X (k := 7) (wm_mach hm (by decide)) (fun r => wE_mach hm 3 r) (by decide) (by decide) dX2_stepCore_51 rfl ?_
  refine j_name (fun S1 eS1 => ?_)
  refine j_aload_n X dX2_stepCore_52 rfl rfl (q := 3) rfl ?_
  refine jgN_core X hm hg 2 (by decide) nk_RX2_104 rfl rfl dX2_stepCore_53 rfl ?_
  refine jgN_prog X (Or.inl ⟨hm, hg⟩) 0 (by decide) nk_RX2_122 rfl rfl dX2_stepCore_56 rfl ?_
  refine j_aload_n X dX2_stepCore_59 rfl rfl (q := 3) rfl ?_
  refine jgN_core X hm hg 3 (by decide) nk_RX2_113 rfl rfl dX2_stepCore_60 rfl ?_
  refine j_topeq (y := (nI (pPs S m g))) (by subst eS1; simp [setF_4, inc_r, set2_r, set3_r, pWB_r, pWbe_r, pWc_r, pOver_r, pOwn_r, pTak_r, pRoll_4, pNote_4, pEndT_4, pBegT_4, hg, pCC, hcc.2, setF_g] <;> exact hps.1) ?_
  refine j_ialdN X (k := pPs S m g) (wm_prog (Or.inl ⟨hm, hg⟩) (by decide)) (wE_kinds (Or.inl ⟨hm, hg⟩) _) hps30 (by decide) dX2_stepCore_63 rfl ?_
  refine j_topeq (y := (nI (4))) (by subst eS1; simp [setF_4, inc_r, set2_r, set3_r, pWB_r, pWbe_r, pWc_r, pOver_r, pOwn_r, pTak_r, pRoll_4, pNote_4, pEndT_4, pBegT_4, hg, pCC, hcc.2, setF_g] <;> exact hkd) ?_
  refine j_tableOut X (tgt := 130) dX2_stepCore_64 (by decide) (by decide) ?_
  refine j_aload_n X dX2_stepCore_130 rfl rfl (q := 3) rfl ?_
  refine j_dup X dX2_stepCore_131 rfl rfl ?_
  refine jgN_core X hm hg 4 (by decide) nk_RX2_138 rfl rfl dX2_stepCore_132 rfl ?_
  refine j_iload_n X dX2_stepCore_135 rfl rfl (q := 2) rfl ?_
  refine j_iadd X dX2_stepCore_136 rfl ?_
  refine jpN_core X hm hg 4 (by decide) nk_RX2_138 rfl rfl rfl (vp_nar_int _) rfl rfl dX2_stepCore_137 rfl ?_
  refine j_name (fun S2 eS2 => ?_)
  refine j_aload_n X dX2_stepCore_140 rfl rfl (q := 4) rfl ?_
  refine j_calli X (c_X2_abortsSoFar l Z S2 h m hm ) (wm_mach hm (by decide)) (wE_mach hm 0 _) rfl lk_RX2_116 mi_X2_abortsSoFar ms_X2_abortsSoFar ini_RX2 mc_X2_abortsSoFar md_X2_abortsSoFar ⟨Nat.le_of_ble_eq_true rfl, Nat.le_of_ble_eq_true rfl⟩ ⟨Nat.le_of_ble_eq_true rfl, Nat.le_of_ble_eq_true rfl⟩ rfl (Nat.le_of_ble_eq_true rfl) (as := []) (rest := []) rfl dX2_stepCore_141 rfl ?_
  refine j_iload X dX2_stepCore_144 rfl (q := 1) rfl ?_
  refine j_isub X dX2_stepCore_146 rfl ?_
  refine j_istore X dX2_stepCore_147 rfl (by decide) (Ls2 := [(6, .int ((pAborts S2 m) - (pAborts S m))), (5, .int (S m g 0 14)), (4, .int (pAborts S m)), (3, .int (S m g 5 (pPs S m g))), (2, .ref (zA Z (m) (g) (0))), (0, .ref (zA Z (m) (4) (0))), (1, .int (nI (g)))]) rfl ?_
  refine j_aload_n X dX2_stepCore_149 rfl rfl (q := 4) rfl ?_
  refine jgN_core X hm hg 14 (by decide) nk_RX2_119 rfl rfl dX2_stepCore_150 rfl ?_
  refine j_iload X dX2_stepCore_153 rfl (q := 1) rfl ?_
  refine j_icmp_eq X dX2_stepCore_155 rfl (tgt := 164) (by decide) (fun c_155 => ?_) (fun c_155 => ?_)
  · refine j_aload_n X dX2_stepCore_164 rfl rfl (q := 4) rfl ?_
    refine j_dup X dX2_stepCore_165 rfl rfl ?_
    refine jgN_core X hm hg 3 (by decide) nk_RX2_113 rfl rfl dX2_stepCore_166 rfl ?_
    refine j_iconst X dX2_stepCore_169 rfl (v := 1) (by decide) ?_
    refine j_iadd X dX2_stepCore_170 rfl ?_
    refine jpN_core X hm hg 3 (by decide) nk_RX2_113 rfl rfl rfl (vp_nar_int _) rfl rfl dX2_stepCore_171 rfl ?_
    refine j_name (fun S3 eS3 => ?_)
    refine j_iload X dX2_stepCore_174 rfl (q := 0) rfl ?_
    exact j_ret (by subst eS1; subst eS2; subst eS3; first | rfl | simp [pStepK, pExec, inc, c_155]) (by subst eS1; subst eS2; subst eS3; first | rfl | simp [pStepK, pExec, inc, c_155]) rfl (K _ _ dX2_stepCore_176)
  · refine j_iload X dX2_stepCore_158 rfl (q := 0) rfl ?_
    refine j_bipush X dX2_stepCore_160 rfl (v := 8) (by decide) ?_
    refine j_iadd X dX2_stepCore_162 rfl ?_
    exact j_ret (by subst eS1; subst eS2; first | rfl | simp [pStepK, pExec, inc, c_155]) (by subst eS1; subst eS2; first | rfl | simp [pStepK, pExec, inc, c_155]) rfl (K _ _ dX2_stepCore_163)

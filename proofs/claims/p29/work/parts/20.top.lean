/-! the object -/
abbrev pOs (S : St) : Nat := (S 6 0 0 6).toNatClampNeg
abbrev pNs (S : St) : Nat := (S 6 0 0 7).toNatClampNeg
abbrev pTL (S : St) : Nat := (S 6 0 0 1).toNatClampNeg
def pSave (S : St) : St := if 4 ≤ pNs S then setF (pCopyM S ((pOs S + pNs S) % 4 + 2) 0) 6 0 0 6 (nI ((pOs S + 1) % 4)) else setF (pCopyM S ((pOs S + pNs S) % 4 + 2) 0) 6 0 0 7 (nI (pNs S + 1))
def pTrial (S : St) (x : Int32) : St := setF (pCopyM S 1 0) 1 4 0 5 x
def pBeginQ (S : St) (a b d : Int32) : Int32 × St := (pSave S 0 4 4 7, pStart (pSave S) 0 a b d)
def pSetPol (S : St) (a : Int32) : Int32 × St := (pSave S 0 4 0 5, setF (pSave S) 0 4 0 5 a)
def pSeed (S : St) (a : Int32) : Int32 × St := (pSave S 0 4 0 7, setF (pSave S) 0 4 0 7 a)
def pAppS (S : St) (a : Int32) : St := setF (setF S 6 0 1 (pTL S) a) 6 0 0 1 (nI (pTL S + 1))
def pLdS (S : St) (a : Nat) : St := pTake (pSave S) 0 a 6 0
def pLoadQ (S : St) (a : Nat) : Int32 × St := if (pRdT S (pTL S)).1 = -1 then (pLdS (pRdT S (pTL S)).2 a 0 a 3 2, pLdS (pRdT S (pTL S)).2 a) else (-10 - (pRdT S (pTL S)).1, (pRdT S (pTL S)).2)
def pAgain (S : St) (a : Nat) : St := setF (pSave S) 0 a 0 3 0
def pCached (S : St) (a j : Nat) : Int32 := if S 0 a 1 j = 0 then 0 else S 0 a 2 j
def pUndo (S : St) : St := pCopyM (setF S 6 0 0 7 (nI (pNs S - 1))) 0 ((pOs S + (pNs S - 1)) % 4 + 2)
/-! what stays -/
theorem setF_m {S : St} {m g i k : Nat} {v : Int32} {m' : Nat} (h : m' ≠ m) : setF S m g i k v m' = S m' := by
  funext g' i' k'; rw [setF_at, if_neg (by omega)]
theorem cpR_m {S : St} {m1 g1 i1 m g i n m' : Nat} (h : m' ≠ m) : cpR S m1 g1 i1 m g i n m' = S m' := by
  funext g' i' k'; rw [cpR_at, if_neg (by omega)]
theorem pCopyP_m {S : St} {m g m2 g2 m' : Nat} (h : m' ≠ m) : pCopyP S m g m2 g2 m' = S m' := by
  simp only [pCopyP]; rw [setF_m h, cpR_m h, cpR_m h]
theorem pCopyC_m {S : St} {m g m2 g2 m' : Nat} (h : m' ≠ m) : pCopyC S m g m2 g2 m' = S m' := by
  simp only [pCopyC, cpF]
  rw [setF_m h, setF_m h, cpR_m h]
  rw [setF_m h, setF_m h, setF_m h, setF_m h, setF_m h, setF_m h, setF_m h, setF_m h, setF_m h, pCopyP_m h, cpR_m h, cpR_m h]
theorem pCopyL_m {S : St} {m m2 m' : Nat} (h : m' ≠ m) : pCopyL S m m2 m' = S m' := by
  simp only [pCopyL]
  rw [setF_m h, cpR_m h, cpR_m h, cpR_m h, cpR_m h, cpR_m h, cpR_m h]
theorem pCopyM_m {S : St} {m m2 m' : Nat} (h : m' ≠ m) : pCopyM S m m2 m' = S m' := by
  simp only [pCopyM, cpG]
  rw [setF_m h, setF_m h, setF_m h, setF_m h, setF_m h, pCopyL_m h, cpR_m h, cpR_m h]
  exact lp_ne (fun k T => pCopyC T m k m2 k) (fun T => T m') (fun k T => pCopyC_m h) 4 0 S
theorem pSave_0 (S : St) : pSave S 0 = S 0 := by
  unfold pSave
  split
  · rw [setF_m (by decide), pCopyM_m (by omega)]
  · rw [setF_m (by decide), pCopyM_m (by omega)]
theorem wfS_eq {S S2 : St} {m g : Nat} (e : S2 m = S m) (h : wfS S m g) : wfS S2 m g := by
  unfold wfS pFin pPs at *
  rw [e]; exact h
theorem pExpect_k {S : St} {a b : Int32} {m g i k : Nat} (h : ¬ (m = 6 ∧ g = 0 ∧ i = 2)) : pExpect S a b m g i k = S m g i k := by
  unfold pExpect
  rw [setF_at, if_neg (by omega), setF_at, if_neg (by omega)]
/-- the reader writes its own cells alone -/
def rdOut (m g i : Nat) : Prop := ¬ (m = 6 ∧ g = 0 ∧ (i = 2 ∨ i = 3 ∨ i = 4 ∨ i = 5))
theorem setR {S : St} {i k m' g' i' k' : Nat} {v : Int32} (h : rdOut m' g' i') (hi : i = 2 ∨ i = 3 ∨ i = 4 ∨ i = 5) : setF S 6 0 i k v m' g' i' k' = S m' g' i' k' := by
  rw [setF_at, if_neg]; rintro ⟨h1, h2, h3, -⟩; exact h ⟨h1, h2, by omega⟩
theorem pAddI_o {S : St} {a b : Int32} {m g i k : Nat} (h : rdOut m g i) : pAddI S 6 0 a b m g i k = S m g i k := by
  unfold pAddI
  split
  · rfl
  · split
    · rfl
    · rw [setR h (by decide), setR h (by decide), setR h (by decide)]
theorem pAcMin_o {S : St} {x : Int32} {m g i k : Nat} (h : rdOut m g i) : (pAcMin S x).2 m g i k = S m g i k := by
  unfold pAcMin
  split
  · dsimp only; rw [setR h (by decide), setR h (by decide)]
  · rfl
theorem pAcDig_o {S : St} {x : Int32} {m g i k : Nat} (h : rdOut m g i) : (pAcDig S x).2 m g i k = S m g i k := by
  unfold pAcDig
  split
  · rfl
  · split
    · dsimp only; rw [setR h (by decide), setR h (by decide), setR h (by decide)]
    · rfl
theorem pAcEnd_o {S : St} {x : Int32} {m g i k : Nat} (h : rdOut m g i) : (pAcEnd S x).2 m g i k = S m g i k := by
  unfold pAcEnd
  split
  · dsimp only; rw [setR h (by decide), pAddI_o h]
  · rfl
theorem pAcLine_o {S : St} {x : Int32} {m g i k : Nat} (h : rdOut m g i) : (pAcLine S x).2 m g i k = S m g i k := by
  unfold pAcLine
  split
  · dsimp only; rw [setR h (by decide), setR h (by decide)]
  · rfl
theorem pAcIns_o {S : St} {x : Int32} {m g i k : Nat} (h : rdOut m g i) : (pAcIns S x).2 m g i k = S m g i k := by
  have e : ∀ a b : Int32, pExpect (setF (setF (setF S 6 0 2 3 0) 6 0 2 4 0) 6 0 2 5 0) a b m g i k = S m g i k := by
    intro a b
    unfold pExpect
    rw [setR h (by decide), setR h (by decide), setR h (by decide), setR h (by decide), setR h (by decide)]
  unfold pAcIns
  split
  · rfl
  · dsimp only
    repeat' split
    all_goals first | exact e _ _ | (dsimp only; rw [setR h (by decide), setR h (by decide), setR h (by decide)])
theorem pAcc_o {S : St} {x : Int32} {w m g i k : Nat} (h : rdOut m g i) : (pAcc S x w).2 m g i k = S m g i k := by
  unfold pAcc
  split
  · exact pAcIns_o h
  · split
    · exact pAcLine_o h
    · split
      · split
        · exact pAcMin_o h
        · rw [pAcDig_o h, pAcMin_o h]
      · split
        · exact pAcDig_o h
        · split
          · split
            · exact pAcDig_o h
            · rw [pAcEnd_o h, pAcDig_o h]
          · exact pAcEnd_o h
theorem pRdT_o {S : St} {b m g i k : Nat} (h : rdOut m g i) : (pRdT S b).2 m g i k = S m g i k := by
  have e : (pRdL S b).2.1 m g i k = S m g i k := by
    unfold pRdL
    rw [lpE_ne pRdF (fun q => q.1 m g i k) (fun k2 q => by
      dsimp only [pRdF]
      split
      · exact pAcc_o h
      · exact pAcc_o h)]
    dsimp only
    rw [setR h (by decide), setR h (by decide)]
  unfold pRdT
  split
  · exact e
  · exact e
set_option maxRecDepth 100000 in
set_option maxHeartbeats 4000000 in
theorem c_X5_saveState (l : Launch) (Z : wZ) (S : St) (h : Hl) (ho : okI (S 6 0 0 6) 3) (hn : okI (S 6 0 0 7) 4) (hq : okI (S 0 4 4 7) 400) : Cv l yX5_saveState cX5_saveState 1 4 82 Z [.ref (zA Z (6) (0) (0))] S h (pSave S) (h) := by
  have ho3 : pOs S ≤ 3 := ho.2
  have hn4 : pNs S ≤ 4 := hn.2
  refine Cv.of rfl (Nat.le_of_ble_eq_true rfl) (fun p e s mi args below meth c A0 Q X K => ?_)
  refine j_at rfl rfl (Ls3 := [(0, .ref (zA Z (6) (0) (0)))]) rfl rfl ?_
  refine j_aload_n X dX5_saveState_0 rfl rfl (q := 0) rfl ?_
  refine jg_top X 5 (by decide) lk_RX5_36 rfl rfl dX5_saveState_1 rfl ?_
  refine j_aload_n X dX5_saveState_4 rfl rfl (q := 0) rfl ?_
  refine jg_top X 6 (by decide) lk_RX5_40 rfl rfl dX5_saveState_5 rfl ?_
  refine j_topeq (y := (nI (pOs S))) (ho.1) ?_
  refine j_aload_n X dX5_saveState_8 rfl rfl (q := 0) rfl ?_
  refine jg_top X 7 (by decide) lk_RX5_43 rfl rfl dX5_saveState_9 rfl ?_
  refine j_topeq (y := (nI (pNs S))) (hn.1) ?_
  refine j_iadd X dX5_saveState_12 rfl ?_
  refine j_topeq (y := nI ((pOs S) + (pNs S))) (nI_add (pOs S) (pNs S)) ?_
  refine j_iconst X dX5_saveState_13 rfl (v := 4) (by decide) ?_
  refine j_irem X dX5_saveState_14 rfl (by decide) ?_
  refine j_topeq (y := nI (((pOs S) + (pNs S)) % 4)) (pk_rem (by omega) (by decide) (by decide)) ?_
  refine j_aldMN X (g := ((pOs S) + (pNs S)) % 4) (Nat.mod_lt _ (by decide)) dX5_saveState_15 rfl ?_
  refine j_aload_n X dX5_saveState_16 rfl rfl (q := 0) rfl ?_
  refine jg_top X 3 (by decide) lk_RX5_29 rfl rfl dX5_saveState_17 rfl ?_
  refine j_callNv X (c_X2_copyFrom l Z S h (((pOs S) + (pNs S)) % 4 + 2) 0 (by omega) (by decide) hq (show pQ S 0 ≤ rmI 0 from hq.2)) (wm_mach (by omega) (by decide)) (wE_mach (by omega) 0 _) rfl nk_RX5_224 mi_X2_copyFrom ms_X2_copyFrom ini_RX2 mc_X2_copyFrom md_X2_copyFrom ⟨Nat.le_of_ble_eq_true rfl, Nat.le_of_ble_eq_true rfl⟩ ⟨Nat.le_of_ble_eq_true rfl, Nat.le_of_ble_eq_true rfl⟩ rfl (Nat.le_of_ble_eq_true rfl) (as := [.ref (zA Z (0) (4) (0))]) (rest := []) rfl dX5_saveState_20 rfl ?_
  refine j_name (fun S1 eS1 => ?_)
  refine j_aload_n X dX5_saveState_23 rfl rfl (q := 0) rfl ?_
  refine jg_top X 7 (by decide) lk_RX5_43 rfl rfl dX5_saveState_24 rfl ?_
  refine j_topeq (y := (nI (pNs S))) (by subst eS1; simp [pCopyM_m (show (6 : Nat) ≠ (pOs S + pNs S) % 4 + 2 by omega)] <;> exact hn.1) ?_
  refine j_iconst X dX5_saveState_27 rfl (v := 4) (by decide) ?_
  refine j_icmpN_ge X (a := pNs S) (b := 4) (by omega) (by omega) dX5_saveState_28 rfl (tgt := 44) (by decide) (fun c_28 => ?_) (fun c_28 => ?_)
  · refine j_aload_n X dX5_saveState_44 rfl rfl (q := 0) rfl ?_
    refine j_aload_n X dX5_saveState_45 rfl rfl (q := 0) rfl ?_
    refine jg_top X 6 (by decide) lk_RX5_40 rfl rfl dX5_saveState_46 rfl ?_
    refine j_topeq (y := (nI (pOs S))) (by subst eS1; simp [pCopyM_m (show (6 : Nat) ≠ (pOs S + pNs S) % 4 + 2 by omega)] <;> exact ho.1) ?_
    refine j_iconst X dX5_saveState_49 rfl (v := 1) (by decide) ?_
    refine j_iadd X dX5_saveState_50 rfl ?_
    refine j_topeq (y := nI ((pOs S) + 1)) (nI_add (pOs S) 1) ?_
    refine j_iconst X dX5_saveState_51 rfl (v := 4) (by decide) ?_
    refine j_irem X dX5_saveState_52 rfl (by decide) ?_
    refine j_topeq (y := nI (((pOs S) + 1) % 4)) (pk_rem (by omega) (by decide) (by decide)) ?_
    refine jp_top X 6 (by decide) lk_RX5_40 rfl rfl rfl (vp_nar_int _) rfl rfl dX5_saveState_53 rfl ?_
    refine j_name (fun S2 eS2 => ?_)
    exact j_at (by subst eS1; subst eS2; first | with_reducible rfl | (simp [pSave, c_28]; done) | (simp_all [pSave]; done) | rfl) rfl rfl rfl (K _ _ dX5_saveState_56)
  · refine j_aload_n X dX5_saveState_31 rfl rfl (q := 0) rfl ?_
    refine j_dup X dX5_saveState_32 rfl rfl ?_
    refine jg_top X 7 (by decide) lk_RX5_43 rfl rfl dX5_saveState_33 rfl ?_
    refine j_topeq (y := (nI (pNs S))) (by subst eS1; simp [pCopyM_m (show (6 : Nat) ≠ (pOs S + pNs S) % 4 + 2 by omega)] <;> exact hn.1) ?_
    refine j_iconst X dX5_saveState_36 rfl (v := 1) (by decide) ?_
    refine j_iadd X dX5_saveState_37 rfl ?_
    refine j_topeq (y := nI ((pNs S) + 1)) (nI_add (pNs S) 1) ?_
    refine jp_top X 7 (by decide) lk_RX5_43 rfl rfl rfl (vp_nar_int _) rfl rfl dX5_saveState_38 rfl ?_
    refine j_name (fun S3 eS3 => ?_)
    refine j_goto X (tgt := 56) dX5_saveState_41 (by decide) ?_
    exact j_at (by subst eS1; subst eS3; first | with_reducible rfl | (simp [pSave, c_28]; done) | (simp_all [pSave]; done) | rfl) rfl rfl rfl (K _ _ dX5_saveState_56)
set_option maxRecDepth 100000 in
set_option maxHeartbeats 4000000 in
theorem c_X5_startTrial (l : Launch) (Z : wZ) (S : St) (h : Hl) (x : Int32) (hq : okI (S 0 4 4 7) 400) : Cv l yX5_startTrial cX5_startTrial 2 4 82 Z [.ref (zA Z (6) (0) (0)), .int (x)] S h (pTrial S x) (h) := by
  refine Cv.of rfl (Nat.le_of_ble_eq_true rfl) (fun p e s mi args below meth c A0 Q X K => ?_)
  refine j_at rfl rfl (Ls3 := [(0, .ref (zA Z (6) (0) (0))), (1, .int (x))]) rfl rfl ?_
  refine j_aload_n X dX5_startTrial_0 rfl rfl (q := 0) rfl ?_
  refine jg_top X 4 (by decide) lk_RX5_33 rfl rfl dX5_startTrial_1 rfl ?_
  refine j_aload_n X dX5_startTrial_4 rfl rfl (q := 0) rfl ?_
  refine jg_top X 3 (by decide) lk_RX5_29 rfl rfl dX5_startTrial_5 rfl ?_
  refine j_callNv X (c_X2_copyFrom l Z S h 1 0 (by decide) (by decide) hq (show pQ S 0 ≤ rmI 0 from hq.2)) (wm_mach (by decide) (by decide)) (wE_mach (by decide) 0 _) rfl nk_RX5_224 mi_X2_copyFrom ms_X2_copyFrom ini_RX2 mc_X2_copyFrom md_X2_copyFrom ⟨Nat.le_of_ble_eq_true rfl, Nat.le_of_ble_eq_true rfl⟩ ⟨Nat.le_of_ble_eq_true rfl, Nat.le_of_ble_eq_true rfl⟩ rfl (Nat.le_of_ble_eq_true rfl) (as := [.ref (zA Z (0) (4) (0))]) (rest := []) rfl dX5_startTrial_8 rfl ?_
  refine j_name (fun S1 eS1 => ?_)
  refine j_aload_n X dX5_startTrial_11 rfl rfl (q := 0) rfl ?_
  refine jg_top X 4 (by decide) lk_RX5_33 rfl rfl dX5_startTrial_12 rfl ?_
  refine j_iload_n X dX5_startTrial_15 rfl rfl (q := 1) rfl ?_
  refine jpN_mach X (by decide) 5 (by decide) nk_RX5_78 rfl rfl rfl (vp_nar_int _) rfl rfl dX5_startTrial_16 rfl ?_
  refine j_name (fun S2 eS2 => ?_)
  exact j_at (by subst eS1; subst eS2; first | with_reducible rfl | (simp [pTrial]; done) | (simp_all [pTrial]; done) | rfl) rfl rfl rfl (K _ _ dX5_startTrial_19)
set_option maxRecDepth 100000 in
set_option maxHeartbeats 4000000 in
theorem c_X5_begin (l : Launch) (Z : wZ) (S : St) (h : Hl) (x y z : Int32) (h1 : ¬ x < 2) (h2 : ¬ 4 < x) (h3 : pIsPol y = true) (h4 : ¬ z < 1) (h5 : z ≤ 8) (ho : okI (S 6 0 0 6) 3) (hn : okI (S 6 0 0 7) 4) (hq : okI (S 0 4 4 7) 400) : Ci l yX5_begin cX5_begin 5 .int 5 102 Z [.ref (zA Z (6) (0) (0)), .int (x), .int (y), .int (z)] S h ((pBeginQ S x y z).1) ((pBeginQ S x y z).2) (h) := by
  refine Ci.of rfl rfl (Nat.le_of_ble_eq_true rfl) (fun p e s mi args below meth c A0 Q X K => ?_)
  refine j_at rfl rfl (Ls3 := [(0, .ref (zA Z (6) (0) (0))), (1, .int (x)), (2, .int (y)), (3, .int (z))]) rfl rfl ?_
  refine j_iload_n X dX5_begin_0 rfl rfl (q := 1) rfl ?_
  refine j_iconst X dX5_begin_1 rfl (v := 2) (by decide) ?_
  refine j_icmp_lt_f X dX5_begin_2 rfl (tgt := 28) (by decide) h1 ?_
  refine j_iload_n X dX5_begin_5 rfl rfl (q := 1) rfl ?_
  refine j_iconst X dX5_begin_6 rfl (v := 4) (by decide) ?_
  refine j_icmp_gt_f X dX5_begin_7 rfl (tgt := 28) (by decide) h2 ?_
  refine j_iload_n X dX5_begin_10 rfl rfl (q := 2) rfl ?_
  refine j_callSi X (c_X5_isPolicy l Z S h (y)) lk_RX5_49 mt_X5_isPolicy ini_RX5 mc_X5_isPolicy md_X5_isPolicy ⟨Nat.le_of_ble_eq_true rfl, Nat.le_of_ble_eq_true rfl⟩ ⟨Nat.le_of_ble_eq_true rfl, Nat.le_of_ble_eq_true rfl⟩ rfl (Nat.le_of_ble_eq_true rfl) (as := [.int (y)]) (rest := []) rfl dX5_begin_11 rfl ?_
  refine j_if_eq_f X dX5_begin_14 rfl (tgt := 28) (by decide) (by rw [h3]; decide) ?_
  refine j_iload_n X dX5_begin_17 rfl rfl (q := 3) rfl ?_
  refine j_iconst X dX5_begin_18 rfl (v := 1) (by decide) ?_
  refine j_icmp_lt_f X dX5_begin_19 rfl (tgt := 28) (by decide) h4 ?_
  refine j_iload_n X dX5_begin_22 rfl rfl (q := 3) rfl ?_
  refine j_bipush X dX5_begin_23 rfl (v := 8) (by decide) ?_
  refine j_icmp_le_t X (tgt := 38) dX5_begin_25 (by decide) h5 ?_
  refine j_aload_n X dX5_begin_38 rfl rfl (q := 0) rfl ?_
  refine j_callv X (c_X5_saveState l Z S h ho hn hq) (wm_top (by decide)) ((fun _ => rfl) _) rfl lk_RX5_60 mi_X5_saveState ms_X5_saveState ini_RX5 mc_X5_saveState md_X5_saveState ⟨Nat.le_of_ble_eq_true rfl, Nat.le_of_ble_eq_true rfl⟩ ⟨Nat.le_of_ble_eq_true rfl, Nat.le_of_ble_eq_true rfl⟩ rfl (Nat.le_of_ble_eq_true rfl) (as := []) (rest := []) rfl dX5_begin_39 rfl ?_
  refine j_name (fun S1 eS1 => ?_)
  refine j_aload_n X dX5_begin_42 rfl rfl (q := 0) rfl ?_
  refine jg_top X 3 (by decide) lk_RX5_29 rfl rfl dX5_begin_43 rfl ?_
  refine jgN_mach X (by decide) 3 (by decide) nk_RX5_63 rfl rfl dX5_begin_46 rfl ?_
  refine jgN_log X (by decide) 7 (by decide) nk_RX5_67 rfl rfl dX5_begin_49 rfl ?_
  refine j_istore X dX5_begin_52 rfl (by decide) (Ls2 := [(4, .int (S1 0 4 4 7)), (0, .ref (zA Z (6) (0) (0))), (1, .int (x)), (2, .int (y)), (3, .int (z))]) rfl ?_
  refine j_aload_n X dX5_begin_54 rfl rfl (q := 1) rfl ?_
  refine jg_top X 3 (by decide) lk_RX5_29 rfl rfl dX5_begin_55 rfl ?_
  refine j_iload_n X dX5_begin_58 rfl rfl (q := 2) rfl ?_
  refine j_iload_n X dX5_begin_59 rfl rfl (q := 3) rfl ?_
  refine j_iload_n X dX5_begin_60 rfl rfl (q := 4) rfl ?_
  refine j_callNv X (c_X2_startAnew l Z S1 h 0 (by decide) (x) (y) (z)) (wm_mach (by decide) (by decide)) (wE_mach (by decide) 0 _) rfl nk_RX5_72 mi_X2_startAnew ms_X2_startAnew ini_RX2 mc_X2_startAnew md_X2_startAnew ⟨Nat.le_of_ble_eq_true rfl, Nat.le_of_ble_eq_true rfl⟩ ⟨Nat.le_of_ble_eq_true rfl, Nat.le_of_ble_eq_true rfl⟩ rfl (Nat.le_of_ble_eq_true rfl) (as := [.int (x), .int (y), .int (z)]) (rest := []) rfl dX5_begin_61 rfl ?_
  refine j_name (fun S2 eS2 => ?_)
  refine j_iload X dX5_begin_64 rfl (q := 0) rfl ?_
  exact j_ret (by subst eS1; subst eS2; first | with_reducible rfl | (simp [pBeginQ]; done) | (simp_all [pBeginQ]; done) | rfl) (by subst eS1; subst eS2; first | with_reducible rfl | (simp [pBeginQ]; done) | (simp_all [pBeginQ]; done) | rfl) rfl (K _ _ dX5_begin_66)
set_option maxRecDepth 100000 in
set_option maxHeartbeats 4000000 in
theorem c_X5_setPolicy (l : Launch) (Z : wZ) (S : St) (h : Hl) (x : Int32) (h3 : pIsPol x = true) (ho : okI (S 6 0 0 6) 3) (hn : okI (S 6 0 0 7) 4) (hq : okI (S 0 4 4 7) 400) : Ci l yX5_setPolicy cX5_setPolicy 3 .int 5 102 Z [.ref (zA Z (6) (0) (0)), .int (x)] S h ((pSetPol S x).1) ((pSetPol S x).2) (h) := by
  refine Ci.of rfl rfl (Nat.le_of_ble_eq_true rfl) (fun p e s mi args below meth c A0 Q X K => ?_)
  refine j_at rfl rfl (Ls3 := [(0, .ref (zA Z (6) (0) (0))), (1, .int (x))]) rfl rfl ?_
  refine j_iload_n X dX5_setPolicy_0 rfl rfl (q := 1) rfl ?_
  refine j_callSi X (c_X5_isPolicy l Z S h (x)) lk_RX5_49 mt_X5_isPolicy ini_RX5 mc_X5_isPolicy md_X5_isPolicy ⟨Nat.le_of_ble_eq_true rfl, Nat.le_of_ble_eq_true rfl⟩ ⟨Nat.le_of_ble_eq_true rfl, Nat.le_of_ble_eq_true rfl⟩ rfl (Nat.le_of_ble_eq_true rfl) (as := [.int (x)]) (rest := []) rfl dX5_setPolicy_1 rfl ?_
  refine j_if_ne_t X (tgt := 17) dX5_setPolicy_4 (by decide) (by rw [h3]; decide) ?_
  refine j_aload_n X dX5_setPolicy_17 rfl rfl (q := 0) rfl ?_
  refine j_callv X (c_X5_saveState l Z S h ho hn hq) (wm_top (by decide)) ((fun _ => rfl) _) rfl lk_RX5_60 mi_X5_saveState ms_X5_saveState ini_RX5 mc_X5_saveState md_X5_saveState ⟨Nat.le_of_ble_eq_true rfl, Nat.le_of_ble_eq_true rfl⟩ ⟨Nat.le_of_ble_eq_true rfl, Nat.le_of_ble_eq_true rfl⟩ rfl (Nat.le_of_ble_eq_true rfl) (as := []) (rest := []) rfl dX5_setPolicy_18 rfl ?_
  refine j_name (fun S1 eS1 => ?_)
  refine j_aload_n X dX5_setPolicy_21 rfl rfl (q := 0) rfl ?_
  refine jg_top X 3 (by decide) lk_RX5_29 rfl rfl dX5_setPolicy_22 rfl ?_
  refine jgN_mach X (by decide) 5 (by decide) nk_RX5_78 rfl rfl dX5_setPolicy_25 rfl ?_
  refine j_istore_n X dX5_setPolicy_28 rfl rfl (by decide) (Ls2 := [(2, .int (S1 0 4 0 5)), (0, .ref (zA Z (6) (0) (0))), (1, .int (x))]) rfl ?_
  refine j_aload_n X dX5_setPolicy_29 rfl rfl (q := 1) rfl ?_
  refine jg_top X 3 (by decide) lk_RX5_29 rfl rfl dX5_setPolicy_30 rfl ?_
  refine j_iload_n X dX5_setPolicy_33 rfl rfl (q := 2) rfl ?_
  refine jpN_mach X (by decide) 5 (by decide) nk_RX5_78 rfl rfl rfl (vp_nar_int _) rfl rfl dX5_setPolicy_34 rfl ?_
  refine j_name (fun S2 eS2 => ?_)
  refine j_iload_n X dX5_setPolicy_37 rfl rfl (q := 0) rfl ?_
  exact j_ret (by subst eS1; subst eS2; first | with_reducible rfl | (simp [pSetPol]; done) | (simp_all [pSetPol]; done) | rfl) (by subst eS1; subst eS2; first | with_reducible rfl | (simp [pSetPol]; done) | (simp_all [pSetPol]; done) | rfl) rfl (K _ _ dX5_setPolicy_38)
set_option maxRecDepth 100000 in
set_option maxHeartbeats 4000000 in
theorem c_X5_seed (l : Launch) (Z : wZ) (S : St) (h : Hl) (x : Int32) (h1 : ¬ x < 0) (h2 : x ≤ 999999) (ho : okI (S 6 0 0 6) 3) (hn : okI (S 6 0 0 7) 4) (hq : okI (S 0 4 4 7) 400) : Ci l yX5_seed cX5_seed 3 .int 5 102 Z [.ref (zA Z (6) (0) (0)), .int (x)] S h ((pSeed S x).1) ((pSeed S x).2) (h) := by
  refine Ci.of rfl rfl (Nat.le_of_ble_eq_true rfl) (fun p e s mi args below meth c A0 Q X K => ?_)
  refine j_at rfl rfl (Ls3 := [(0, .ref (zA Z (6) (0) (0))), (1, .int (x))]) rfl rfl ?_
  refine j_iload_n X dX5_seed_0 rfl rfl (q := 1) rfl ?_
  refine j_if_lt_f X dX5_seed_1 rfl (tgt := 10) (by decide) h1 ?_
  refine j_iload_n X dX5_seed_4 rfl rfl (q := 1) rfl ?_
  refine j_ldc X (v := 999999) dX5_seed_5 rfl (List.mem_of_getElem? (i := 289) (by decide +kernel)) ?_
  refine j_icmp_le_t X (tgt := 20) dX5_seed_7 (by decide) h2 ?_
  refine j_aload_n X dX5_seed_20 rfl rfl (q := 0) rfl ?_
  refine j_callv X (c_X5_saveState l Z S h ho hn hq) (wm_top (by decide)) ((fun _ => rfl) _) rfl lk_RX5_60 mi_X5_saveState ms_X5_saveState ini_RX5 mc_X5_saveState md_X5_saveState ⟨Nat.le_of_ble_eq_true rfl, Nat.le_of_ble_eq_true rfl⟩ ⟨Nat.le_of_ble_eq_true rfl, Nat.le_of_ble_eq_true rfl⟩ rfl (Nat.le_of_ble_eq_true rfl) (as := []) (rest := []) rfl dX5_seed_21 rfl ?_
  refine j_name (fun S1 eS1 => ?_)
  refine j_aload_n X dX5_seed_24 rfl rfl (q := 0) rfl ?_
  refine jg_top X 3 (by decide) lk_RX5_29 rfl rfl dX5_seed_25 rfl ?_
  refine jgN_mach X (by decide) 7 (by decide) nk_RX5_84 rfl rfl dX5_seed_28 rfl ?_
  refine j_istore_n X dX5_seed_31 rfl rfl (by decide) (Ls2 := [(2, .int (S1 0 4 0 7)), (0, .ref (zA Z (6) (0) (0))), (1, .int (x))]) rfl ?_
  refine j_aload_n X dX5_seed_32 rfl rfl (q := 1) rfl ?_
  refine jg_top X 3 (by decide) lk_RX5_29 rfl rfl dX5_seed_33 rfl ?_
  refine j_iload_n X dX5_seed_36 rfl rfl (q := 2) rfl ?_
  refine jpN_mach X (by decide) 7 (by decide) nk_RX5_84 rfl rfl rfl (vp_nar_int _) rfl rfl dX5_seed_37 rfl ?_
  refine j_name (fun S2 eS2 => ?_)
  refine j_iload_n X dX5_seed_40 rfl rfl (q := 0) rfl ?_
  exact j_ret (by subst eS1; subst eS2; first | with_reducible rfl | (simp [pSeed]; done) | (simp_all [pSeed]; done) | rfl) (by subst eS1; subst eS2; first | with_reducible rfl | (simp [pSeed]; done) | (simp_all [pSeed]; done) | rfl) rfl (K _ _ dX5_seed_41)
set_option maxRecDepth 100000 in
set_option maxHeartbeats 4000000 in
theorem c_X5_append (l : Launch) (Z : wZ) (S : St) (h : Hl) (x : Int32) (h1 : ¬ x < 0) (h2 : x ≤ 127) (htl : okI (S 6 0 0 1) 120) (ht : pTL S < 120) : Ci l yX5_append cX5_append 2 .int 0 0 Z [.ref (zA Z (6) (0) (0)), .int (x)] S h (pAppS S x 6 0 0 1) (pAppS S x) (h) := by
  refine Ci.of rfl rfl (Nat.le_of_ble_eq_true rfl) (fun p e s mi args below meth c A0 Q X K => ?_)
  refine j_at rfl rfl (Ls3 := [(0, .ref (zA Z (6) (0) (0))), (1, .int (x))]) rfl rfl ?_
  refine j_iload_n X dX5_append_0 rfl rfl (q := 1) rfl ?_
  refine j_if_lt_f X dX5_append_1 rfl (tgt := 10) (by decide) h1 ?_
  refine j_iload_n X dX5_append_4 rfl rfl (q := 1) rfl ?_
  refine j_bipush X dX5_append_5 rfl (v := 127) (by decide) ?_
  refine j_icmp_le_t X (tgt := 20) dX5_append_7 (by decide) h2 ?_
  refine j_aload_n X dX5_append_20 rfl rfl (q := 0) rfl ?_
  refine jg_top X 1 (by decide) lk_RX5_13 rfl rfl dX5_append_21 rfl ?_
  refine j_topeq (y := (nI (pTL S))) (htl.1) ?_
  refine j_if_lt_f X dX5_append_24 rfl (tgt := 36) (by decide) (nI_pos (by omega)) ?_
  refine j_aload_n X dX5_append_27 rfl rfl (q := 0) rfl ?_
  refine jg_top X 1 (by decide) lk_RX5_13 rfl rfl dX5_append_28 rfl ?_
  refine j_topeq (y := (nI (pTL S))) (htl.1) ?_
  refine j_bipush X dX5_append_31 rfl (v := 120) (by decide) ?_
  refine j_icmp_lt_t X (tgt := 46) dX5_append_33 (by decide) (nI_lt ht (by decide)) ?_
  refine j_aload_n X dX5_append_46 rfl rfl (q := 0) rfl ?_
  refine jg_top X 0 (by decide) lk_RX5_9 rfl rfl dX5_append_47 rfl ?_
  refine j_aload_n X dX5_append_50 rfl rfl (q := 0) rfl ?_
  refine jg_top X 1 (by decide) lk_RX5_13 rfl rfl dX5_append_51 rfl ?_
  refine j_topeq (y := (nI (pTL S))) (htl.1) ?_
  refine j_iload_n X dX5_append_54 rfl rfl (q := 1) rfl ?_
  refine j_iastN X (k := pTL S) (wm_top (by decide)) (fun r => (fun _ => rfl) r) (by omega) (by decide) dX5_append_55 rfl ?_
  refine j_name (fun S1 eS1 => ?_)
  refine j_aload_n X dX5_append_56 rfl rfl (q := 0) rfl ?_
  refine j_dup X dX5_append_57 rfl rfl ?_
  refine jg_top X 1 (by decide) lk_RX5_13 rfl rfl dX5_append_58 rfl ?_
  refine j_topeq (y := (nI (pTL S))) (by subst eS1; simp [setF_at] <;> exact htl.1) ?_
  refine j_iconst X dX5_append_61 rfl (v := 1) (by decide) ?_
  refine j_iadd X dX5_append_62 rfl ?_
  refine j_topeq (y := nI ((pTL S) + 1)) (nI_add (pTL S) 1) ?_
  refine jp_top X 1 (by decide) lk_RX5_13 rfl rfl rfl (vp_nar_int _) rfl rfl dX5_append_63 rfl ?_
  refine j_name (fun S2 eS2 => ?_)
  refine j_aload_n X dX5_append_66 rfl rfl (q := 0) rfl ?_
  refine jg_top X 1 (by decide) lk_RX5_13 rfl rfl dX5_append_67 rfl ?_
  exact j_ret (by subst eS1; subst eS2; first | with_reducible rfl | (simp [pAppS]; done) | (simp_all [pAppS]; done) | rfl) (by subst eS1; subst eS2; first | with_reducible rfl | (simp [pAppS]; done) | (simp_all [pAppS]; done) | rfl) rfl (K _ _ dX5_append_70)
set_option maxRecDepth 100000 in
set_option maxHeartbeats 4000000 in
theorem c_X5_clearText (l : Launch) (Z : wZ) (S : St) (h : Hl)  : Ci l yX5_clearText cX5_clearText 2 .int 0 0 Z [.ref (zA Z (6) (0) (0))] S h (S 6 0 0 1) (setF S 6 0 0 1 0) (h) := by
  refine Ci.of rfl rfl (Nat.le_of_ble_eq_true rfl) (fun p e s mi args below meth c A0 Q X K => ?_)
  refine j_at rfl rfl (Ls3 := [(0, .ref (zA Z (6) (0) (0)))]) rfl rfl ?_
  refine j_aload_n X dX5_clearText_0 rfl rfl (q := 0) rfl ?_
  refine jg_top X 1 (by decide) lk_RX5_13 rfl rfl dX5_clearText_1 rfl ?_
  refine j_istore_n X dX5_clearText_4 rfl rfl (by decide) (Ls2 := [(1, .int (S 6 0 0 1)), (0, .ref (zA Z (6) (0) (0)))]) rfl ?_
  refine j_aload_n X dX5_clearText_5 rfl rfl (q := 1) rfl ?_
  refine j_iconst X dX5_clearText_6 rfl (v := 0) (by decide) ?_
  refine jp_top X 1 (by decide) lk_RX5_13 rfl rfl rfl (vp_nar_int _) rfl rfl dX5_clearText_7 rfl ?_
  refine j_name (fun S1 eS1 => ?_)
  refine j_iload_n X dX5_clearText_10 rfl rfl (q := 0) rfl ?_
  exact j_ret (by subst eS1; first | with_reducible rfl | (simp []; done) | (simp_all []; done) | rfl) (by subst eS1; first | with_reducible rfl | (simp []; done) | (simp_all []; done) | rfl) rfl (K _ _ dX5_clearText_11)
set_option maxRecDepth 100000 in
set_option maxHeartbeats 4000000 in
theorem c_X5_load (l : Launch) (Z : wZ) (S : St) (h : Hl) (a : Nat) (ha : a < 4) (hc : pHasC S 0 (nI a) = true) (hnt : pInT S 0 a = false) (htl : okI (S 6 0 0 1) 120) (ho : okI (S 6 0 0 6) 3) (hn : okI (S 6 0 0 7) 4) (hq : okI (S 0 4 4 7) 400) : Ci l yX5_load cX5_load 3 .int 5 107 Z [.ref (zA Z (6) (0) (0)), .int (nI (a))] S h ((pLoadQ S a).1) ((pLoadQ S a).2) (h) := by
  refine Ci.of rfl rfl (Nat.le_of_ble_eq_true rfl) (fun p e s mi args below meth c A0 Q X K => ?_)
  refine j_at rfl rfl (Ls3 := [(0, .ref (zA Z (6) (0) (0))), (1, .int (nI (a)))]) rfl rfl ?_
  refine j_aload_n X dX5_load_0 rfl rfl (q := 0) rfl ?_
  refine jg_top X 3 (by decide) lk_RX5_29 rfl rfl dX5_load_1 rfl ?_
  refine j_iload_n X dX5_load_4 rfl rfl (q := 1) rfl ?_
  refine j_callNi X (c_X2_hasCore l Z S h 0 (by decide) (nI (a))) (wm_mach (by decide) (by decide)) (wE_mach (by decide) 0 _) rfl nk_RX5_94 mi_X2_hasCore ms_X2_hasCore ini_RX2 mc_X2_hasCore md_X2_hasCore ⟨Nat.le_of_ble_eq_true rfl, Nat.le_of_ble_eq_true rfl⟩ ⟨Nat.le_of_ble_eq_true rfl, Nat.le_of_ble_eq_true rfl⟩ rfl (Nat.le_of_ble_eq_true rfl) (as := [.int (nI (a))]) (rest := []) rfl dX5_load_5 rfl ?_
  refine j_if_ne_t X (tgt := 21) dX5_load_8 (by decide) (by rw [hc]; decide) ?_
  refine j_aload_n X dX5_load_21 rfl rfl (q := 0) rfl ?_
  refine jg_top X 3 (by decide) lk_RX5_29 rfl rfl dX5_load_22 rfl ?_
  refine jgN_mach X (by decide) 0 (by decide) nk_RX5_102 rfl rfl dX5_load_25 rfl ?_
  refine j_iload_n X dX5_load_28 rfl rfl (q := 1) rfl ?_
  refine j_aldCN X (g := a) (by decide) ha dX5_load_29 rfl ?_
  refine j_callNi X (c_X0_inTransaction l Z S h 0 a (by decide) ha ) (wm_core (by decide) ha (by decide)) (wE_core (by decide) ha 0 _) rfl nk_RX5_106 mi_X0_inTransaction ms_X0_inTransaction ini_RX0 mc_X0_inTransaction md_X0_inTransaction ⟨Nat.le_of_ble_eq_true rfl, Nat.le_of_ble_eq_true rfl⟩ ⟨Nat.le_of_ble_eq_true rfl, Nat.le_of_ble_eq_true rfl⟩ rfl (Nat.le_of_ble_eq_true rfl) (as := []) (rest := []) rfl dX5_load_30 rfl ?_
  refine j_if_eq_t X (tgt := 46) dX5_load_33 (by decide) (by rw [hnt]; rfl) ?_
  refine j_aload_n X dX5_load_46 rfl rfl (q := 0) rfl ?_
  refine jg_top X 2 (by decide) lk_RX5_20 rfl rfl dX5_load_47 rfl ?_
  refine j_aload_n X dX5_load_50 rfl rfl (q := 0) rfl ?_
  refine jg_top X 0 (by decide) lk_RX5_9 rfl rfl dX5_load_51 rfl ?_
  refine j_aload_n X dX5_load_54 rfl rfl (q := 0) rfl ?_
  refine jg_top X 1 (by decide) lk_RX5_13 rfl rfl dX5_load_55 rfl ?_
  refine j_topeq (y := (nI (pTL S))) (htl.1) ?_
  refine j_callNi X (c_X4_readText l Z S h (pTL S) htl.2) (wm_top (by decide)) ((fun _ => rfl) _) rfl nk_RX5_114 mi_X4_readText ms_X4_readText ini_RX4 mc_X4_readText md_X4_readText ⟨Nat.le_of_ble_eq_true rfl, Nat.le_of_ble_eq_true rfl⟩ ⟨Nat.le_of_ble_eq_true rfl, Nat.le_of_ble_eq_true rfl⟩ rfl (Nat.le_of_ble_eq_true rfl) (as := [.ref (zA Z (6) (0) (1)), .int (nI (pTL S))]) (rest := []) rfl dX5_load_58 rfl ?_
  refine j_name (fun S1 eS1 => ?_)
  refine j_istore_n X dX5_load_61 rfl rfl (by decide) (Ls2 := [(2, .int ((pRdT S (pTL S)).1)), (0, .ref (zA Z (6) (0) (0))), (1, .int (nI (a)))]) rfl ?_
  refine j_iload_n X dX5_load_62 rfl rfl (q := 0) rfl ?_
  refine j_iconst X dX5_load_63 rfl (v := -1) (by decide) ?_
  refine j_icmp_eq X dX5_load_64 rfl (tgt := 72) (by decide) (fun c_64 => ?_) (fun c_64 => ?_)
  · refine j_aload_n X dX5_load_72 rfl rfl (q := 1) rfl ?_
    refine j_callv X (c_X5_saveState l Z S1 h (by subst eS1; rw [pRdT_o (by unfold rdOut; omega)]; exact ho) (by subst eS1; rw [pRdT_o (by unfold rdOut; omega)]; exact hn) (by subst eS1; rw [pRdT_o (by unfold rdOut; omega)]; exact hq)) (wm_top (by decide)) ((fun _ => rfl) _) rfl lk_RX5_60 mi_X5_saveState ms_X5_saveState ini_RX5 mc_X5_saveState md_X5_saveState ⟨Nat.le_of_ble_eq_true rfl, Nat.le_of_ble_eq_true rfl⟩ ⟨Nat.le_of_ble_eq_true rfl, Nat.le_of_ble_eq_true rfl⟩ rfl (Nat.le_of_ble_eq_true rfl) (as := []) (rest := []) rfl dX5_load_73 rfl ?_
    refine j_name (fun S2 eS2 => ?_)
    refine j_aload_n X dX5_load_76 rfl rfl (q := 1) rfl ?_
    refine jg_top X 3 (by decide) lk_RX5_29 rfl rfl dX5_load_77 rfl ?_
    refine jgN_mach X (by decide) 0 (by decide) nk_RX5_102 rfl rfl dX5_load_80 rfl ?_
    refine j_iload_n X dX5_load_83 rfl rfl (q := 2) rfl ?_
    refine j_aldCN X (g := a) (by decide) ha dX5_load_84 rfl ?_
    refine j_aload_n X dX5_load_85 rfl rfl (q := 1) rfl ?_
    refine jg_top X 2 (by decide) lk_RX5_20 rfl rfl dX5_load_86 rfl ?_
    refine jgN_read X 0 (by decide) nk_RX5_118 rfl rfl dX5_load_89 rfl ?_
    refine j_callNv X (c_X0_takeProgram l Z S2 h 0 a (by decide) ha 6 0 (Or.inr ⟨rfl, rfl⟩)) (wm_core (by decide) ha (by decide)) (wE_core (by decide) ha 0 _) rfl nk_RX5_122 mi_X0_takeProgram ms_X0_takeProgram ini_RX0 mc_X0_takeProgram md_X0_takeProgram ⟨Nat.le_of_ble_eq_true rfl, Nat.le_of_ble_eq_true rfl⟩ ⟨Nat.le_of_ble_eq_true rfl, Nat.le_of_ble_eq_true rfl⟩ rfl (Nat.le_of_ble_eq_true rfl) (as := [.ref (zA Z (6) (0) (3))]) (rest := []) rfl dX5_load_92 rfl ?_
    refine j_name (fun S3 eS3 => ?_)
    refine j_aload_n X dX5_load_95 rfl rfl (q := 1) rfl ?_
    refine jg_top X 3 (by decide) lk_RX5_29 rfl rfl dX5_load_96 rfl ?_
    refine jgN_mach X (by decide) 0 (by decide) nk_RX5_102 rfl rfl dX5_load_99 rfl ?_
    refine j_iload_n X dX5_load_102 rfl rfl (q := 2) rfl ?_
    refine j_aldCN X (g := a) (by decide) ha dX5_load_103 rfl ?_
    refine jgN_core X (by decide) ha 2 (by decide) nk_RX5_126 rfl rfl dX5_load_104 rfl ?_
    refine jgN_prog X (Or.inl ⟨(by decide), ha⟩) 2 (by decide) nk_RX5_127 rfl rfl dX5_load_107 rfl ?_
    exact j_ret (by subst eS1; subst eS2; subst eS3; rw [pLoadQ, if_pos c_64]; rfl) (by subst eS1; subst eS2; subst eS3; rw [pLoadQ, if_pos c_64]; rfl) rfl (K _ _ dX5_load_110)
  · refine j_bipush X dX5_load_67 rfl (v := -10) (by decide) ?_
    refine j_iload_n X dX5_load_69 rfl rfl (q := 0) rfl ?_
    refine j_isub X dX5_load_70 rfl ?_
    exact j_ret (by subst eS1; rw [pLoadQ, if_neg c_64]) (by subst eS1; rw [pLoadQ, if_neg c_64]) rfl (K _ _ dX5_load_71)
set_option maxRecDepth 100000 in
set_option maxHeartbeats 4000000 in
theorem c_X5_again (l : Launch) (Z : wZ) (S : St) (h : Hl) (a : Nat) (ha : a < 4) (hc : pHasC S 0 (nI a) = true) (hf : pFin S 0 a = true) (hnt : pInT S 0 a = false) (ho : okI (S 6 0 0 6) 3) (hn : okI (S 6 0 0 7) 4) (hq : okI (S 0 4 4 7) 400) : Ci l yX5_again cX5_again 2 .int 5 102 Z [.ref (zA Z (6) (0) (0)), .int (nI (a))] S h (pAgain S a 0 a 3 2) (pAgain S a) (h) := by
  refine Ci.of rfl rfl (Nat.le_of_ble_eq_true rfl) (fun p e s mi args below meth c A0 Q X K => ?_)
  refine j_at rfl rfl (Ls3 := [(0, .ref (zA Z (6) (0) (0))), (1, .int (nI (a)))]) rfl rfl ?_
  refine j_aload_n X dX5_again_0 rfl rfl (q := 0) rfl ?_
  refine jg_top X 3 (by decide) lk_RX5_29 rfl rfl dX5_again_1 rfl ?_
  refine j_iload_n X dX5_again_4 rfl rfl (q := 1) rfl ?_
  refine j_callNi X (c_X2_hasCore l Z S h 0 (by decide) (nI (a))) (wm_mach (by decide) (by decide)) (wE_mach (by decide) 0 _) rfl nk_RX5_94 mi_X2_hasCore ms_X2_hasCore ini_RX2 mc_X2_hasCore md_X2_hasCore ⟨Nat.le_of_ble_eq_true rfl, Nat.le_of_ble_eq_true rfl⟩ ⟨Nat.le_of_ble_eq_true rfl, Nat.le_of_ble_eq_true rfl⟩ rfl (Nat.le_of_ble_eq_true rfl) (as := [.int (nI (a))]) (rest := []) rfl dX5_again_5 rfl ?_
  refine j_if_ne_t X (tgt := 21) dX5_again_8 (by decide) (by rw [hc]; decide) ?_
  refine j_aload_n X dX5_again_21 rfl rfl (q := 0) rfl ?_
  refine jg_top X 3 (by decide) lk_RX5_29 rfl rfl dX5_again_22 rfl ?_
  refine jgN_mach X (by decide) 0 (by decide) nk_RX5_102 rfl rfl dX5_again_25 rfl ?_
  refine j_iload_n X dX5_again_28 rfl rfl (q := 1) rfl ?_
  refine j_aldCN X (g := a) (by decide) ha dX5_again_29 rfl ?_
  refine j_callNi X (c_X0_isFinished l Z S h 0 a (by decide) ha ) (wm_core (by decide) ha (by decide)) (wE_core (by decide) ha 0 _) rfl nk_RX5_132 mi_X0_isFinished ms_X0_isFinished ini_RX0 mc_X0_isFinished md_X0_isFinished ⟨Nat.le_of_ble_eq_true rfl, Nat.le_of_ble_eq_true rfl⟩ ⟨Nat.le_of_ble_eq_true rfl, Nat.le_of_ble_eq_true rfl⟩ rfl (Nat.le_of_ble_eq_true rfl) (as := []) (rest := []) rfl dX5_again_30 rfl ?_
  refine j_if_eq_f X dX5_again_33 rfl (tgt := 51) (by decide) (by rw [hf]; decide) ?_
  refine j_aload_n X dX5_again_36 rfl rfl (q := 0) rfl ?_
  refine jg_top X 3 (by decide) lk_RX5_29 rfl rfl dX5_again_37 rfl ?_
  refine jgN_mach X (by decide) 0 (by decide) nk_RX5_102 rfl rfl dX5_again_40 rfl ?_
  refine j_iload_n X dX5_again_43 rfl rfl (q := 1) rfl ?_
  refine j_aldCN X (g := a) (by decide) ha dX5_again_44 rfl ?_
  refine j_callNi X (c_X0_inTransaction l Z S h 0 a (by decide) ha ) (wm_core (by decide) ha (by decide)) (wE_core (by decide) ha 0 _) rfl nk_RX5_106 mi_X0_inTransaction ms_X0_inTransaction ini_RX0 mc_X0_inTransaction md_X0_inTransaction ⟨Nat.le_of_ble_eq_true rfl, Nat.le_of_ble_eq_true rfl⟩ ⟨Nat.le_of_ble_eq_true rfl, Nat.le_of_ble_eq_true rfl⟩ rfl (Nat.le_of_ble_eq_true rfl) (as := []) (rest := []) rfl dX5_again_45 rfl ?_
  refine j_if_eq_t X (tgt := 61) dX5_again_48 (by decide) (by rw [hnt]; rfl) ?_
  refine j_aload_n X dX5_again_61 rfl rfl (q := 0) rfl ?_
  refine j_callv X (c_X5_saveState l Z S h ho hn hq) (wm_top (by decide)) ((fun _ => rfl) _) rfl lk_RX5_60 mi_X5_saveState ms_X5_saveState ini_RX5 mc_X5_saveState md_X5_saveState ⟨Nat.le_of_ble_eq_true rfl, Nat.le_of_ble_eq_true rfl⟩ ⟨Nat.le_of_ble_eq_true rfl, Nat.le_of_ble_eq_true rfl⟩ rfl (Nat.le_of_ble_eq_true rfl) (as := []) (rest := []) rfl dX5_again_62 rfl ?_
  refine j_name (fun S1 eS1 => ?_)
  refine j_aload_n X dX5_again_65 rfl rfl (q := 0) rfl ?_
  refine jg_top X 3 (by decide) lk_RX5_29 rfl rfl dX5_again_66 rfl ?_
  refine jgN_mach X (by decide) 0 (by decide) nk_RX5_102 rfl rfl dX5_again_69 rfl ?_
  refine j_iload_n X dX5_again_72 rfl rfl (q := 1) rfl ?_
  refine j_aldCN X (g := a) (by decide) ha dX5_again_73 rfl ?_
  refine j_iconst X dX5_again_74 rfl (v := 0) (by decide) ?_
  refine jpN_core X (by decide) ha 3 (by decide) nk_RX5_137 rfl rfl rfl (vp_nar_int _) rfl rfl dX5_again_75 rfl ?_
  refine j_name (fun S2 eS2 => ?_)
  refine j_aload_n X dX5_again_78 rfl rfl (q := 0) rfl ?_
  refine jg_top X 3 (by decide) lk_RX5_29 rfl rfl dX5_again_79 rfl ?_
  refine jgN_mach X (by decide) 0 (by decide) nk_RX5_102 rfl rfl dX5_again_82 rfl ?_
  refine j_iload_n X dX5_again_85 rfl rfl (q := 1) rfl ?_
  refine j_aldCN X (g := a) (by decide) ha dX5_again_86 rfl ?_
  refine jgN_core X (by decide) ha 2 (by decide) nk_RX5_126 rfl rfl dX5_again_87 rfl ?_
  refine jgN_prog X (Or.inl ⟨(by decide), ha⟩) 2 (by decide) nk_RX5_127 rfl rfl dX5_again_90 rfl ?_
  exact j_ret (by subst eS1; subst eS2; first | with_reducible rfl | (simp [pAgain]; done) | (simp_all [pAgain]; done) | rfl) (by subst eS1; subst eS2; first | with_reducible rfl | (simp [pAgain]; done) | (simp_all [pAgain]; done) | rfl) rfl (K _ _ dX5_again_93)
set_option maxRecDepth 100000 in
set_option maxHeartbeats 4000000 in
theorem c_X5_step (l : Launch) (Z : wZ) (S : St) (h : Hl) (a : Nat) (ha : a < 4) (hc : pHasC S 0 (nI a) = true) (hf : pFin S 0 a = false) (hw : wfS S 0 a) (ho : okI (S 6 0 0 6) 3) (hn : okI (S 6 0 0 7) 4) (hq : okI (S 0 4 4 7) 400) : Ci l yX5_step cX5_step 2 .int 5 120 Z [.ref (zA Z (6) (0) (0)), .int (nI (a))] S h ((pStep (pSave S) 0 a).1) ((pStep (pSave S) 0 a).2) (h) := by
  refine Ci.of rfl rfl (Nat.le_of_ble_eq_true rfl) (fun p e s mi args below meth c A0 Q X K => ?_)
  refine j_at rfl rfl (Ls3 := [(0, .ref (zA Z (6) (0) (0))), (1, .int (nI (a)))]) rfl rfl ?_
  refine j_aload_n X dX5_step_0 rfl rfl (q := 0) rfl ?_
  refine jg_top X 3 (by decide) lk_RX5_29 rfl rfl dX5_step_1 rfl ?_
  refine j_iload_n X dX5_step_4 rfl rfl (q := 1) rfl ?_
  refine j_callNi X (c_X2_hasCore l Z S h 0 (by decide) (nI (a))) (wm_mach (by decide) (by decide)) (wE_mach (by decide) 0 _) rfl nk_RX5_94 mi_X2_hasCore ms_X2_hasCore ini_RX2 mc_X2_hasCore md_X2_hasCore ⟨Nat.le_of_ble_eq_true rfl, Nat.le_of_ble_eq_true rfl⟩ ⟨Nat.le_of_ble_eq_true rfl, Nat.le_of_ble_eq_true rfl⟩ rfl (Nat.le_of_ble_eq_true rfl) (as := [.int (nI (a))]) (rest := []) rfl dX5_step_5 rfl ?_
  refine j_if_ne_t X (tgt := 21) dX5_step_8 (by decide) (by rw [hc]; decide) ?_
  refine j_aload_n X dX5_step_21 rfl rfl (q := 0) rfl ?_
  refine jg_top X 3 (by decide) lk_RX5_29 rfl rfl dX5_step_22 rfl ?_
  refine jgN_mach X (by decide) 0 (by decide) nk_RX5_102 rfl rfl dX5_step_25 rfl ?_
  refine j_iload_n X dX5_step_28 rfl rfl (q := 1) rfl ?_
  refine j_aldCN X (g := a) (by decide) ha dX5_step_29 rfl ?_
  refine j_callNi X (c_X0_isFinished l Z S h 0 a (by decide) ha ) (wm_core (by decide) ha (by decide)) (wE_core (by decide) ha 0 _) rfl nk_RX5_132 mi_X0_isFinished ms_X0_isFinished ini_RX0 mc_X0_isFinished md_X0_isFinished ⟨Nat.le_of_ble_eq_true rfl, Nat.le_of_ble_eq_true rfl⟩ ⟨Nat.le_of_ble_eq_true rfl, Nat.le_of_ble_eq_true rfl⟩ rfl (Nat.le_of_ble_eq_true rfl) (as := []) (rest := []) rfl dX5_step_30 rfl ?_
  refine j_if_eq_t X (tgt := 46) dX5_step_33 (by decide) (by rw [hf]; rfl) ?_
  refine j_aload_n X dX5_step_46 rfl rfl (q := 0) rfl ?_
  refine j_callv X (c_X5_saveState l Z S h ho hn hq) (wm_top (by decide)) ((fun _ => rfl) _) rfl lk_RX5_60 mi_X5_saveState ms_X5_saveState ini_RX5 mc_X5_saveState md_X5_saveState ⟨Nat.le_of_ble_eq_true rfl, Nat.le_of_ble_eq_true rfl⟩ ⟨Nat.le_of_ble_eq_true rfl, Nat.le_of_ble_eq_true rfl⟩ rfl (Nat.le_of_ble_eq_true rfl) (as := []) (rest := []) rfl dX5_step_47 rfl ?_
  refine j_name (fun S1 eS1 => ?_)
  refine j_aload_n X dX5_step_50 rfl rfl (q := 0) rfl ?_
  refine jg_top X 3 (by decide) lk_RX5_29 rfl rfl dX5_step_51 rfl ?_
  refine j_iload_n X dX5_step_54 rfl rfl (q := 1) rfl ?_
  refine j_callNi X (c_X2_stepCore l Z S1 h 0 a (by decide) ha (by subst eS1; exact wfS_eq (pSave_0 _) hw)) (wm_mach (by decide) (by decide)) (wE_mach (by decide) 0 _) rfl nk_RX5_142 mi_X2_stepCore ms_X2_stepCore ini_RX2 mc_X2_stepCore md_X2_stepCore ⟨Nat.le_of_ble_eq_true rfl, Nat.le_of_ble_eq_true rfl⟩ ⟨Nat.le_of_ble_eq_true rfl, Nat.le_of_ble_eq_true rfl⟩ rfl (Nat.le_of_ble_eq_true rfl) (as := [.int (nI (a))]) (rest := []) rfl dX5_step_55 rfl ?_
  refine j_name (fun S2 eS2 => ?_)
  exact j_ret (by subst eS1; subst eS2; first | with_reducible rfl | (simp []; done) | (simp_all []; done) | rfl) (by subst eS1; subst eS2; first | with_reducible rfl | (simp []; done) | (simp_all []; done) | rfl) rfl (K _ _ dX5_step_58)
set_option maxRecDepth 100000 in
set_option maxHeartbeats 4000000 in
theorem c_X5_poke (l : Launch) (Z : wZ) (S : St) (h : Hl) (j : Nat) (hj : j < 8) (v : Int32) (hcc : okI (S 0 4 0 4) 4) (ho : okI (S 6 0 0 6) 3) (hn : okI (S 6 0 0 7) 4) (hq : okI (S 0 4 4 7) 400) : Ci l yX5_poke cX5_poke 3 .int 5 102 Z [.ref (zA Z (6) (0) (0)), .int (nI (j)), .int (v)] S h ((pOut (pSave S) 0 j v).1) ((pOut (pSave S) 0 j v).2) (h) := by
  refine Ci.of rfl rfl (Nat.le_of_ble_eq_true rfl) (fun p e s mi args below meth c A0 Q X K => ?_)
  refine j_at rfl rfl (Ls3 := [(0, .ref (zA Z (6) (0) (0))), (1, .int (nI (j))), (2, .int (v))]) rfl rfl ?_
  refine j_iload_n X dX5_poke_0 rfl rfl (q := 1) rfl ?_
  refine j_callSi X (c_X5_isLine l Z S h (nI (j))) lk_RX5_158 mt_X5_isLine ini_RX5 mc_X5_isLine md_X5_isLine ⟨Nat.le_of_ble_eq_true rfl, Nat.le_of_ble_eq_true rfl⟩ ⟨Nat.le_of_ble_eq_true rfl, Nat.le_of_ble_eq_true rfl⟩ rfl (Nat.le_of_ble_eq_true rfl) (as := [.int (nI (j))]) (rest := []) rfl dX5_poke_1 rfl ?_
  refine j_if_ne_t X (tgt := 17) dX5_poke_4 (by decide) (by rw [pIsLine_ok hj]; decide) ?_
  refine j_aload_n X dX5_poke_17 rfl rfl (q := 0) rfl ?_
  refine j_callv X (c_X5_saveState l Z S h ho hn hq) (wm_top (by decide)) ((fun _ => rfl) _) rfl lk_RX5_60 mi_X5_saveState ms_X5_saveState ini_RX5 mc_X5_saveState md_X5_saveState ⟨Nat.le_of_ble_eq_true rfl, Nat.le_of_ble_eq_true rfl⟩ ⟨Nat.le_of_ble_eq_true rfl, Nat.le_of_ble_eq_true rfl⟩ rfl (Nat.le_of_ble_eq_true rfl) (as := []) (rest := []) rfl dX5_poke_18 rfl ?_
  refine j_name (fun S1 eS1 => ?_)
  refine j_aload_n X dX5_poke_21 rfl rfl (q := 0) rfl ?_
  refine jg_top X 3 (by decide) lk_RX5_29 rfl rfl dX5_poke_22 rfl ?_
  refine j_iload_n X dX5_poke_25 rfl rfl (q := 1) rfl ?_
  refine j_iload_n X dX5_poke_26 rfl rfl (q := 2) rfl ?_
  refine j_callNi X (c_X2_writeFromOutside l Z S1 h 0 (by decide) j hj (v) (by subst eS1; rw [pSave_0]; exact hcc) (by subst eS1; rw [pSave_0]; exact hq)) (wm_mach (by decide) (by decide)) (wE_mach (by decide) 0 _) rfl nk_RX5_163 mi_X2_writeFromOutside ms_X2_writeFromOutside ini_RX2 mc_X2_writeFromOutside md_X2_writeFromOutside ⟨Nat.le_of_ble_eq_true rfl, Nat.le_of_ble_eq_true rfl⟩ ⟨Nat.le_of_ble_eq_true rfl, Nat.le_of_ble_eq_true rfl⟩ rfl (Nat.le_of_ble_eq_true rfl) (as := [.int (nI (j)), .int (v)]) (rest := []) rfl dX5_poke_27 rfl ?_
  refine j_name (fun S2 eS2 => ?_)
  exact j_ret (by subst eS1; subst eS2; first | with_reducible rfl | (simp []; done) | (simp_all []; done) | rfl) (by subst eS1; subst eS2; first | with_reducible rfl | (simp []; done) | (simp_all []; done) | rfl) rfl (K _ _ dX5_poke_30)
set_option maxRecDepth 100000 in
set_option maxHeartbeats 4000000 in
theorem c_X5_state (l : Launch) (Z : wZ) (S : St) (h : Hl) (a : Nat) (ha : a < 4) (hc : pHasC S 0 (nI a) = true) (j : Nat) (hj : j < 8) : Ci l yX5_state cX5_state 3 .int 1 21 Z [.ref (zA Z (6) (0) (0)), .int (nI (a)), .int (nI (j))] S h (S 0 a 1 j) (S) (h) := by
  refine Ci.of rfl rfl (Nat.le_of_ble_eq_true rfl) (fun p e s mi args below meth c A0 Q X K => ?_)
  refine j_at rfl rfl (Ls3 := [(0, .ref (zA Z (6) (0) (0))), (1, .int (nI (a))), (2, .int (nI (j)))]) rfl rfl ?_
  refine j_aload_n X dX5_state_0 rfl rfl (q := 0) rfl ?_
  refine jg_top X 3 (by decide) lk_RX5_29 rfl rfl dX5_state_1 rfl ?_
  refine j_iload_n X dX5_state_4 rfl rfl (q := 1) rfl ?_
  refine j_callNi X (c_X2_hasCore l Z S h 0 (by decide) (nI (a))) (wm_mach (by decide) (by decide)) (wE_mach (by decide) 0 _) rfl nk_RX5_94 mi_X2_hasCore ms_X2_hasCore ini_RX2 mc_X2_hasCore md_X2_hasCore ⟨Nat.le_of_ble_eq_true rfl, Nat.le_of_ble_eq_true rfl⟩ ⟨Nat.le_of_ble_eq_true rfl, Nat.le_of_ble_eq_true rfl⟩ rfl (Nat.le_of_ble_eq_true rfl) (as := [.int (nI (a))]) (rest := []) rfl dX5_state_5 rfl ?_
  refine j_if_eq_f X dX5_state_8 rfl (tgt := 18) (by decide) (by rw [hc]; decide) ?_
  refine j_iload_n X dX5_state_11 rfl rfl (q := 2) rfl ?_
  refine j_callSi X (c_X5_isLine l Z S h (nI (j))) lk_RX5_158 mt_X5_isLine ini_RX5 mc_X5_isLine md_X5_isLine ⟨Nat.le_of_ble_eq_true rfl, Nat.le_of_ble_eq_true rfl⟩ ⟨Nat.le_of_ble_eq_true rfl, Nat.le_of_ble_eq_true rfl⟩ rfl (Nat.le_of_ble_eq_true rfl) (as := [.int (nI (j))]) (rest := []) rfl dX5_state_12 rfl ?_
  refine j_if_ne_t X (tgt := 28) dX5_state_15 (by decide) (by rw [pIsLine_ok hj]; decide) ?_
  refine j_aload_n X dX5_state_28 rfl rfl (q := 0) rfl ?_
  refine jg_top X 3 (by decide) lk_RX5_29 rfl rfl dX5_state_29 rfl ?_
  refine jgN_mach X (by decide) 0 (by decide) nk_RX5_102 rfl rfl dX5_state_32 rfl ?_
  refine j_iload_n X dX5_state_35 rfl rfl (q := 1) rfl ?_
  refine j_aldCN X (g := a) (by decide) ha dX5_state_36 rfl ?_
  refine jgN_core X (by decide) ha 0 (by decide) nk_RX5_169 rfl rfl dX5_state_37 rfl ?_
  refine j_iload_n X dX5_state_40 rfl rfl (q := 2) rfl ?_
  refine j_ialdN X (k := j) (wm_core (by decide) ha (by decide)) (wE_core (by decide) ha 1 _) hj (by decide) dX5_state_41 rfl ?_
  exact j_ret (by first | with_reducible rfl | (simp []; done) | (simp_all []; done) | rfl) (by first | with_reducible rfl | (simp []; done) | (simp_all []; done) | rfl) rfl (K _ _ dX5_state_42)
set_option maxRecDepth 100000 in
set_option maxHeartbeats 4000000 in
theorem c_X5_cached (l : Launch) (Z : wZ) (S : St) (h : Hl) (a : Nat) (ha : a < 4) (hc : pHasC S 0 (nI a) = true) (j : Nat) (hj : j < 8) : Ci l yX5_cached cX5_cached 4 .int 1 21 Z [.ref (zA Z (6) (0) (0)), .int (nI (a)), .int (nI (j))] S h (pCached S a j) (S) (h) := by
  refine Ci.of rfl rfl (Nat.le_of_ble_eq_true rfl) (fun p e s mi args below meth c A0 Q X K => ?_)
  refine j_at rfl rfl (Ls3 := [(0, .ref (zA Z (6) (0) (0))), (1, .int (nI (a))), (2, .int (nI (j)))]) rfl rfl ?_
  refine j_aload_n X dX5_cached_0 rfl rfl (q := 0) rfl ?_
  refine jg_top X 3 (by decide) lk_RX5_29 rfl rfl dX5_cached_1 rfl ?_
  refine j_iload_n X dX5_cached_4 rfl rfl (q := 1) rfl ?_
  refine j_callNi X (c_X2_hasCore l Z S h 0 (by decide) (nI (a))) (wm_mach (by decide) (by decide)) (wE_mach (by decide) 0 _) rfl nk_RX5_94 mi_X2_hasCore ms_X2_hasCore ini_RX2 mc_X2_hasCore md_X2_hasCore ⟨Nat.le_of_ble_eq_true rfl, Nat.le_of_ble_eq_true rfl⟩ ⟨Nat.le_of_ble_eq_true rfl, Nat.le_of_ble_eq_true rfl⟩ rfl (Nat.le_of_ble_eq_true rfl) (as := [.int (nI (a))]) (rest := []) rfl dX5_cached_5 rfl ?_
  refine j_if_eq_f X dX5_cached_8 rfl (tgt := 18) (by decide) (by rw [hc]; decide) ?_
  refine j_iload_n X dX5_cached_11 rfl rfl (q := 2) rfl ?_
  refine j_callSi X (c_X5_isLine l Z S h (nI (j))) lk_RX5_158 mt_X5_isLine ini_RX5 mc_X5_isLine md_X5_isLine ⟨Nat.le_of_ble_eq_true rfl, Nat.le_of_ble_eq_true rfl⟩ ⟨Nat.le_of_ble_eq_true rfl, Nat.le_of_ble_eq_true rfl⟩ rfl (Nat.le_of_ble_eq_true rfl) (as := [.int (nI (j))]) (rest := []) rfl dX5_cached_12 rfl ?_
  refine j_if_ne_t X (tgt := 28) dX5_cached_15 (by decide) (by rw [pIsLine_ok hj]; decide) ?_
  refine j_aload_n X dX5_cached_28 rfl rfl (q := 0) rfl ?_
  refine jg_top X 3 (by decide) lk_RX5_29 rfl rfl dX5_cached_29 rfl ?_
  refine jgN_mach X (by decide) 0 (by decide) nk_RX5_102 rfl rfl dX5_cached_32 rfl ?_
  refine j_iload_n X dX5_cached_35 rfl rfl (q := 1) rfl ?_
  refine j_aldCN X (g := a) (by decide) ha dX5_cached_36 rfl ?_
  refine j_astore_n X dX5_cached_37 rfl rfl (by decide) (Ls2 := [(3, .ref (zA Z (0) (a) (0))), (0, .ref (zA Z (6) (0) (0))), (1, .int (nI (a))), (2, .int (nI (j)))]) rfl ?_
  refine j_aload_n X dX5_cached_38 rfl rfl (q := 0) rfl ?_
  refine jgN_core X (by decide) ha 0 (by decide) nk_RX5_169 rfl rfl dX5_cached_39 rfl ?_
  refine j_iload_n X dX5_cached_42 rfl rfl (q := 3) rfl ?_
  refine j_ialdN X (k := j) (wm_core (by decide) ha (by decide)) (wE_core (by decide) ha 1 _) hj (by decide) dX5_cached_43 rfl ?_
  refine j_if_ne X dX5_cached_44 rfl (tgt := 51) (by decide) (fun c_44 => ?_) (fun c_44 => ?_)
  · refine j_aload_n X dX5_cached_51 rfl rfl (q := 0) rfl ?_
    refine jgN_core X (by decide) ha 1 (by decide) nk_RX5_172 rfl rfl dX5_cached_52 rfl ?_
    refine j_iload_n X dX5_cached_55 rfl rfl (q := 3) rfl ?_
    refine j_ialdN X (k := j) (wm_core (by decide) ha (by decide)) (wE_core (by decide) ha 2 _) hj (by decide) dX5_cached_56 rfl ?_
    exact j_ret (by first | with_reducible rfl | (simp [pCached, c_44]; done) | (simp_all [pCached]; done) | rfl) (by first | with_reducible rfl | (simp [pCached, c_44]; done) | (simp_all [pCached]; done) | rfl) rfl (K _ _ dX5_cached_57)
  · refine j_iconst X dX5_cached_47 rfl (v := 0) (by decide) ?_
    refine j_goto X (tgt := 57) dX5_cached_48 (by decide) ?_
    exact j_ret (by first | with_reducible rfl | (simp [pCached, c_44]; done) | (simp_all [pCached]; done) | rfl) (by first | with_reducible rfl | (simp [pCached, c_44]; done) | (simp_all [pCached]; done) | rfl) rfl (K _ _ dX5_cached_57)
set_option maxRecDepth 100000 in
set_option maxHeartbeats 4000000 in
theorem c_X5_memory (l : Launch) (Z : wZ) (S : St) (h : Hl) (j : Nat) (hj : j < 8) (w : Bool) (hcc : okI (S 0 4 0 4) 4) : Ci l yX5_memory cX5_memory 3 .int 2 44 Z [.ref (zA Z (6) (0) (0)), .int (nI (j)), .int (bI (w))] S h (if w = true then pCom S 0 j else S 0 4 2 j) (S) (h) := by
  refine Ci.of rfl rfl (Nat.le_of_ble_eq_true rfl) (fun p e s mi args below meth c A0 Q X K => ?_)
  refine j_at rfl rfl (Ls3 := [(0, .ref (zA Z (6) (0) (0))), (1, .int (nI (j))), (2, .int (bI (w)))]) rfl rfl ?_
  refine j_iload_n X dX5_memory_0 rfl rfl (q := 1) rfl ?_
  refine j_callSi X (c_X5_isLine l Z S h (nI (j))) lk_RX5_158 mt_X5_isLine ini_RX5 mc_X5_isLine md_X5_isLine ⟨Nat.le_of_ble_eq_true rfl, Nat.le_of_ble_eq_true rfl⟩ ⟨Nat.le_of_ble_eq_true rfl, Nat.le_of_ble_eq_true rfl⟩ rfl (Nat.le_of_ble_eq_true rfl) (as := [.int (nI (j))]) (rest := []) rfl dX5_memory_1 rfl ?_
  refine j_if_ne_t X (tgt := 17) dX5_memory_4 (by decide) (by rw [pIsLine_ok hj]; decide) ?_
  refine j_iload_n X dX5_memory_17 rfl rfl (q := 2) rfl ?_
  refine j_ifb_eq X dX5_memory_18 rfl (tgt := 32) (by decide) (fun c_18 => ?_) (fun c_18 => ?_)
  · refine j_aload_n X dX5_memory_32 rfl rfl (q := 0) rfl ?_
    refine jg_top X 3 (by decide) lk_RX5_29 rfl rfl dX5_memory_33 rfl ?_
    refine jgN_mach X (by decide) 1 (by decide) nk_RX5_178 rfl rfl dX5_memory_36 rfl ?_
    refine j_iload_n X dX5_memory_39 rfl rfl (q := 1) rfl ?_
    refine j_ialdN X (k := j) (wm_mach (by decide) (by decide)) (wE_mach (by decide) 2 _) hj (by decide) dX5_memory_40 rfl ?_
    exact j_ret (by first | with_reducible rfl | (simp [c_18]; done) | (simp_all []; done) | rfl) (by first | with_reducible rfl | (simp [c_18]; done) | (simp_all []; done) | rfl) rfl (K _ _ dX5_memory_41)
  · refine j_aload_n X dX5_memory_21 rfl rfl (q := 0) rfl ?_
    refine jg_top X 3 (by decide) lk_RX5_29 rfl rfl dX5_memory_22 rfl ?_
    refine j_iload_n X dX5_memory_25 rfl rfl (q := 1) rfl ?_
    refine j_callNi X (c_X2_committedValue l Z S h 0 (by decide) hcc j hj) (wm_mach (by decide) (by decide)) (wE_mach (by decide) 0 _) rfl nk_RX5_175 mi_X2_committedValue ms_X2_committedValue ini_RX2 mc_X2_committedValue md_X2_committedValue ⟨Nat.le_of_ble_eq_true rfl, Nat.le_of_ble_eq_true rfl⟩ ⟨Nat.le_of_ble_eq_true rfl, Nat.le_of_ble_eq_true rfl⟩ rfl (Nat.le_of_ble_eq_true rfl) (as := [.int (nI (j))]) (rest := []) rfl dX5_memory_26 rfl ?_
    refine j_goto X (tgt := 41) dX5_memory_29 (by decide) ?_
    exact j_ret (by first | with_reducible rfl | (simp [c_18]; done) | (simp_all []; done) | rfl) (by first | with_reducible rfl | (simp [c_18]; done) | (simp_all []; done) | rfl) rfl (K _ _ dX5_memory_41)
set_option maxRecDepth 100000 in
set_option maxHeartbeats 4000000 in
theorem c_X5_set (l : Launch) (Z : wZ) (S : St) (h : Hl) (a : Nat) (ha : a < 4) (hc : pHasC S 0 (nI a) = true) (w : Bool) : Ci l yX5_set cX5_set 3 .int 1 21 Z [.ref (zA Z (6) (0) (0)), .int (nI (a)), .int (bI (w))] S h (if w = true then S 0 a 0 10 else S 0 a 0 9) (S) (h) := by
  refine Ci.of rfl rfl (Nat.le_of_ble_eq_true rfl) (fun p e s mi args below meth c A0 Q X K => ?_)
  refine j_at rfl rfl (Ls3 := [(0, .ref (zA Z (6) (0) (0))), (1, .int (nI (a))), (2, .int (bI (w)))]) rfl rfl ?_
  refine j_aload_n X dX5_set_0 rfl rfl (q := 0) rfl ?_
  refine jg_top X 3 (by decide) lk_RX5_29 rfl rfl dX5_set_1 rfl ?_
  refine j_iload_n X dX5_set_4 rfl rfl (q := 1) rfl ?_
  refine j_callNi X (c_X2_hasCore l Z S h 0 (by decide) (nI (a))) (wm_mach (by decide) (by decide)) (wE_mach (by decide) 0 _) rfl nk_RX5_94 mi_X2_hasCore ms_X2_hasCore ini_RX2 mc_X2_hasCore md_X2_hasCore ⟨Nat.le_of_ble_eq_true rfl, Nat.le_of_ble_eq_true rfl⟩ ⟨Nat.le_of_ble_eq_true rfl, Nat.le_of_ble_eq_true rfl⟩ rfl (Nat.le_of_ble_eq_true rfl) (as := [.int (nI (a))]) (rest := []) rfl dX5_set_5 rfl ?_
  refine j_if_ne_t X (tgt := 21) dX5_set_8 (by decide) (by rw [hc]; decide) ?_
  refine j_iload_n X dX5_set_21 rfl rfl (q := 2) rfl ?_
  refine j_ifb_eq X dX5_set_22 rfl (tgt := 40) (by decide) (fun c_22 => ?_) (fun c_22 => ?_)
  · refine j_aload_n X dX5_set_40 rfl rfl (q := 0) rfl ?_
    refine jg_top X 3 (by decide) lk_RX5_29 rfl rfl dX5_set_41 rfl ?_
    refine jgN_mach X (by decide) 0 (by decide) nk_RX5_102 rfl rfl dX5_set_44 rfl ?_
    refine j_iload_n X dX5_set_47 rfl rfl (q := 1) rfl ?_
    refine j_aldCN X (g := a) (by decide) ha dX5_set_48 rfl ?_
    refine jgN_core X (by decide) ha 9 (by decide) nk_RX5_184 rfl rfl dX5_set_49 rfl ?_
    exact j_ret (by first | with_reducible rfl | (simp [c_22]; done) | (simp_all []; done) | rfl) (by first | with_reducible rfl | (simp [c_22]; done) | (simp_all []; done) | rfl) rfl (K _ _ dX5_set_52)
  · refine j_aload_n X dX5_set_25 rfl rfl (q := 0) rfl ?_
    refine jg_top X 3 (by decide) lk_RX5_29 rfl rfl dX5_set_26 rfl ?_
    refine jgN_mach X (by decide) 0 (by decide) nk_RX5_102 rfl rfl dX5_set_29 rfl ?_
    refine j_iload_n X dX5_set_32 rfl rfl (q := 1) rfl ?_
    refine j_aldCN X (g := a) (by decide) ha dX5_set_33 rfl ?_
    refine jgN_core X (by decide) ha 10 (by decide) nk_RX5_181 rfl rfl dX5_set_34 rfl ?_
    refine j_goto X (tgt := 52) dX5_set_37 (by decide) ?_
    exact j_ret (by first | with_reducible rfl | (simp [c_22]; done) | (simp_all []; done) | rfl) (by first | with_reducible rfl | (simp [c_22]; done) | (simp_all []; done) | rfl) rfl (K _ _ dX5_set_52)
set_option maxRecDepth 100000 in
set_option maxHeartbeats 4000000 in
theorem c_X5_core (l : Launch) (Z : wZ) (S : St) (h : Hl) (a : Nat) (ha : a < 4) (hc : pHasC S 0 (nI a) = true) (k : Nat) (hk : k < 6) : Ci l yX5_core cX5_core 3 .int 1 21 Z [.ref (zA Z (6) (0) (0)), .int (nI (a)), .int (nI (k))] S h (pCFact S 0 a k) (S) (h) := by
  refine Ci.of rfl rfl (Nat.le_of_ble_eq_true rfl) (fun p e s mi args below meth c A0 Q X K => ?_)
  refine j_at rfl rfl (Ls3 := [(0, .ref (zA Z (6) (0) (0))), (1, .int (nI (a))), (2, .int (nI (k)))]) rfl rfl ?_
  refine j_aload_n X dX5_core_0 rfl rfl (q := 0) rfl ?_
  refine jg_top X 3 (by decide) lk_RX5_29 rfl rfl dX5_core_1 rfl ?_
  refine j_iload_n X dX5_core_4 rfl rfl (q := 1) rfl ?_
  refine j_callNi X (c_X2_hasCore l Z S h 0 (by decide) (nI (a))) (wm_mach (by decide) (by decide)) (wE_mach (by decide) 0 _) rfl nk_RX5_94 mi_X2_hasCore ms_X2_hasCore ini_RX2 mc_X2_hasCore md_X2_hasCore ⟨Nat.le_of_ble_eq_true rfl, Nat.le_of_ble_eq_true rfl⟩ ⟨Nat.le_of_ble_eq_true rfl, Nat.le_of_ble_eq_true rfl⟩ rfl (Nat.le_of_ble_eq_true rfl) (as := [.int (nI (a))]) (rest := []) rfl dX5_core_5 rfl ?_
  refine j_if_ne_t X (tgt := 21) dX5_core_8 (by decide) (by rw [hc]; decide) ?_
  refine j_iload_n X dX5_core_21 rfl rfl (q := 2) rfl ?_
  refine j_if_lt_f X dX5_core_22 rfl (tgt := 31) (by decide) (nI_pos (by omega)) ?_
  refine j_iload_n X dX5_core_25 rfl rfl (q := 2) rfl ?_
  refine j_bipush X dX5_core_26 rfl (v := 6) (by decide) ?_
  refine j_icmp_lt_t X (tgt := 41) dX5_core_28 (by decide) (nI_lt hk (by decide)) ?_
  refine j_aload_n X dX5_core_41 rfl rfl (q := 0) rfl ?_
  refine jg_top X 3 (by decide) lk_RX5_29 rfl rfl dX5_core_42 rfl ?_
  refine jgN_mach X (by decide) 0 (by decide) nk_RX5_102 rfl rfl dX5_core_45 rfl ?_
  refine j_iload_n X dX5_core_48 rfl rfl (q := 1) rfl ?_
  refine j_aldCN X (g := a) (by decide) ha dX5_core_49 rfl ?_
  refine j_iload_n X dX5_core_50 rfl rfl (q := 2) rfl ?_
  refine j_callNi X (c_X0_fact l Z S h 0 a (by decide) ha k hk) (wm_core (by decide) ha (by decide)) (wE_core (by decide) ha 0 _) rfl nk_RX5_189 mi_X0_fact ms_X0_fact ini_RX0 mc_X0_fact md_X0_fact ⟨Nat.le_of_ble_eq_true rfl, Nat.le_of_ble_eq_true rfl⟩ ⟨Nat.le_of_ble_eq_true rfl, Nat.le_of_ble_eq_true rfl⟩ rfl (Nat.le_of_ble_eq_true rfl) (as := [.int (nI (k))]) (rest := []) rfl dX5_core_51 rfl ?_
  exact j_ret (by first | with_reducible rfl | (simp []; done) | (simp_all []; done) | rfl) (by first | with_reducible rfl | (simp []; done) | (simp_all []; done) | rfl) rfl (K _ _ dX5_core_54)
set_option maxRecDepth 100000 in
set_option maxHeartbeats 4000000 in
theorem c_X5_value (l : Launch) (Z : wZ) (S : St) (h : Hl) (k : Nat) (hk : k < 5) (hcc : okI (S 0 4 0 4) 4) : Ci l yX5_value cX5_value 2 .int 3 63 Z [.ref (zA Z (6) (0) (0)), .int (nI (k))] S h (pMFact S 0 k) (S) (h) := by
  refine Ci.of rfl rfl (Nat.le_of_ble_eq_true rfl) (fun p e s mi args below meth c A0 Q X K => ?_)
  refine j_at rfl rfl (Ls3 := [(0, .ref (zA Z (6) (0) (0))), (1, .int (nI (k)))]) rfl rfl ?_
  refine j_iload_n X dX5_value_0 rfl rfl (q := 1) rfl ?_
  refine j_if_lt_f X dX5_value_1 rfl (tgt := 9) (by decide) (nI_pos (by omega)) ?_
  refine j_iload_n X dX5_value_4 rfl rfl (q := 1) rfl ?_
  refine j_iconst X dX5_value_5 rfl (v := 5) (by decide) ?_
  refine j_icmp_lt_t X (tgt := 19) dX5_value_6 (by decide) (nI_lt hk (by decide)) ?_
  refine j_aload_n X dX5_value_19 rfl rfl (q := 0) rfl ?_
  refine jg_top X 3 (by decide) lk_RX5_29 rfl rfl dX5_value_20 rfl ?_
  refine j_iload_n X dX5_value_23 rfl rfl (q := 1) rfl ?_
  refine j_callNi X (c_X2_fact l Z S h 0 (by decide) hcc k hk) (wm_mach (by decide) (by decide)) (wE_mach (by decide) 0 _) rfl nk_RX5_192 mi_X2_fact ms_X2_fact ini_RX2 mc_X2_fact md_X2_fact ⟨Nat.le_of_ble_eq_true rfl, Nat.le_of_ble_eq_true rfl⟩ ⟨Nat.le_of_ble_eq_true rfl, Nat.le_of_ble_eq_true rfl⟩ rfl (Nat.le_of_ble_eq_true rfl) (as := [.int (nI (k))]) (rest := []) rfl dX5_value_24 rfl ?_
  exact j_ret (by first | with_reducible rfl | (simp []; done) | (simp_all []; done) | rfl) (by first | with_reducible rfl | (simp []; done) | (simp_all []; done) | rfl) rfl (K _ _ dX5_value_27)
set_option maxRecDepth 100000 in
set_option maxHeartbeats 4000000 in
theorem c_X5_counter (l : Launch) (Z : wZ) (S : St) (h : Hl) (k : Nat) (hk : k < 8) : Ci l yX5_counter cX5_counter 2 .int 0 0 Z [.ref (zA Z (6) (0) (0)), .int (nI (k))] S h (S 0 4 3 k) (S) (h) := by
  refine Ci.of rfl rfl (Nat.le_of_ble_eq_true rfl) (fun p e s mi args below meth c A0 Q X K => ?_)
  refine j_at rfl rfl (Ls3 := [(0, .ref (zA Z (6) (0) (0))), (1, .int (nI (k)))]) rfl rfl ?_
  refine j_iload_n X dX5_counter_0 rfl rfl (q := 1) rfl ?_
  refine j_if_lt_f X dX5_counter_1 rfl (tgt := 10) (by decide) (nI_pos (by omega)) ?_
  refine j_iload_n X dX5_counter_4 rfl rfl (q := 1) rfl ?_
  refine j_bipush X dX5_counter_5 rfl (v := 8) (by decide) ?_
  refine j_icmp_lt_t X (tgt := 20) dX5_counter_7 (by decide) (nI_lt hk (by decide)) ?_
  refine j_aload_n X dX5_counter_20 rfl rfl (q := 0) rfl ?_
  refine jg_top X 3 (by decide) lk_RX5_29 rfl rfl dX5_counter_21 rfl ?_
  refine jgN_mach X (by decide) 2 (by decide) nk_RX5_193 rfl rfl dX5_counter_24 rfl ?_
  refine j_iload_n X dX5_counter_27 rfl rfl (q := 1) rfl ?_
  refine j_ialdN X (k := k) (wm_mach (by decide) (by decide)) (wE_mach (by decide) 3 _) (by omega) (by decide) dX5_counter_28 rfl ?_
  exact j_ret (by first | with_reducible rfl | (simp []; done) | (simp_all []; done) | rfl) (by first | with_reducible rfl | (simp []; done) | (simp_all []; done) | rfl) rfl (K _ _ dX5_counter_29)
set_option maxRecDepth 100000 in
set_option maxHeartbeats 4000000 in
theorem c_X5_commits (l : Launch) (Z : wZ) (S : St) (h : Hl)  : Ci l yX5_commits cX5_commits 1 .int 0 0 Z [.ref (zA Z (6) (0) (0))] S h (S 0 4 4 7) (S) (h) := by
  refine Ci.of rfl rfl (Nat.le_of_ble_eq_true rfl) (fun p e s mi args below meth c A0 Q X K => ?_)
  refine j_at rfl rfl (Ls3 := [(0, .ref (zA Z (6) (0) (0)))]) rfl rfl ?_
  refine j_aload_n X dX5_commits_0 rfl rfl (q := 0) rfl ?_
  refine jg_top X 3 (by decide) lk_RX5_29 rfl rfl dX5_commits_1 rfl ?_
  refine jgN_mach X (by decide) 3 (by decide) nk_RX5_63 rfl rfl dX5_commits_4 rfl ?_
  refine jgN_log X (by decide) 7 (by decide) nk_RX5_67 rfl rfl dX5_commits_7 rfl ?_
  exact j_ret (by first | with_reducible rfl | (simp []; done) | (simp_all []; done) | rfl) (by first | with_reducible rfl | (simp []; done) | (simp_all []; done) | rfl) rfl (K _ _ dX5_commits_10)

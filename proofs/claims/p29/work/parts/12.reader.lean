/-! ProgramReader -/
def pExpect (S : St) (a b : Int32) : St := setF (setF S 6 0 2 2 a) 6 0 2 1 b
def pAcLine (S : St) (x : Int32) : Bool × St := if pIsLine (x - 48) = true then (true, setF (setF S 6 0 2 3 (x - 48)) 6 0 2 1 5) else (false, S)
def pAcMin (S : St) (x : Int32) : Bool × St := if x = 45 then (true, setF (setF S 6 0 2 5 1) 6 0 2 1 3) else (false, S)
def pAcDig (S : St) (x : Int32) : Bool × St :=
  if x < 48 then (false, S) else if x ≤ 57 then
    (let S1 := setF S 6 0 2 3 (10 * S 6 0 2 3 + (x - 48))
     let S2 := setF S1 6 0 2 4 (S1 6 0 2 4 + 1)
     (true, setF S2 6 0 2 1 (if 3 ≤ S2 6 0 2 4 then 5 else 4)))
  else (false, S)
def pAcEnd (S : St) (x : Int32) : Bool × St := if x = 59 then (true, setF (pAddI S 6 0 (S 6 0 2 2) (if S 6 0 2 5 = 0 then S 6 0 2 3 else - S 6 0 2 3)) 6 0 2 1 0) else (false, S)
def pAcIns (S : St) (x : Int32) : Bool × St :=
  if pFull S 6 0 = true then (false, S) else
    let S1 := setF (setF (setF S 6 0 2 3 0) 6 0 2 4 0) 6 0 2 5 0
    if x = 97 then (true, pExpect S1 4 2) else if x = 98 then (true, pExpect S1 0 5) else if x = 99 then (true, pExpect S1 1 5) else if x = 114 then (true, pExpect S1 2 1) else if x = 119 then (true, pExpect S1 3 1) else (false, S1)
def pAcc (S : St) (x : Int32) (w : Nat) : Bool × St :=
  if w = 0 then pAcIns S x else if w = 1 then pAcLine S x else
  if w = 2 then (if (pAcMin S x).1 = true then (true, (pAcMin S x).2) else pAcDig (pAcMin S x).2 x) else
  if w = 3 then pAcDig S x else
  if w = 4 then (if (pAcDig S x).1 = true then (true, (pAcDig S x).2) else pAcEnd (pAcDig S x).2 x) else pAcEnd S x
def pRdF (k : Nat) (q : St × Int32) : Bool × St × Int32 :=
  if (pAcc q.1 (q.1 6 0 1 k) (q.1 6 0 2 1).toNatClampNeg).1 = true then (true, (pAcc q.1 (q.1 6 0 1 k) (q.1 6 0 2 1).toNatClampNeg).2, q.2) else (false, (pAcc q.1 (q.1 6 0 1 k) (q.1 6 0 2 1).toNatClampNeg).2, nI k)
def pRdL (S : St) (b : Nat) : Bool × St × Int32 := lpE pRdF b 0 (setF (setF S 6 0 3 2 0) 6 0 2 1 0, 0)
def pRdT (S : St) (b : Nat) : Int32 × St := if (pRdL S b).1 = true then (if (pRdL S b).2.1 6 0 2 1 = 0 then -1 else nI b, (pRdL S b).2.1) else ((pRdL S b).2.2, (pRdL S b).2.1)
theorem okI_lit {k : Nat} {b : Nat} (h : k ≤ b) (hb : b < 2 ^ 31) (x : Int32) (hx : x = nI k) : okI x b := by rw [hx]; exact okI_nI h hb
/-- what the reader wants next is always one of six -/
theorem pAcc_w {S : St} {x : Int32} {w : Nat} (h : okI (S 6 0 2 1) 5) : okI ((pAcc S x w).2 6 0 2 1) 5 := by
  have e0 : okI 0 5 := okI_lit (k := 0) (by omega) (by omega) _ rfl
  have e1 : okI 1 5 := okI_lit (k := 1) (by omega) (by omega) _ rfl
  have e2 : okI 2 5 := okI_lit (k := 2) (by omega) (by omega) _ rfl
  have e3 : okI 3 5 := okI_lit (k := 3) (by omega) (by omega) _ rfl
  have e4 : okI 4 5 := okI_lit (k := 4) (by omega) (by omega) _ rfl
  have e5 : okI 5 5 := okI_lit (k := 5) (by omega) (by omega) _ rfl
  have hd : ∀ (T : St), okI (T 6 0 2 1) 5 → okI ((pAcDig T x).2 6 0 2 1) 5 := by
    intro T hT
    unfold pAcDig
    split
    · exact hT
    · split
      · dsimp only
        rw [setF_at, if_pos ⟨rfl, rfl, rfl, rfl⟩]
        split
        · exact e5
        · exact e4
      · exact hT
  have hm : ∀ (T : St), okI (T 6 0 2 1) 5 → okI ((pAcMin T x).2 6 0 2 1) 5 := by
    intro T hT
    unfold pAcMin
    split
    · simp only [setF_at]; simpa using e3
    · exact hT
  have hen : ∀ (T : St), okI (T 6 0 2 1) 5 → okI ((pAcEnd T x).2 6 0 2 1) 5 := by
    intro T hT
    unfold pAcEnd
    split
    · simp only [setF_at]; simpa using e0
    · exact hT
  unfold pAcc
  split
  · unfold pAcIns
    split
    · exact h
    · simp only [pExpect]
      repeat' split
      all_goals simp [setF_at, e1, e2, e3, e4, e5, h]
  · split
    · unfold pAcLine
      split
      · simp [setF_at, e5]
      · exact h
    · split
      · split
        · exact hm S h
        · exact hd _ (hm S h)
      · split
        · exact hd S h
        · split
          · split
            · exact hd S h
            · exact hen _ (hd S h)
          · exact hen S h
set_option maxRecDepth 100000 in
set_option maxHeartbeats 4000000 in
theorem c_X4_expect (l : Launch) (Z : wZ) (S : St) (h : Hl) (a b : Int32) : Ci l yX4_expect cX4_expect 3 .boolean 0 0 Z [.ref (zA Z (6) (0) (2)), .int (a), .int (b)] S h (bI true) (pExpect S a b) (h) := by
  refine Ci.of rfl (bI_nar _) (Nat.le_of_ble_eq_true rfl) (fun p e s mi args below meth c A0 Q X K => ?_)
  refine j_at rfl rfl (Ls3 := [(0, .ref (zA Z (6) (0) (2))), (1, .int (a)), (2, .int (b))]) rfl rfl ?_
  refine j_aload_n X dX4_expect_0 rfl rfl (q := 0) rfl ?_
  refine j_iload_n X dX4_expect_1 rfl rfl (q := 1) rfl ?_
  refine jp_read X 2 (by decide) lk_RX4_22 rfl rfl rfl (vp_nar_int _) rfl rfl dX4_expect_2 rfl ?_
  refine j_name (fun S1 eS1 => ?_)
  refine j_aload_n X dX4_expect_5 rfl rfl (q := 0) rfl ?_
  refine j_iload_n X dX4_expect_6 rfl rfl (q := 2) rfl ?_
  refine jp_read X 1 (by decide) lk_RX4_18 rfl rfl rfl (vp_nar_int _) rfl rfl dX4_expect_7 rfl ?_
  refine j_name (fun S2 eS2 => ?_)
  refine j_iconst X dX4_expect_10 rfl (v := 1) (by decide) ?_
  exact j_ret (by subst eS1; subst eS2; first | rfl | simp [pExpect, bI]) (by subst eS1; subst eS2; first | rfl | simp [pExpect, bI]) rfl (K _ _ dX4_expect_11)
set_option maxRecDepth 100000 in
set_option maxHeartbeats 4000000 in
theorem c_X4_acceptsLine (l : Launch) (Z : wZ) (S : St) (h : Hl) (x : Int32) : Ci l yX4_acceptsLine cX4_acceptsLine 2 .boolean 1 20 Z [.ref (zA Z (6) (0) (2)), .int (x)] S h (bI (pAcLine S x).1) ((pAcLine S x).2) (h) := by
  refine Ci.of rfl (bI_nar _) (Nat.le_of_ble_eq_true rfl) (fun p e s mi args below meth c A0 Q X K => ?_)
  refine j_at rfl rfl (Ls3 := [(0, .ref (zA Z (6) (0) (2))), (1, .int (x))]) rfl rfl ?_
  refine j_iload_n X dX4_acceptsLine_0 rfl rfl (q := 1) rfl ?_
  refine j_bipush X dX4_acceptsLine_1 rfl (v := 48) (by decide) ?_
  refine j_isub X dX4_acceptsLine_3 rfl ?_
  refine j_callSNi X (c_X5_isLine l Z S h ((x) - (48))) nk_RX4_65 mt_X5_isLine ini_RX5 mc_X5_isLine md_X5_isLine ⟨Nat.le_of_ble_eq_true rfl, Nat.le_of_ble_eq_true rfl⟩ ⟨Nat.le_of_ble_eq_true rfl, Nat.le_of_ble_eq_true rfl⟩ rfl (Nat.le_of_ble_eq_true rfl) (as := [.int ((x) - (48))]) (rest := []) rfl dX4_acceptsLine_4 rfl ?_
  refine j_ifb_ne X dX4_acceptsLine_7 rfl (tgt := 12) (by decide) (fun c_7 => ?_) (fun c_7 => ?_)
  · refine j_aload_n X dX4_acceptsLine_12 rfl rfl (q := 0) rfl ?_
    refine j_iload_n X dX4_acceptsLine_13 rfl rfl (q := 1) rfl ?_
    refine j_bipush X dX4_acceptsLine_14 rfl (v := 48) (by decide) ?_
    refine j_isub X dX4_acceptsLine_16 rfl ?_
    refine jp_read X 3 (by decide) lk_RX4_25 rfl rfl rfl (vp_nar_int _) rfl rfl dX4_acceptsLine_17 rfl ?_
    refine j_name (fun S1 eS1 => ?_)
    refine j_aload_n X dX4_acceptsLine_20 rfl rfl (q := 0) rfl ?_
    refine j_iconst X dX4_acceptsLine_21 rfl (v := 5) (by decide) ?_
    refine jp_read X 1 (by decide) lk_RX4_18 rfl rfl rfl (vp_nar_int _) rfl rfl dX4_acceptsLine_22 rfl ?_
    refine j_name (fun S2 eS2 => ?_)
    refine j_iconst X dX4_acceptsLine_25 rfl (v := 1) (by decide) ?_
    exact j_ret (by subst eS1; subst eS2; first | rfl | simp [pAcLine, bI, c_7]) (by subst eS1; subst eS2; first | rfl | simp [pAcLine, bI, c_7]) rfl (K _ _ dX4_acceptsLine_26)
  · refine j_iconst X dX4_acceptsLine_10 rfl (v := 0) (by decide) ?_
    exact j_ret (by first | rfl | simp [pAcLine, bI, c_7]) (by first | rfl | simp [pAcLine, bI, c_7]) rfl (K _ _ dX4_acceptsLine_11)
set_option maxRecDepth 100000 in
set_option maxHeartbeats 4000000 in
theorem c_X4_acceptsMinus (l : Launch) (Z : wZ) (S : St) (h : Hl) (x : Int32) : Ci l yX4_acceptsMinus cX4_acceptsMinus 2 .boolean 0 0 Z [.ref (zA Z (6) (0) (2)), .int (x)] S h (bI (pAcMin S x).1) ((pAcMin S x).2) (h) := by
  refine Ci.of rfl (bI_nar _) (Nat.le_of_ble_eq_true rfl) (fun p e s mi args below meth c A0 Q X K => ?_)
  refine j_at rfl rfl (Ls3 := [(0, .ref (zA Z (6) (0) (2))), (1, .int (x))]) rfl rfl ?_
  refine j_iload_n X dX4_acceptsMinus_0 rfl rfl (q := 1) rfl ?_
  refine j_bipush X dX4_acceptsMinus_1 rfl (v := 45) (by decide) ?_
  refine j_icmp_eq X dX4_acceptsMinus_3 rfl (tgt := 8) (by decide) (fun c_3 => ?_) (fun c_3 => ?_)
  · refine j_aload_n X dX4_acceptsMinus_8 rfl rfl (q := 0) rfl ?_
    refine j_iconst X dX4_acceptsMinus_9 rfl (v := 1) (by decide) ?_
    refine jp_read X 5 (by decide) lk_RX4_31 rfl rfl rfl (by decide) (by decide) rfl dX4_acceptsMinus_10 rfl ?_
    refine j_name (fun S1 eS1 => ?_)
    refine j_aload_n X dX4_acceptsMinus_13 rfl rfl (q := 0) rfl ?_
    refine j_iconst X dX4_acceptsMinus_14 rfl (v := 3) (by decide) ?_
    refine jp_read X 1 (by decide) lk_RX4_18 rfl rfl rfl (vp_nar_int _) rfl rfl dX4_acceptsMinus_15 rfl ?_
    refine j_name (fun S2 eS2 => ?_)
    refine j_iconst X dX4_acceptsMinus_18 rfl (v := 1) (by decide) ?_
    exact j_ret (by subst eS1; subst eS2; first | rfl | simp [pAcMin, bI, c_3]) (by subst eS1; subst eS2; first | rfl | simp [pAcMin, bI, c_3]) rfl (K _ _ dX4_acceptsMinus_19)
  · refine j_iconst X dX4_acceptsMinus_6 rfl (v := 0) (by decide) ?_
    exact j_ret (by first | rfl | simp [pAcMin, bI, c_3]) (by first | rfl | simp [pAcMin, bI, c_3]) rfl (K _ _ dX4_acceptsMinus_7)
set_option maxRecDepth 100000 in
set_option maxHeartbeats 4000000 in
theorem c_X4_acceptsDigit (l : Launch) (Z : wZ) (S : St) (h : Hl) (x : Int32) : Ci l yX4_acceptsDigit cX4_acceptsDigit 2 .boolean 0 0 Z [.ref (zA Z (6) (0) (2)), .int (x)] S h (bI (pAcDig S x).1) ((pAcDig S x).2) (h) := by
  refine Ci.of rfl (bI_nar _) (Nat.le_of_ble_eq_true rfl) (fun p e s mi args below meth c A0 Q X K => ?_)
  refine j_at rfl rfl (Ls3 := [(0, .ref (zA Z (6) (0) (2))), (1, .int (x))]) rfl rfl ?_
  refine j_iload_n X dX4_acceptsDigit_0 rfl rfl (q := 1) rfl ?_
  refine j_bipush X dX4_acceptsDigit_1 rfl (v := 48) (by decide) ?_
  refine j_icmp_lt X dX4_acceptsDigit_3 rfl (tgt := 12) (by decide) (fun c_3 => ?_) (fun c_3 => ?_)
  · refine j_iconst X dX4_acceptsDigit_12 rfl (v := 0) (by decide) ?_
    exact j_ret (by first | rfl | simp [pAcDig, bI, c_3]) (by first | rfl | simp [pAcDig, bI, c_3]) rfl (K _ _ dX4_acceptsDigit_13)
  · refine j_iload_n X dX4_acceptsDigit_6 rfl rfl (q := 1) rfl ?_
    refine j_bipush X dX4_acceptsDigit_7 rfl (v := 57) (by decide) ?_
    refine j_icmp_le X dX4_acceptsDigit_9 rfl (tgt := 14) (by decide) (fun c_9 => ?_) (fun c_9 => ?_)
    · refine j_aload_n X dX4_acceptsDigit_14 rfl rfl (q := 0) rfl ?_
      refine j_bipush X dX4_acceptsDigit_15 rfl (v := 10) (by decide) ?_
      refine j_aload_n X dX4_acceptsDigit_17 rfl rfl (q := 0) rfl ?_
      refine jg_read X 3 (by decide) lk_RX4_25 rfl rfl dX4_acceptsDigit_18 rfl ?_
      refine j_imul X dX4_acceptsDigit_21 rfl ?_
      refine j_iload_n X dX4_acceptsDigit_22 rfl rfl (q := 1) rfl ?_
      refine j_bipush X dX4_acceptsDigit_23 rfl (v := 48) (by decide) ?_
      refine j_isub X dX4_acceptsDigit_25 rfl ?_
      refine j_iadd X dX4_acceptsDigit_26 rfl ?_
      refine jp_read X 3 (by decide) lk_RX4_25 rfl rfl rfl (vp_nar_int _) rfl rfl dX4_acceptsDigit_27 rfl ?_
      refine j_name (fun S1 eS1 => ?_)
      refine j_aload_n X dX4_acceptsDigit_30 rfl rfl (q := 0) rfl ?_
      refine j_dup X dX4_acceptsDigit_31 rfl rfl ?_
      refine jg_read X 4 (by decide) lk_RX4_28 rfl rfl dX4_acceptsDigit_32 rfl ?_
      refine j_iconst X dX4_acceptsDigit_35 rfl (v := 1) (by decide) ?_
      refine j_iadd X dX4_acceptsDigit_36 rfl ?_
      refine jp_read X 4 (by decide) lk_RX4_28 rfl rfl rfl (vp_nar_int _) rfl rfl dX4_acceptsDigit_37 rfl ?_
      refine j_name (fun S2 eS2 => ?_)
      refine j_aload_n X dX4_acceptsDigit_40 rfl rfl (q := 0) rfl ?_
      refine j_aload_n X dX4_acceptsDigit_41 rfl rfl (q := 0) rfl ?_
      refine jg_read X 4 (by decide) lk_RX4_28 rfl rfl dX4_acceptsDigit_42 rfl ?_
      refine j_iconst X dX4_acceptsDigit_45 rfl (v := 3) (by decide) ?_
      refine j_icmp_ge X dX4_acceptsDigit_46 rfl (tgt := 53) (by decide) (fun c_46 => ?_) (fun c_46 => ?_)
      · refine j_iconst X dX4_acceptsDigit_53 rfl (v := 5) (by decide) ?_
        refine jp_read X 1 (by decide) lk_RX4_18 rfl rfl rfl (vp_nar_int _) rfl rfl dX4_acceptsDigit_54 rfl ?_
        refine j_name (fun S3 eS3 => ?_)
        refine j_iconst X dX4_acceptsDigit_57 rfl (v := 1) (by decide) ?_
        exact j_ret (by subst eS1; subst eS2; subst eS3; first | rfl | simp [pAcDig, bI, c_3, c_9, c_46]) (by subst eS1; subst eS2; subst eS3; first | rfl | simp [pAcDig, bI, c_3, c_9, c_46]) rfl (K _ _ dX4_acceptsDigit_58)
      · refine j_iconst X dX4_acceptsDigit_49 rfl (v := 4) (by decide) ?_
        refine j_goto X (tgt := 54) dX4_acceptsDigit_50 (by decide) ?_
        refine jp_read X 1 (by decide) lk_RX4_18 rfl rfl rfl (vp_nar_int _) rfl rfl dX4_acceptsDigit_54 rfl ?_
        refine j_name (fun S4 eS4 => ?_)
        refine j_iconst X dX4_acceptsDigit_57 rfl (v := 1) (by decide) ?_
        exact j_ret (by subst eS1; subst eS2; subst eS4; first | rfl | simp [pAcDig, bI, c_3, c_9, c_46]) (by subst eS1; subst eS2; subst eS4; first | rfl | simp [pAcDig, bI, c_3, c_9, c_46]) rfl (K _ _ dX4_acceptsDigit_58)
    · refine j_iconst X dX4_acceptsDigit_12 rfl (v := 0) (by decide) ?_
      exact j_ret (by first | rfl | simp [pAcDig, bI, c_3, c_9]) (by first | rfl | simp [pAcDig, bI, c_3, c_9]) rfl (K _ _ dX4_acceptsDigit_13)
set_option maxRecDepth 100000 in
set_option maxHeartbeats 4000000 in
theorem c_X4_acceptsEnd (l : Launch) (Z : wZ) (S : St) (h : Hl) (x : Int32) : Ci l yX4_acceptsEnd cX4_acceptsEnd 2 .boolean 2 42 Z [.ref (zA Z (6) (0) (2)), .int (x)] S h (bI (pAcEnd S x).1) ((pAcEnd S x).2) (h) := by
  refine Ci.of rfl (bI_nar _) (Nat.le_of_ble_eq_true rfl) (fun p e s mi args below meth c A0 Q X K => ?_)
  refine j_at rfl rfl (Ls3 := [(0, .ref (zA Z (6) (0) (2))), (1, .int (x))]) rfl rfl ?_
  refine j_iload_n X dX4_acceptsEnd_0 rfl rfl (q := 1) rfl ?_
  refine j_bipush X dX4_acceptsEnd_1 rfl (v := 59) (by decide) ?_
  refine j_icmp_eq X dX4_acceptsEnd_3 rfl (tgt := 8) (by decide) (fun c_3 => ?_) (fun c_3 => ?_)
  · refine j_aload_n X dX4_acceptsEnd_8 rfl rfl (q := 0) rfl ?_
    refine jg_read X 0 (by decide) lk_RX4_12 rfl rfl dX4_acceptsEnd_9 rfl ?_
    refine j_aload_n X dX4_acceptsEnd_12 rfl rfl (q := 0) rfl ?_
    refine jg_read X 2 (by decide) lk_RX4_22 rfl rfl dX4_acceptsEnd_13 rfl ?_
    refine j_aload_n X dX4_acceptsEnd_16 rfl rfl (q := 0) rfl ?_
    refine jg_read X 5 (by decide) lk_RX4_31 rfl rfl dX4_acceptsEnd_17 rfl ?_
    refine j_if_eq X dX4_acceptsEnd_20 rfl (tgt := 31) (by decide) (fun c_20 => ?_) (fun c_20 => ?_)
    · refine j_aload_n X dX4_acceptsEnd_31 rfl rfl (q := 0) rfl ?_
      refine jg_read X 3 (by decide) lk_RX4_25 rfl rfl dX4_acceptsEnd_32 rfl ?_
      refine j_callNv X (c_X3_addInstruction l Z S h 6 0 (Or.inr ⟨rfl, rfl⟩) (S 6 0 2 2) (S 6 0 2 3)) (wm_prog (Or.inr ⟨rfl, rfl⟩) (by decide)) (wE_prog (Or.inr ⟨rfl, rfl⟩) _) rfl nk_RX4_68 mi_X3_addInstruction ms_X3_addInstruction ini_RX3 mc_X3_addInstruction md_X3_addInstruction ⟨Nat.le_of_ble_eq_true rfl, Nat.le_of_ble_eq_true rfl⟩ ⟨Nat.le_of_ble_eq_true rfl, Nat.le_of_ble_eq_true rfl⟩ rfl (Nat.le_of_ble_eq_true rfl) (as := [.int (S 6 0 2 2), .int (S 6 0 2 3)]) (rest := []) rfl dX4_acceptsEnd_35 rfl ?_
      refine j_name (fun S1 eS1 => ?_)
      refine j_aload_n X dX4_acceptsEnd_38 rfl rfl (q := 0) rfl ?_
      refine j_iconst X dX4_acceptsEnd_39 rfl (v := 0) (by decide) ?_
      refine jp_read X 1 (by decide) lk_RX4_18 rfl rfl rfl (vp_nar_int _) rfl rfl dX4_acceptsEnd_40 rfl ?_
      refine j_name (fun S2 eS2 => ?_)
      refine j_iconst X dX4_acceptsEnd_43 rfl (v := 1) (by decide) ?_
      exact j_ret (by subst eS1; subst eS2; first | rfl | simp [pAcEnd, bI, c_3, c_20]) (by subst eS1; subst eS2; first | rfl | simp [pAcEnd, bI, c_3, c_20]) rfl (K _ _ dX4_acceptsEnd_44)
    · refine j_aload_n X dX4_acceptsEnd_23 rfl rfl (q := 0) rfl ?_
      refine jg_read X 3 (by decide) lk_RX4_25 rfl rfl dX4_acceptsEnd_24 rfl ?_
      refine j_ineg X dX4_acceptsEnd_27 rfl ?_
      refine j_goto X (tgt := 35) dX4_acceptsEnd_28 (by decide) ?_
      refine j_callNv X (c_X3_addInstruction l Z S h 6 0 (Or.inr ⟨rfl, rfl⟩) (S 6 0 2 2) (-(S 6 0 2 3))) (wm_prog (Or.inr ⟨rfl, rfl⟩) (by decide)) (wE_prog (Or.inr ⟨rfl, rfl⟩) _) rfl nk_RX4_68 mi_X3_addInstruction ms_X3_addInstruction ini_RX3 mc_X3_addInstruction md_X3_addInstruction ⟨Nat.le_of_ble_eq_true rfl, Nat.le_of_ble_eq_true rfl⟩ ⟨Nat.le_of_ble_eq_true rfl, Nat.le_of_ble_eq_true rfl⟩ rfl (Nat.le_of_ble_eq_true rfl) (as := [.int (S 6 0 2 2), .int (-(S 6 0 2 3))]) (rest := []) rfl dX4_acceptsEnd_35 rfl ?_
      refine j_name (fun S3 eS3 => ?_)
      refine j_aload_n X dX4_acceptsEnd_38 rfl rfl (q := 0) rfl ?_
      refine j_iconst X dX4_acceptsEnd_39 rfl (v := 0) (by decide) ?_
      refine jp_read X 1 (by decide) lk_RX4_18 rfl rfl rfl (vp_nar_int _) rfl rfl dX4_acceptsEnd_40 rfl ?_
      refine j_name (fun S4 eS4 => ?_)
      refine j_iconst X dX4_acceptsEnd_43 rfl (v := 1) (by decide) ?_
      exact j_ret (by subst eS3; subst eS4; first | rfl | simp [pAcEnd, bI, c_3, c_20]) (by subst eS3; subst eS4; first | rfl | simp [pAcEnd, bI, c_3, c_20]) rfl (K _ _ dX4_acceptsEnd_44)
  · refine j_iconst X dX4_acceptsEnd_6 rfl (v := 0) (by decide) ?_
    exact j_ret (by first | rfl | simp [pAcEnd, bI, c_3]) (by first | rfl | simp [pAcEnd, bI, c_3]) rfl (K _ _ dX4_acceptsEnd_7)
set_option maxRecDepth 100000 in
set_option maxHeartbeats 4000000 in
theorem c_X4_acceptsInstruction (l : Launch) (Z : wZ) (S : St) (h : Hl) (x : Int32) : Ci l yX4_acceptsInstruction cX4_acceptsInstruction 2 .boolean 1 22 Z [.ref (zA Z (6) (0) (2)), .int (x)] S h (bI (pAcIns S x).1) ((pAcIns S x).2) (h) := by
  refine Ci.of rfl (bI_nar _) (Nat.le_of_ble_eq_true rfl) (fun p e s mi args below meth c A0 Q X K => ?_)
  refine j_at rfl rfl (Ls3 := [(0, .ref (zA Z (6) (0) (2))), (1, .int (x))]) rfl rfl ?_
  refine j_aload_n X dX4_acceptsInstruction_0 rfl rfl (q := 0) rfl ?_
  refine jg_read X 0 (by decide) lk_RX4_12 rfl rfl dX4_acceptsInstruction_1 rfl ?_
  refine j_callNi X (c_X3_isFull l Z S h 6 0 (Or.inr ⟨rfl, rfl⟩)) (wm_prog (Or.inr ⟨rfl, rfl⟩) (by decide)) (wE_prog (Or.inr ⟨rfl, rfl⟩) _) rfl nk_RX4_57 mi_X3_isFull ms_X3_isFull ini_RX3 mc_X3_isFull md_X3_isFull ⟨Nat.le_of_ble_eq_true rfl, Nat.le_of_ble_eq_true rfl⟩ ⟨Nat.le_of_ble_eq_true rfl, Nat.le_of_ble_eq_true rfl⟩ rfl (Nat.le_of_ble_eq_true rfl) (as := []) (rest := []) rfl dX4_acceptsInstruction_4 rfl ?_
  refine j_ifb_eq X dX4_acceptsInstruction_7 rfl (tgt := 12) (by decide) (fun c_7 => ?_) (fun c_7 => ?_)
  · refine j_aload_n X dX4_acceptsInstruction_12 rfl rfl (q := 0) rfl ?_
    refine j_iconst X dX4_acceptsInstruction_13 rfl (v := 0) (by decide) ?_
    refine jp_read X 3 (by decide) lk_RX4_25 rfl rfl rfl (vp_nar_int _) rfl rfl dX4_acceptsInstruction_14 rfl ?_
    refine j_name (fun S1 eS1 => ?_)
    refine j_aload_n X dX4_acceptsInstruction_17 rfl rfl (q := 0) rfl ?_
    refine j_iconst X dX4_acceptsInstruction_18 rfl (v := 0) (by decide) ?_
    refine jp_read X 4 (by decide) lk_RX4_28 rfl rfl rfl (vp_nar_int _) rfl rfl dX4_acceptsInstruction_19 rfl ?_
    refine j_name (fun S2 eS2 => ?_)
    refine j_aload_n X dX4_acceptsInstruction_22 rfl rfl (q := 0) rfl ?_
    refine j_iconst X dX4_acceptsInstruction_23 rfl (v := 0) (by decide) ?_
    refine jp_read X 5 (by decide) lk_RX4_31 rfl rfl rfl (by decide) (by decide) rfl dX4_acceptsInstruction_24 rfl ?_
    refine j_name (fun S3 eS3 => ?_)
    refine j_iload_n X dX4_acceptsInstruction_27 rfl rfl (q := 1) rfl ?_
    by_cases q_28_97 : (x) = 97
    · refine j_lookup X (tgt := 108) dX4_acceptsInstruction_28 (by decide) (off := 80) (by rw [q_28_97]; rfl) (by decide) ?_
      refine j_aload_n X dX4_acceptsInstruction_108 rfl rfl (q := 0) rfl ?_
      refine j_iconst X dX4_acceptsInstruction_109 rfl (v := 4) (by decide) ?_
      refine j_iconst X dX4_acceptsInstruction_110 rfl (v := 2) (by decide) ?_
      refine j_calli X (c_X4_expect l Z S3 h (4) (2)) (wm_top (by decide)) ((fun _ => rfl) _) rfl lk_RX4_61 mi_X4_expect ms_X4_expect ini_RX4 mc_X4_expect md_X4_expect ⟨Nat.le_of_ble_eq_true rfl, Nat.le_of_ble_eq_true rfl⟩ ⟨Nat.le_of_ble_eq_true rfl, Nat.le_of_ble_eq_true rfl⟩ rfl (Nat.le_of_ble_eq_true rfl) (as := [.int (4), .int (2)]) (rest := []) rfl dX4_acceptsInstruction_111 rfl ?_
      refine j_name (fun S4 eS4 => ?_)
      exact j_ret (by subst eS1; subst eS2; subst eS3; subst eS4; first | rfl | simp [pAcIns, bI, c_7, q_28_97]) (by subst eS1; subst eS2; subst eS3; subst eS4; first | rfl | simp [pAcIns, bI, c_7, q_28_97]) rfl (K _ _ dX4_acceptsInstruction_114)
    by_cases q_28_98 : (x) = 98
    · refine j_lookup X (tgt := 80) dX4_acceptsInstruction_28 (by decide) (off := 52) (by rw [q_28_98]; rfl) (by decide) ?_
      refine j_aload_n X dX4_acceptsInstruction_80 rfl rfl (q := 0) rfl ?_
      refine j_iconst X dX4_acceptsInstruction_81 rfl (v := 0) (by decide) ?_
      refine j_iconst X dX4_acceptsInstruction_82 rfl (v := 5) (by decide) ?_
      refine j_calli X (c_X4_expect l Z S3 h (0) (5)) (wm_top (by decide)) ((fun _ => rfl) _) rfl lk_RX4_61 mi_X4_expect ms_X4_expect ini_RX4 mc_X4_expect md_X4_expect ⟨Nat.le_of_ble_eq_true rfl, Nat.le_of_ble_eq_true rfl⟩ ⟨Nat.le_of_ble_eq_true rfl, Nat.le_of_ble_eq_true rfl⟩ rfl (Nat.le_of_ble_eq_true rfl) (as := [.int (0), .int (5)]) (rest := []) rfl dX4_acceptsInstruction_83 rfl ?_
      refine j_name (fun S5 eS5 => ?_)
      exact j_ret (by subst eS1; subst eS2; subst eS3; subst eS5; first | rfl | simp [pAcIns, bI, c_7, q_28_97, q_28_98]) (by subst eS1; subst eS2; subst eS3; subst eS5; first | rfl | simp [pAcIns, bI, c_7, q_28_97, q_28_98]) rfl (K _ _ dX4_acceptsInstruction_86)
    by_cases q_28_99 : (x) = 99
    · refine j_lookup X (tgt := 87) dX4_acceptsInstruction_28 (by decide) (off := 59) (by rw [q_28_99]; rfl) (by decide) ?_
      refine j_aload_n X dX4_acceptsInstruction_87 rfl rfl (q := 0) rfl ?_
      refine j_iconst X dX4_acceptsInstruction_88 rfl (v := 1) (by decide) ?_
      refine j_iconst X dX4_acceptsInstruction_89 rfl (v := 5) (by decide) ?_
      refine j_calli X (c_X4_expect l Z S3 h (1) (5)) (wm_top (by decide)) ((fun _ => rfl) _) rfl lk_RX4_61 mi_X4_expect ms_X4_expect ini_RX4 mc_X4_expect md_X4_expect ⟨Nat.le_of_ble_eq_true rfl, Nat.le_of_ble_eq_true rfl⟩ ⟨Nat.le_of_ble_eq_true rfl, Nat.le_of_ble_eq_true rfl⟩ rfl (Nat.le_of_ble_eq_true rfl) (as := [.int (1), .int (5)]) (rest := []) rfl dX4_acceptsInstruction_90 rfl ?_
      refine j_name (fun S6 eS6 => ?_)
      exact j_ret (by subst eS1; subst eS2; subst eS3; subst eS6; first | rfl | simp [pAcIns, bI, c_7, q_28_97, q_28_98, q_28_99]) (by subst eS1; subst eS2; subst eS3; subst eS6; first | rfl | simp [pAcIns, bI, c_7, q_28_97, q_28_98, q_28_99]) rfl (K _ _ dX4_acceptsInstruction_93)
    by_cases q_28_114 : (x) = 114
    · refine j_lookup X (tgt := 94) dX4_acceptsInstruction_28 (by decide) (off := 66) (by rw [q_28_114]; rfl) (by decide) ?_
      refine j_aload_n X dX4_acceptsInstruction_94 rfl rfl (q := 0) rfl ?_
      refine j_iconst X dX4_acceptsInstruction_95 rfl (v := 2) (by decide) ?_
      refine j_iconst X dX4_acceptsInstruction_96 rfl (v := 1) (by decide) ?_
      refine j_calli X (c_X4_expect l Z S3 h (2) (1)) (wm_top (by decide)) ((fun _ => rfl) _) rfl lk_RX4_61 mi_X4_expect ms_X4_expect ini_RX4 mc_X4_expect md_X4_expect ⟨Nat.le_of_ble_eq_true rfl, Nat.le_of_ble_eq_true rfl⟩ ⟨Nat.le_of_ble_eq_true rfl, Nat.le_of_ble_eq_true rfl⟩ rfl (Nat.le_of_ble_eq_true rfl) (as := [.int (2), .int (1)]) (rest := []) rfl dX4_acceptsInstruction_97 rfl ?_
      refine j_name (fun S7 eS7 => ?_)
      exact j_ret (by subst eS1; subst eS2; subst eS3; subst eS7; first | rfl | simp [pAcIns, bI, c_7, q_28_97, q_28_98, q_28_99, q_28_114]) (by subst eS1; subst eS2; subst eS3; subst eS7; first | rfl | simp [pAcIns, bI, c_7, q_28_97, q_28_98, q_28_99, q_28_114]) rfl (K _ _ dX4_acceptsInstruction_100)
    by_cases q_28_119 : (x) = 119
    · refine j_lookup X (tgt := 101) dX4_acceptsInstruction_28 (by decide) (off := 73) (by rw [q_28_119]; rfl) (by decide) ?_
      refine j_aload_n X dX4_acceptsInstruction_101 rfl rfl (q := 0) rfl ?_
      refine j_iconst X dX4_acceptsInstruction_102 rfl (v := 3) (by decide) ?_
      refine j_iconst X dX4_acceptsInstruction_103 rfl (v := 1) (by decide) ?_
      refine j_calli X (c_X4_expect l Z S3 h (3) (1)) (wm_top (by decide)) ((fun _ => rfl) _) rfl lk_RX4_61 mi_X4_expect ms_X4_expect ini_RX4 mc_X4_expect md_X4_expect ⟨Nat.le_of_ble_eq_true rfl, Nat.le_of_ble_eq_true rfl⟩ ⟨Nat.le_of_ble_eq_true rfl, Nat.le_of_ble_eq_true rfl⟩ rfl (Nat.le_of_ble_eq_true rfl) (as := [.int (3), .int (1)]) (rest := []) rfl dX4_acceptsInstruction_104 rfl ?_
      refine j_name (fun S8 eS8 => ?_)
      exact j_ret (by subst eS1; subst eS2; subst eS3; subst eS8; first | rfl | simp [pAcIns, bI, c_7, q_28_97, q_28_98, q_28_99, q_28_114, q_28_119]) (by subst eS1; subst eS2; subst eS3; subst eS8; first | rfl | simp [pAcIns, bI, c_7, q_28_97, q_28_98, q_28_99, q_28_114, q_28_119]) rfl (K _ _ dX4_acceptsInstruction_107)
    refine j_lookup X (tgt := 115) dX4_acceptsInstruction_28 (by decide) (off := 87) (by show Op.lookupswitch.offset [(97, 80), (98, 52), (99, 59), (114, 66), (119, 73)] 87 _ = 87; rw [lv_osw (a := 97) q_28_97 rfl, lv_osw (a := 98) q_28_98 rfl, lv_osw (a := 99) q_28_99 rfl, lv_osw (a := 114) q_28_114 rfl, lv_osw (a := 119) q_28_119 rfl]; rfl) (by decide) ?_
    refine j_iconst X dX4_acceptsInstruction_115 rfl (v := 0) (by decide) ?_
    exact j_ret (by subst eS1; subst eS2; subst eS3; first | rfl | simp [pAcIns, bI, c_7, q_28_97, q_28_98, q_28_99, q_28_114, q_28_119]) (by subst eS1; subst eS2; subst eS3; first | rfl | simp [pAcIns, bI, c_7, q_28_97, q_28_98, q_28_99, q_28_114, q_28_119]) rfl (K _ _ dX4_acceptsInstruction_116)
  · refine j_iconst X dX4_acceptsInstruction_10 rfl (v := 0) (by decide) ?_
    exact j_ret (by first | rfl | simp [pAcIns, bI, c_7]) (by first | rfl | simp [pAcIns, bI, c_7]) rfl (K _ _ dX4_acceptsInstruction_11)
set_option maxRecDepth 100000 in
set_option maxHeartbeats 4000000 in
theorem c_X4_accepts_0 (l : Launch) (Z : wZ) (S : St) (h : Hl) (x : Int32) (hw : S 6 0 2 1 = nI 0) : Ci l yX4_accepts cX4_accepts 2 .boolean 3 63 Z [.ref (zA Z (6) (0) (2)), .int (x)] S h (bI (pAcc S x 0).1) ((pAcc S x 0).2) (h) := by
  refine Ci.of rfl (bI_nar _) (Nat.le_of_ble_eq_true rfl) (fun p e s mi args below meth c A0 Q X K => ?_)
  refine j_at rfl rfl (Ls3 := [(0, .ref (zA Z (6) (0) (2))), (1, .int (x))]) rfl rfl ?_
  refine j_aload_n X dX4_accepts_0 rfl rfl (q := 0) rfl ?_
  refine jg_read X 1 (by decide) lk_RX4_18 rfl rfl dX4_accepts_1 rfl ?_
  refine j_topeq (y := (nI (0))) (hw) ?_
  refine j_tableIn X (tgt := 40) dX4_accepts_4 (by decide) (by decide) rfl (by decide) ?_
  refine j_aload_n X dX4_accepts_40 rfl rfl (q := 0) rfl ?_
  refine j_iload_n X dX4_accepts_41 rfl rfl (q := 1) rfl ?_
  refine j_calli X (c_X4_acceptsInstruction l Z S h (x)) (wm_top (by decide)) ((fun _ => rfl) _) rfl lk_RX4_42 mi_X4_acceptsInstruction ms_X4_acceptsInstruction ini_RX4 mc_X4_acceptsInstruction md_X4_acceptsInstruction ⟨Nat.le_of_ble_eq_true rfl, Nat.le_of_ble_eq_true rfl⟩ ⟨Nat.le_of_ble_eq_true rfl, Nat.le_of_ble_eq_true rfl⟩ rfl (Nat.le_of_ble_eq_true rfl) (as := [.int (x)]) (rest := []) rfl dX4_accepts_42 rfl ?_
  refine j_name (fun S1 eS1 => ?_)
  exact j_ret (by subst eS1; first | rfl | simp [pAcc, bI]) (by subst eS1; first | rfl | simp [pAcc, bI]) rfl (K _ _ dX4_accepts_45)
set_option maxRecDepth 100000 in
set_option maxHeartbeats 4000000 in
theorem c_X4_accepts_1 (l : Launch) (Z : wZ) (S : St) (h : Hl) (x : Int32) (hw : S 6 0 2 1 = nI 1) : Ci l yX4_accepts cX4_accepts 2 .boolean 3 63 Z [.ref (zA Z (6) (0) (2)), .int (x)] S h (bI (pAcc S x 1).1) ((pAcc S x 1).2) (h) := by
  refine Ci.of rfl (bI_nar _) (Nat.le_of_ble_eq_true rfl) (fun p e s mi args below meth c A0 Q X K => ?_)
  refine j_at rfl rfl (Ls3 := [(0, .ref (zA Z (6) (0) (2))), (1, .int (x))]) rfl rfl ?_
  refine j_aload_n X dX4_accepts_0 rfl rfl (q := 0) rfl ?_
  refine jg_read X 1 (by decide) lk_RX4_18 rfl rfl dX4_accepts_1 rfl ?_
  refine j_topeq (y := (nI (1))) (hw) ?_
  refine j_tableIn X (tgt := 46) dX4_accepts_4 (by decide) (by decide) rfl (by decide) ?_
  refine j_aload_n X dX4_accepts_46 rfl rfl (q := 0) rfl ?_
  refine j_iload_n X dX4_accepts_47 rfl rfl (q := 1) rfl ?_
  refine j_calli X (c_X4_acceptsLine l Z S h (x)) (wm_top (by decide)) ((fun _ => rfl) _) rfl lk_RX4_45 mi_X4_acceptsLine ms_X4_acceptsLine ini_RX4 mc_X4_acceptsLine md_X4_acceptsLine ⟨Nat.le_of_ble_eq_true rfl, Nat.le_of_ble_eq_true rfl⟩ ⟨Nat.le_of_ble_eq_true rfl, Nat.le_of_ble_eq_true rfl⟩ rfl (Nat.le_of_ble_eq_true rfl) (as := [.int (x)]) (rest := []) rfl dX4_accepts_48 rfl ?_
  refine j_name (fun S1 eS1 => ?_)
  exact j_ret (by subst eS1; first | rfl | simp [pAcc, bI]) (by subst eS1; first | rfl | simp [pAcc, bI]) rfl (K _ _ dX4_accepts_51)
set_option maxRecDepth 100000 in
set_option maxHeartbeats 4000000 in
theorem c_X4_accepts_2 (l : Launch) (Z : wZ) (S : St) (h : Hl) (x : Int32) (hw : S 6 0 2 1 = nI 2) : Ci l yX4_accepts cX4_accepts 2 .boolean 3 63 Z [.ref (zA Z (6) (0) (2)), .int (x)] S h (bI (pAcc S x 2).1) ((pAcc S x 2).2) (h) := by
  refine Ci.of rfl (bI_nar _) (Nat.le_of_ble_eq_true rfl) (fun p e s mi args below meth c A0 Q X K => ?_)
  refine j_at rfl rfl (Ls3 := [(0, .ref (zA Z (6) (0) (2))), (1, .int (x))]) rfl rfl ?_
  refine j_aload_n X dX4_accepts_0 rfl rfl (q := 0) rfl ?_
  refine jg_read X 1 (by decide) lk_RX4_18 rfl rfl dX4_accepts_1 rfl ?_
  refine j_topeq (y := (nI (2))) (hw) ?_
  refine j_tableIn X (tgt := 52) dX4_accepts_4 (by decide) (by decide) rfl (by decide) ?_
  refine j_aload_n X dX4_accepts_52 rfl rfl (q := 0) rfl ?_
  refine j_iload_n X dX4_accepts_53 rfl rfl (q := 1) rfl ?_
  refine j_calli X (c_X4_acceptsMinus l Z S h (x)) (wm_top (by decide)) ((fun _ => rfl) _) rfl lk_RX4_48 mi_X4_acceptsMinus ms_X4_acceptsMinus ini_RX4 mc_X4_acceptsMinus md_X4_acceptsMinus ⟨Nat.le_of_ble_eq_true rfl, Nat.le_of_ble_eq_true rfl⟩ ⟨Nat.le_of_ble_eq_true rfl, Nat.le_of_ble_eq_true rfl⟩ rfl (Nat.le_of_ble_eq_true rfl) (as := [.int (x)]) (rest := []) rfl dX4_accepts_54 rfl ?_
  refine j_name (fun S1 eS1 => ?_)
  refine j_ifb_ne X dX4_accepts_57 rfl (tgt := 68) (by decide) (fun c_57 => ?_) (fun c_57 => ?_)
  · refine j_iconst X dX4_accepts_68 rfl (v := 1) (by decide) ?_
    refine j_goto X (tgt := 73) dX4_accepts_69 (by decide) ?_
    exact j_ret (by subst eS1; first | rfl | simp [pAcc, bI, c_57]) (by subst eS1; first | rfl | simp [pAcc, bI, c_57]) rfl (K _ _ dX4_accepts_73)
  · refine j_aload_n X dX4_accepts_60 rfl rfl (q := 0) rfl ?_
    refine j_iload_n X dX4_accepts_61 rfl rfl (q := 1) rfl ?_
    refine j_calli X (c_X4_acceptsDigit l Z S1 h (x)) (wm_top (by decide)) ((fun _ => rfl) _) rfl lk_RX4_51 mi_X4_acceptsDigit ms_X4_acceptsDigit ini_RX4 mc_X4_acceptsDigit md_X4_acceptsDigit ⟨Nat.le_of_ble_eq_true rfl, Nat.le_of_ble_eq_true rfl⟩ ⟨Nat.le_of_ble_eq_true rfl, Nat.le_of_ble_eq_true rfl⟩ rfl (Nat.le_of_ble_eq_true rfl) (as := [.int (x)]) (rest := []) rfl dX4_accepts_62 rfl ?_
    refine j_name (fun S2 eS2 => ?_)
    refine j_ifb_eq X dX4_accepts_65 rfl (tgt := 72) (by decide) (fun c_65 => ?_) (fun c_65 => ?_)
    · refine j_iconst X dX4_accepts_72 rfl (v := 0) (by decide) ?_
      exact j_ret (by subst eS1; subst eS2; first | rfl | simp [pAcc, bI, c_57, c_65]) (by subst eS1; subst eS2; first | rfl | simp [pAcc, bI, c_57, c_65]) rfl (K _ _ dX4_accepts_73)
    · refine j_iconst X dX4_accepts_68 rfl (v := 1) (by decide) ?_
      refine j_goto X (tgt := 73) dX4_accepts_69 (by decide) ?_
      exact j_ret (by subst eS1; subst eS2; first | rfl | simp [pAcc, bI, c_57, c_65]) (by subst eS1; subst eS2; first | rfl | simp [pAcc, bI, c_57, c_65]) rfl (K _ _ dX4_accepts_73)
set_option maxRecDepth 100000 in
set_option maxHeartbeats 4000000 in
theorem c_X4_accepts_3 (l : Launch) (Z : wZ) (S : St) (h : Hl) (x : Int32) (hw : S 6 0 2 1 = nI 3) : Ci l yX4_accepts cX4_accepts 2 .boolean 3 63 Z [.ref (zA Z (6) (0) (2)), .int (x)] S h (bI (pAcc S x 3).1) ((pAcc S x 3).2) (h) := by
  refine Ci.of rfl (bI_nar _) (Nat.le_of_ble_eq_true rfl) (fun p e s mi args below meth c A0 Q X K => ?_)
  refine j_at rfl rfl (Ls3 := [(0, .ref (zA Z (6) (0) (2))), (1, .int (x))]) rfl rfl ?_
  refine j_aload_n X dX4_accepts_0 rfl rfl (q := 0) rfl ?_
  refine jg_read X 1 (by decide) lk_RX4_18 rfl rfl dX4_accepts_1 rfl ?_
  refine j_topeq (y := (nI (3))) (hw) ?_
  refine j_tableIn X (tgt := 74) dX4_accepts_4 (by decide) (by decide) rfl (by decide) ?_
  refine j_aload_n X dX4_accepts_74 rfl rfl (q := 0) rfl ?_
  refine j_iload_n X dX4_accepts_75 rfl rfl (q := 1) rfl ?_
  refine j_calli X (c_X4_acceptsDigit l Z S h (x)) (wm_top (by decide)) ((fun _ => rfl) _) rfl lk_RX4_51 mi_X4_acceptsDigit ms_X4_acceptsDigit ini_RX4 mc_X4_acceptsDigit md_X4_acceptsDigit ⟨Nat.le_of_ble_eq_true rfl, Nat.le_of_ble_eq_true rfl⟩ ⟨Nat.le_of_ble_eq_true rfl, Nat.le_of_ble_eq_true rfl⟩ rfl (Nat.le_of_ble_eq_true rfl) (as := [.int (x)]) (rest := []) rfl dX4_accepts_76 rfl ?_
  refine j_name (fun S1 eS1 => ?_)
  exact j_ret (by subst eS1; first | rfl | simp [pAcc, bI]) (by subst eS1; first | rfl | simp [pAcc, bI]) rfl (K _ _ dX4_accepts_79)
set_option maxRecDepth 100000 in
set_option maxHeartbeats 4000000 in
theorem c_X4_accepts_4 (l : Launch) (Z : wZ) (S : St) (h : Hl) (x : Int32) (hw : S 6 0 2 1 = nI 4) : Ci l yX4_accepts cX4_accepts 2 .boolean 3 63 Z [.ref (zA Z (6) (0) (2)), .int (x)] S h (bI (pAcc S x 4).1) ((pAcc S x 4).2) (h) := by
  refine Ci.of rfl (bI_nar _) (Nat.le_of_ble_eq_true rfl) (fun p e s mi args below meth c A0 Q X K => ?_)
  refine j_at rfl rfl (Ls3 := [(0, .ref (zA Z (6) (0) (2))), (1, .int (x))]) rfl rfl ?_
  refine j_aload_n X dX4_accepts_0 rfl rfl (q := 0) rfl ?_
  refine jg_read X 1 (by decide) lk_RX4_18 rfl rfl dX4_accepts_1 rfl ?_
  refine j_topeq (y := (nI (4))) (hw) ?_
  refine j_tableIn X (tgt := 80) dX4_accepts_4 (by decide) (by decide) rfl (by decide) ?_
  refine j_aload_n X dX4_accepts_80 rfl rfl (q := 0) rfl ?_
  refine j_iload_n X dX4_accepts_81 rfl rfl (q := 1) rfl ?_
  refine j_calli X (c_X4_acceptsDigit l Z S h (x)) (wm_top (by decide)) ((fun _ => rfl) _) rfl lk_RX4_51 mi_X4_acceptsDigit ms_X4_acceptsDigit ini_RX4 mc_X4_acceptsDigit md_X4_acceptsDigit ⟨Nat.le_of_ble_eq_true rfl, Nat.le_of_ble_eq_true rfl⟩ ⟨Nat.le_of_ble_eq_true rfl, Nat.le_of_ble_eq_true rfl⟩ rfl (Nat.le_of_ble_eq_true rfl) (as := [.int (x)]) (rest := []) rfl dX4_accepts_82 rfl ?_
  refine j_name (fun S1 eS1 => ?_)
  refine j_ifb_ne X dX4_accepts_85 rfl (tgt := 96) (by decide) (fun c_85 => ?_) (fun c_85 => ?_)
  · refine j_iconst X dX4_accepts_96 rfl (v := 1) (by decide) ?_
    refine j_goto X (tgt := 101) dX4_accepts_97 (by decide) ?_
    exact j_ret (by subst eS1; first | rfl | simp [pAcc, bI, c_85]) (by subst eS1; first | rfl | simp [pAcc, bI, c_85]) rfl (K _ _ dX4_accepts_101)
  · refine j_aload_n X dX4_accepts_88 rfl rfl (q := 0) rfl ?_
    refine j_iload_n X dX4_accepts_89 rfl rfl (q := 1) rfl ?_
    refine j_calli X (c_X4_acceptsEnd l Z S1 h (x)) (wm_top (by decide)) ((fun _ => rfl) _) rfl lk_RX4_54 mi_X4_acceptsEnd ms_X4_acceptsEnd ini_RX4 mc_X4_acceptsEnd md_X4_acceptsEnd ⟨Nat.le_of_ble_eq_true rfl, Nat.le_of_ble_eq_true rfl⟩ ⟨Nat.le_of_ble_eq_true rfl, Nat.le_of_ble_eq_true rfl⟩ rfl (Nat.le_of_ble_eq_true rfl) (as := [.int (x)]) (rest := []) rfl dX4_accepts_90 rfl ?_
    refine j_name (fun S2 eS2 => ?_)
    refine j_ifb_eq X dX4_accepts_93 rfl (tgt := 100) (by decide) (fun c_93 => ?_) (fun c_93 => ?_)
    · refine j_iconst X dX4_accepts_100 rfl (v := 0) (by decide) ?_
      exact j_ret (by subst eS1; subst eS2; first | rfl | simp [pAcc, bI, c_85, c_93]) (by subst eS1; subst eS2; first | rfl | simp [pAcc, bI, c_85, c_93]) rfl (K _ _ dX4_accepts_101)
    · refine j_iconst X dX4_accepts_96 rfl (v := 1) (by decide) ?_
      refine j_goto X (tgt := 101) dX4_accepts_97 (by decide) ?_
      exact j_ret (by subst eS1; subst eS2; first | rfl | simp [pAcc, bI, c_85, c_93]) (by subst eS1; subst eS2; first | rfl | simp [pAcc, bI, c_85, c_93]) rfl (K _ _ dX4_accepts_101)
set_option maxRecDepth 100000 in
set_option maxHeartbeats 4000000 in
theorem c_X4_accepts_5 (l : Launch) (Z : wZ) (S : St) (h : Hl) (x : Int32) (hw : S 6 0 2 1 = nI 5) : Ci l yX4_accepts cX4_accepts 2 .boolean 3 63 Z [.ref (zA Z (6) (0) (2)), .int (x)] S h (bI (pAcc S x 5).1) ((pAcc S x 5).2) (h) := by
  refine Ci.of rfl (bI_nar _) (Nat.le_of_ble_eq_true rfl) (fun p e s mi args below meth c A0 Q X K => ?_)
  refine j_at rfl rfl (Ls3 := [(0, .ref (zA Z (6) (0) (2))), (1, .int (x))]) rfl rfl ?_
  refine j_aload_n X dX4_accepts_0 rfl rfl (q := 0) rfl ?_
  refine jg_read X 1 (by decide) lk_RX4_18 rfl rfl dX4_accepts_1 rfl ?_
  refine j_topeq (y := (nI (5))) (hw) ?_
  refine j_tableOut X (tgt := 102) dX4_accepts_4 (by decide) (by decide) ?_
  refine j_aload_n X dX4_accepts_102 rfl rfl (q := 0) rfl ?_
  refine j_iload_n X dX4_accepts_103 rfl rfl (q := 1) rfl ?_
  refine j_calli X (c_X4_acceptsEnd l Z S h (x)) (wm_top (by decide)) ((fun _ => rfl) _) rfl lk_RX4_54 mi_X4_acceptsEnd ms_X4_acceptsEnd ini_RX4 mc_X4_acceptsEnd md_X4_acceptsEnd ⟨Nat.le_of_ble_eq_true rfl, Nat.le_of_ble_eq_true rfl⟩ ⟨Nat.le_of_ble_eq_true rfl, Nat.le_of_ble_eq_true rfl⟩ rfl (Nat.le_of_ble_eq_true rfl) (as := [.int (x)]) (rest := []) rfl dX4_accepts_104 rfl ?_
  refine j_name (fun S1 eS1 => ?_)
  exact j_ret (by subst eS1; first | rfl | simp [pAcc, bI]) (by subst eS1; first | rfl | simp [pAcc, bI]) rfl (K _ _ dX4_accepts_107)
theorem c_X4_accepts (l : Launch) (Z : wZ) (S : St) (h : Hl) (x : Int32) (hw : okI (S 6 0 2 1) 5) : Ci l yX4_accepts cX4_accepts 2 .boolean 3 63 Z [.ref (zA Z (6) (0) (2)), .int (x)] S h (bI (pAcc S x (S 6 0 2 1).toNatClampNeg).1) (pAcc S x (S 6 0 2 1).toNatClampNeg).2 h := by
  obtain ⟨w, hw5, hk⟩ := okI_ex hw
  have ek : (S 6 0 2 1).toNatClampNeg = w := by rw [hk]; exact nI_clamp (by omega)
  rw [ek]
  match w, hw5, hk with
  | 0, _, hk => exact c_X4_accepts_0 l Z S h x hk
  | 1, _, hk => exact c_X4_accepts_1 l Z S h x hk
  | 2, _, hk => exact c_X4_accepts_2 l Z S h x hk
  | 3, _, hk => exact c_X4_accepts_3 l Z S h x hk
  | 4, _, hk => exact c_X4_accepts_4 l Z S h x hk
  | 5, _, hk => exact c_X4_accepts_5 l Z S h x hk
set_option maxRecDepth 100000 in
set_option maxHeartbeats 4000000 in
theorem L_read (l : Launch) (Z : wZ) (h : Hl) (b : Nat) (hb : b ≤ 120) {p : Program} {e : Env} {s : State} {mi : MethodId} {args : Array Value} {below : List Frame} {meth : Method} {c : Code} {A0 : Nat → Prop} {Q : State → Prop} (X : JX p s mi args meth c cX4_readText 4 yX4_readText.cls Z A0) : ∀ (n k : Nat) (S : St) (r : Int32), k + n = b → okI (S 6 0 2 1) 5 → ((lpE (pRdF) n k (S, r)).1 = true → J p l e { frames := 4, cells := 0, slots := 0, locals := 84 } s mi args below meth c 4 Z A0 0 0 Q ((lpE (pRdF) n k (S, r)).2.1) h [(0, .ref (zA Z (6) (0) (2))), (2, .int (nI (b)))] 44 []) → ((lpE (pRdF) n k (S, r)).1 = false → J p l e { frames := 4, cells := 0, slots := 0, locals := 84 } s mi args below meth c 4 Z A0 0 0 Q ((lpE (pRdF) n k (S, r)).2.1) h [] 37 [.int ((lpE (pRdF) n k (S, r)).2.2)]) → J p l e { frames := 4, cells := 0, slots := 0, locals := 84 } s mi args below meth c 4 Z A0 0 0 Q S h [(3, .int (nI (k))), (0, .ref (zA Z (6) (0) (2))), (1, .ref (zA Z (6) (0) (1))), (2, .int (nI (b)))] 15 [] := by
  intro n
  induction n with
  | zero =>
    intro k S r hkn hI hT hF
    have hkN : b = k := by omega
    subst hkN
    refine j_iload_n X dX4_readText_15 rfl rfl (q := 0) rfl ?_
    refine j_iload_n X dX4_readText_16 rfl rfl (q := 3) rfl ?_
    refine j_icmp_ge_t X (tgt := 44) dX4_readText_17 (by decide) (nI_le (Nat.le_refl _) (by omega)) ?_
    refine j_sub [1, 3] (Ls2 := [(0, .ref (zA Z (6) (0) (2))), (2, .int (nI (b)))]) rfl ?_
    exact hT rfl
  | succ n ih =>
    intro k S r hkn hI hT hF
    have hlt : k < b := by omega
    refine j_iload_n X dX4_readText_15 rfl rfl (q := 0) rfl ?_
    refine j_iload_n X dX4_readText_16 rfl rfl (q := 3) rfl ?_
    refine j_icmp_ge_f X dX4_readText_17 rfl (tgt := 44) (by decide) (nI_ge hlt (by omega)) ?_
    refine j_iload_n X dX4_readText_20 rfl rfl (q := 0) rfl ?_
    refine j_aload_n X dX4_readText_21 rfl rfl (q := 2) rfl ?_
    refine j_alen X (wm_top (by decide)) ((fun _ => rfl) _) dX4_readText_22 rfl ?_
    refine j_icmp_ge_f X dX4_readText_23 rfl (tgt := 44) (by decide) (nI_ge (by omega) (by decide)) ?_
    refine j_aload_n X dX4_readText_26 rfl rfl (q := 1) rfl ?_
    refine j_aload_n X dX4_readText_27 rfl rfl (q := 2) rfl ?_
    refine j_iload_n X dX4_readText_28 rfl rfl (q := 0) rfl ?_
    refine j_ialdN X (k := k) (wm_top (by decide)) ((fun _ => rfl) _) (by omega) (by decide) dX4_readText_29 rfl ?_
    refine j_calli X (c_X4_accepts l Z S h (S 6 0 1 k) hI) (wm_top (by decide)) ((fun _ => rfl) _) rfl lk_RX4_38 mi_X4_accepts ms_X4_accepts ini_RX4 mc_X4_accepts md_X4_accepts ⟨Nat.le_of_ble_eq_true rfl, Nat.le_of_ble_eq_true rfl⟩ ⟨Nat.le_of_ble_eq_true rfl, Nat.le_of_ble_eq_true rfl⟩ rfl (Nat.le_of_ble_eq_true rfl) (as := [.int (S 6 0 1 k)]) (rest := []) rfl dX4_readText_30 rfl ?_
    refine j_name (fun S1 eS1 => ?_)
    refine j_ifb_ne X dX4_readText_33 rfl (tgt := 38) (by decide) (fun c_33 => ?_) (fun c_33 => ?_)
    · refine j_iinc X dX4_readText_38 rfl (q := 0) rfl (v := (nI (k + 1))) (nI_1 _) (by decide) (Ls2 := [(3, .int (nI (k + 1))), (0, .ref (zA Z (6) (0) (2))), (1, .ref (zA Z (6) (0) (1))), (2, .int (nI (b)))]) rfl ?_
      refine j_goto X (tgt := 15) dX4_readText_41 (by decide) ?_
      have eB : (pRdF) k (S, r) = (true, (S1, r)) := by subst eS1; first | rfl | simp [pRdF, c_33]
      have eL : lpE (pRdF) (n + 1) k (S, r) = lpE (pRdF) n (k + 1) (S1, r) := by rw [lpE, eB]; rfl
      rw [eL] at hT hF
      exact ih (k + 1) S1 r (by omega) (by subst eS1; exact pAcc_w hI) hT hF
    · refine j_iload_n X dX4_readText_36 rfl rfl (q := 0) rfl ?_
      have eB : (pRdF) k (S, r) = (false, (S1, (nI (k)))) := by subst eS1; first | rfl | simp [pRdF, c_33]
      have eL : lpE (pRdF) (n + 1) k (S, r) = (false, (S1, (nI (k)))) := by rw [lpE, eB]; rfl
      rw [eL] at hF
      refine j_sub [] (Ls2 := []) rfl ?_
      exact hF rfl
set_option maxRecDepth 100000 in
set_option maxHeartbeats 4000000 in
theorem c_X4_readText (l : Launch) (Z : wZ) (S : St) (h : Hl) (b : Nat) (hb : b ≤ 120) : Ci l yX4_readText cX4_readText 4 .int 4 84 Z [.ref (zA Z (6) (0) (2)), .ref (zA Z (6) (0) (1)), .int (nI (b))] S h ((pRdT S b).1) ((pRdT S b).2) (h) := by
  refine Ci.of rfl rfl (Nat.le_of_ble_eq_true rfl) (fun p e s mi args below meth c A0 Q X K => ?_)
  refine j_at rfl rfl (Ls3 := [(0, .ref (zA Z (6) (0) (2))), (1, .ref (zA Z (6) (0) (1))), (2, .int (nI (b)))]) rfl rfl ?_
  refine j_aload_n X dX4_readText_0 rfl rfl (q := 0) rfl ?_
  refine jg_read X 0 (by decide) lk_RX4_12 rfl rfl dX4_readText_1 rfl ?_
  refine j_iconst X dX4_readText_4 rfl (v := 0) (by decide) ?_
  refine jpN_prog X (Or.inr ⟨rfl, rfl⟩) 2 (by decide) nk_RX4_35 rfl rfl rfl (vp_nar_int _) rfl rfl dX4_readText_5 rfl ?_
  refine j_name (fun S1 eS1 => ?_)
  refine j_aload_n X dX4_readText_8 rfl rfl (q := 0) rfl ?_
  refine j_iconst X dX4_readText_9 rfl (v := 0) (by decide) ?_
  refine jp_read X 1 (by decide) lk_RX4_18 rfl rfl rfl (vp_nar_int _) rfl rfl dX4_readText_10 rfl ?_
  refine j_name (fun S2 eS2 => ?_)
  refine j_iconst X dX4_readText_13 rfl (v := 0) (by decide) ?_
  refine j_istore_n X dX4_readText_14 rfl rfl (by decide) (Ls2 := [(3, .int (0)), (0, .ref (zA Z (6) (0) (2))), (1, .ref (zA Z (6) (0) (1))), (2, .int (nI (b)))]) rfl ?_
  refine j_sub [0, 1, 2, 3] (Ls2 := [(3, .int (0)), (0, .ref (zA Z (6) (0) (2))), (1, .ref (zA Z (6) (0) (1))), (2, .int (nI (b)))]) rfl ?_
  refine L_read l Z h b hb X b 0 S2 0 (by omega) (by subst eS1; subst eS2; simp only [setF_at]; exact okI_lit (k := 0) (by omega) (by omega) _ rfl) (fun hb3 => ?_) (fun hb3 => ?_)
  · refine j_name (fun S4 eS4 => ?_)
    refine j_aload_n X dX4_readText_44 rfl rfl (q := 0) rfl ?_
    refine jg_read X 1 (by decide) lk_RX4_18 rfl rfl dX4_readText_45 rfl ?_
    refine j_if_ne X dX4_readText_48 rfl (tgt := 55) (by decide) (fun c_48 => ?_) (fun c_48 => ?_)
    · refine j_iload_n X dX4_readText_55 rfl rfl (q := 1) rfl ?_
      have hb' : (pRdL S b).1 = true := by subst eS1; subst eS2; subst eS4; exact hb3
      have hc' : ¬ (pRdL S b).2.1 6 0 2 1 = 0 := by subst eS1; subst eS2; subst eS4; exact c_48
      exact j_ret (by subst eS1; subst eS2; subst eS4; rw [pRdT, if_pos hb', if_neg hc']) (by subst eS1; subst eS2; subst eS4; rw [pRdT, if_pos hb']; rfl) rfl (K _ _ dX4_readText_56)
    · refine j_iconst X dX4_readText_51 rfl (v := -1) (by decide) ?_
      refine j_goto X (tgt := 56) dX4_readText_52 (by decide) ?_
      have hb' : (pRdL S b).1 = true := by subst eS1; subst eS2; subst eS4; exact hb3
      have hc' : (pRdL S b).2.1 6 0 2 1 = 0 := by subst eS1; subst eS2; subst eS4; exact c_48
      exact j_ret (by subst eS1; subst eS2; subst eS4; rw [pRdT, if_pos hb', if_pos hc']) (by subst eS1; subst eS2; subst eS4; rw [pRdT, if_pos hb']; rfl) rfl (K _ _ dX4_readText_56)
  · refine j_name (fun S5 eS5 => ?_)
    have hb' : (pRdL S b).1 = false := by subst eS1; subst eS2; subst eS5; exact hb3
    exact j_ret (by subst eS1; subst eS2; subst eS5; rw [pRdT, if_neg (by rw [hb']; decide)]; rfl) (by subst eS1; subst eS2; subst eS5; rw [pRdT, if_neg (by rw [hb']; decide)]; rfl) rfl (K _ _ dX4_readText_37)

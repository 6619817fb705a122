/-! what the methods do, as functions of the state -/
def lp {σ : Type} (f : Nat → σ → σ) : Nat → Nat → σ → σ
  | 0, _, S => S
  | n + 1, k, S => lp f n (k + 1) (f k S)
def lpE {σ : Type} (f : Nat → σ → Bool × σ) : Nat → Nat → σ → Bool × σ
  | 0, _, S => (true, S)
  | n + 1, k, S => if (f k S).1 = true then lpE f n (k + 1) (f k S).2 else (false, (f k S).2)
def pBit (b : Int32) : Int32 := 1 <<< (b &&& 31)
def pContains (a b : Int32) : Bool := !decide (a &&& (1 <<< (b &&& 31)) = 0)
def pIsLine (a : Int32) : Bool := !decide (a < 0) && !decide (8 ≤ a)
def pIsPol (a : Int32) : Bool := !decide (a < 0) && !decide (3 ≤ a)
def pIsRun (a : Int32) : Bool := !decide (a < 0) && !decide (1000 < a)
def pMix (a : Int64) (b : Int32) : Int64 := 31 * a + b.toInt64
def uS (x y : Int32) : Int32 := (x.toUInt32 >>> (y.toUInt32 &&& Int32.toUInt32 31)).toInt32
def pBits1 (x : Int32) : Int32 := x - (uS x 1 &&& 1431655765)
def pBits2 (x : Int32) : Int32 := (x &&& 858993459) + (uS x 2 &&& 858993459)
def pBits3 (x : Int32) : Int32 := (x + uS x 4) &&& 252645135
def pBits4 (x : Int32) : Int32 := x + uS x 8
def pBits5 (x : Int32) : Int32 := x + uS x 16
def pBits (x : Int32) : Int32 := pBits5 (pBits4 (pBits3 (pBits2 (pBits1 x)))) &&& 63
/-! Program -/
def pFull (S : St) (m g : Nat) : Bool := !decide (S m g 3 2 < 30)
def pAddI (S : St) (m g : Nat) (a b : Int32) : St :=
  if S m g 3 2 < 0 then S else if pFull S m g = true then S else
    setF (setF (setF S m g 4 (S m g 3 2).toNatClampNeg a) m g 5 (S m g 3 2).toNatClampNeg b) m g 3 2 (S m g 3 2 + 1)
def pCopyP (S : St) (m g m2 g2 : Nat) : St :=
  let S1 := cpR S m2 g2 4 m g 4 30
  let S2 := cpR S1 m2 g2 5 m g 5 30
  setF S2 m g 3 2 (S2 m2 g2 3 2)
/-! Core -/
def pFin (S : St) (m g : Nat) : Bool := decide (S m g 0 3 < 0) || !decide (S m g 0 3 < S m g 3 2)
def pInT (S : St) (m g : Nat) : Bool := !decide (S m g 0 5 = -1)
def pBegT (S : St) (m g : Nat) (a : Int32) : St :=
  let S1 := setF S m g 0 5 a
  let S2 := setF S1 m g 0 6 (-1)
  let S3 := setF S2 m g 0 7 (S2 m g 0 3)
  setF S3 m g 0 8 (S3 m g 0 4)
def pEndT (S : St) (m g : Nat) : St := setF (setF (setF (setF S m g 0 5 (-1)) m g 0 9 0) m g 0 10 0) m g 0 11 0
def pRollF (m g : Nat) (k : Nat) (S : St) : St := if pContains (S m g 0 10) (nI k) = true then setF S m g 1 k 0 else S
def pRoll (S : St) (m g : Nat) : St :=
  let S1 := lp (pRollF m g) 8 0 S
  let S2 := setF S1 m g 0 6 (S1 m g 0 5)
  let S3 := pEndT S2 m g
  let S4 := setF S3 m g 0 3 (S3 m g 0 7)
  let S5 := setF S4 m g 0 4 (S4 m g 0 8)
  setF S5 m g 0 14 (S5 m g 0 14 + 1)
def pHurt (S : St) (m g : Nat) (a : Int32) (w : Bool) : Bool := pContains (if w = true then S m g 0 9 ||| S m g 0 10 else S m g 0 10) a
def pNoRoom (S : St) (m g : Nat) (a b : Int32) : Bool := pInT S m g && (!pContains (S m g 0 10) a && !decide (pBits (S m g 0 10) < b))
def pNoteA (S : St) (m g k : Nat) : St :=
  if pContains (S m g 0 10 ||| S m g 0 11) (nI k) = true then S else
    let S1 := setF S m g 0 11 (S m g 0 11 ||| 1 <<< (nI k &&& 31))
    setF S1 m g 6 k (S1 m g 2 k)
def pNote (S : St) (m g k : Nat) : St :=
  if pInT S m g = true then setF (pNoteA S m g k) m g 0 9 (pNoteA S m g k m g 0 9 ||| 1 <<< (nI k &&& 31)) else S
def pCFact (S : St) (m g k : Nat) : Int32 := if k = 0 then S m g 0 4 else if k = 1 then S m g 0 3 else if k = 2 then S m g 3 2 else if k = 3 then S m g 0 5 else if k = 4 then S m g 0 13 else S m g 0 14
def pTake (S : St) (m g m2 g2 : Nat) : St := setF (setF (setF (pCopyP S m g m2 g2) m g 0 3 0) m g 0 4 0) m g 0 6 (-1)
def pClearF (m g : Nat) (k : Nat) (S : St) : St := setF (setF S m g 1 k 0) m g 2 k 0
def pClear (S : St) (m g : Nat) : St :=
  let S1 := lp (pClearF m g) 8 0 S
  let S2 := pEndT (setF (setF (setF S1 m g 3 2 0) m g 0 3 0) m g 0 4 0) m g
  setF (setF (setF S2 m g 0 6 (-1)) m g 0 13 0) m g 0 14 0
def cpF (S : St) (m g m2 g2 k : Nat) : St := setF S m g 0 k (S m2 g2 0 k)
def pCopyC (S : St) (m g m2 g2 : Nat) : St :=
  let S1 := pCopyP (cpR (cpR S m2 g2 1 m g 1 8) m2 g2 2 m g 2 8) m g m2 g2
  let S2 := cpF (cpF (cpF (cpF (cpF (cpF (cpF (cpF (cpF S1 m g m2 g2 3) m g m2 g2 4) m g m2 g2 5) m g m2 g2 6) m g m2 g2 7) m g m2 g2 8) m g m2 g2 9) m g m2 g2 10) m g m2 g2 11
  cpF (cpF (cpR S2 m2 g2 6 m g 6 8) m g m2 g2 13) m g m2 g2 14
set_option maxRecDepth 100000 in
set_option maxHeartbeats 4000000 in
theorem c_X5_contains (l : Launch) (Z : wZ) (S : St) (h : Hl) (a b : Int32) : Ci l yX5_contains cX5_contains 2 .boolean 0 0 Z [.int (a), .int (b)] S h (bI (pContains a b)) (S) (h) := by
  refine Ci.of rfl (bI_nar _) (Nat.le_of_ble_eq_true rfl) (fun p e s mi args below meth c A0 Q X K => ?_)
  refine j_at rfl rfl (Ls3 := [(0, .int (a)), (1, .int (b))]) rfl rfl ?_
  refine j_iload_n X dX5_contains_0 rfl rfl (q := 0) rfl ?_
  refine j_iconst X dX5_contains_1 rfl (v := 1) (by decide) ?_
  refine j_iload_n X dX5_contains_2 rfl rfl (q := 1) rfl ?_
  refine j_ishl X dX5_contains_3 rfl ?_
  refine j_iand X dX5_contains_4 rfl ?_
  refine j_if_eq X dX5_contains_5 rfl (tgt := 12) (by decide) (fun c_5 => ?_) (fun c_5 => ?_)
  · refine j_iconst X dX5_contains_12 rfl (v := 0) (by decide) ?_
    exact j_ret (by first | rfl | simp [pContains, bI, c_5]) (by first | rfl | simp [pContains, bI, c_5]) rfl (K _ _ dX5_contains_13)
  · refine j_iconst X dX5_contains_8 rfl (v := 1) (by decide) ?_
    refine j_goto X (tgt := 13) dX5_contains_9 (by decide) ?_
    exact j_ret (by first | rfl | simp [pContains, bI, c_5]) (by first | rfl | simp [pContains, bI, c_5]) rfl (K _ _ dX5_contains_13)
set_option maxRecDepth 100000 in
set_option maxHeartbeats 4000000 in
theorem c_X5_isLine (l : Launch) (Z : wZ) (S : St) (h : Hl) (a : Int32) : Ci l yX5_isLine cX5_isLine 1 .boolean 0 0 Z [.int (a)] S h (bI (pIsLine a)) (S) (h) := by
  refine Ci.of rfl (bI_nar _) (Nat.le_of_ble_eq_true rfl) (fun p e s mi args below meth c A0 Q X K => ?_)
  refine j_at rfl rfl (Ls3 := [(0, .int (a))]) rfl rfl ?_
  refine j_iload_n X dX5_isLine_0 rfl rfl (q := 0) rfl ?_
  refine j_if_lt X dX5_isLine_1 rfl (tgt := 14) (by decide) (fun c_1 => ?_) (fun c_1 => ?_)
  · refine j_iconst X dX5_isLine_14 rfl (v := 0) (by decide) ?_
    exact j_ret (by first | rfl | simp [pIsLine, bI, c_1]) (by first | rfl | simp [pIsLine, bI, c_1]) rfl (K _ _ dX5_isLine_15)
  · refine j_iload_n X dX5_isLine_4 rfl rfl (q := 0) rfl ?_
    refine j_bipush X dX5_isLine_5 rfl (v := 8) (by decide) ?_
    refine j_icmp_ge X dX5_isLine_7 rfl (tgt := 14) (by decide) (fun c_7 => ?_) (fun c_7 => ?_)
    · refine j_iconst X dX5_isLine_14 rfl (v := 0) (by decide) ?_
      exact j_ret (by first | rfl | simp [pIsLine, bI, c_1, c_7]) (by first | rfl | simp [pIsLine, bI, c_1, c_7]) rfl (K _ _ dX5_isLine_15)
    · refine j_iconst X dX5_isLine_10 rfl (v := 1) (by decide) ?_
      refine j_goto X (tgt := 15) dX5_isLine_11 (by decide) ?_
      exact j_ret (by first | rfl | simp [pIsLine, bI, c_1, c_7]) (by first | rfl | simp [pIsLine, bI, c_1, c_7]) rfl (K _ _ dX5_isLine_15)
set_option maxRecDepth 100000 in
set_option maxHeartbeats 4000000 in
theorem c_X5_isPolicy (l : Launch) (Z : wZ) (S : St) (h : Hl) (a : Int32) : Ci l yX5_isPolicy cX5_isPolicy 1 .boolean 0 0 Z [.int (a)] S h (bI (pIsPol a)) (S) (h) := by
  refine Ci.of rfl (bI_nar _) (Nat.le_of_ble_eq_true rfl) (fun p e s mi args below meth c A0 Q X K => ?_)
  refine j_at rfl rfl (Ls3 := [(0, .int (a))]) rfl rfl ?_
  refine j_iload_n X dX5_isPolicy_0 rfl rfl (q := 0) rfl ?_
  refine j_if_lt X dX5_isPolicy_1 rfl (tgt := 13) (by decide) (fun c_1 => ?_) (fun c_1 => ?_)
  · refine j_iconst X dX5_isPolicy_13 rfl (v := 0) (by decide) ?_
    exact j_ret (by first | rfl | simp [pIsPol, bI, c_1]) (by first | rfl | simp [pIsPol, bI, c_1]) rfl (K _ _ dX5_isPolicy_14)
  · refine j_iload_n X dX5_isPolicy_4 rfl rfl (q := 0) rfl ?_
    refine j_iconst X dX5_isPolicy_5 rfl (v := 3) (by decide) ?_
    refine j_icmp_ge X dX5_isPolicy_6 rfl (tgt := 13) (by decide) (fun c_6 => ?_) (fun c_6 => ?_)
    · refine j_iconst X dX5_isPolicy_13 rfl (v := 0) (by decide) ?_
      exact j_ret (by first | rfl | simp [pIsPol, bI, c_1, c_6]) (by first | rfl | simp [pIsPol, bI, c_1, c_6]) rfl (K _ _ dX5_isPolicy_14)
    · refine j_iconst X dX5_isPolicy_9 rfl (v := 1) (by decide) ?_
      refine j_goto X (tgt := 14) dX5_isPolicy_10 (by decide) ?_
      exact j_ret (by first | rfl | simp [pIsPol, bI, c_1, c_6]) (by first | rfl | simp [pIsPol, bI, c_1, c_6]) rfl (K _ _ dX5_isPolicy_14)
set_option maxRecDepth 100000 in
set_option maxHeartbeats 4000000 in
theorem c_X5_isRunLength (l : Launch) (Z : wZ) (S : St) (h : Hl) (a : Int32) : Ci l yX5_isRunLength cX5_isRunLength 1 .boolean 0 0 Z [.int (a)] S h (bI (pIsRun a)) (S) (h) := by
  refine Ci.of rfl (bI_nar _) (Nat.le_of_ble_eq_true rfl) (fun p e s mi args below meth c A0 Q X K => ?_)
  refine j_at rfl rfl (Ls3 := [(0, .int (a))]) rfl rfl ?_
  refine j_iload_n X dX5_isRunLength_0 rfl rfl (q := 0) rfl ?_
  refine j_if_lt X dX5_isRunLength_1 rfl (tgt := 15) (by decide) (fun c_1 => ?_) (fun c_1 => ?_)
  · refine j_iconst X dX5_isRunLength_15 rfl (v := 0) (by decide) ?_
    exact j_ret (by first | rfl | simp [pIsRun, bI, c_1]) (by first | rfl | simp [pIsRun, bI, c_1]) rfl (K _ _ dX5_isRunLength_16)
  · refine j_iload_n X dX5_isRunLength_4 rfl rfl (q := 0) rfl ?_
    refine j_sipush X dX5_isRunLength_5 rfl (v := 1000) (by decide) ?_
    refine j_icmp_gt X dX5_isRunLength_8 rfl (tgt := 15) (by decide) (fun c_8 => ?_) (fun c_8 => ?_)
    · refine j_iconst X dX5_isRunLength_15 rfl (v := 0) (by decide) ?_
      exact j_ret (by first | rfl | simp [pIsRun, bI, c_1, c_8]) (by first | rfl | simp [pIsRun, bI, c_1, c_8]) rfl (K _ _ dX5_isRunLength_16)
    · refine j_iconst X dX5_isRunLength_11 rfl (v := 1) (by decide) ?_
      refine j_goto X (tgt := 16) dX5_isRunLength_12 (by decide) ?_
      exact j_ret (by first | rfl | simp [pIsRun, bI, c_1, c_8]) (by first | rfl | simp [pIsRun, bI, c_1, c_8]) rfl (K _ _ dX5_isRunLength_16)
set_option maxRecDepth 100000 in
set_option maxHeartbeats 4000000 in
theorem c_X5_mix (l : Launch) (Z : wZ) (S : St) (h : Hl) (a : Int64) (b : Int32) : Cl l yX5_mix cX5_mix 3 0 0 Z [.long (a), .int (b)] S h (pMix a b) (S) (h) := by
  refine Cl.of rfl (Nat.le_of_ble_eq_true rfl) (fun p e s mi args below meth c A0 Q X K => ?_)
  refine j_at rfl rfl (Ls3 := [(0, .long (a)), (2, .int (b))]) rfl rfl ?_
  refine j_ldc2 X (v := 31) dX5_mix_0 rfl (List.mem_of_getElem? (i := 301) (by decide +kernel)) ?_
  refine j_lload_n X dX5_mix_3 rfl rfl (q := 0) rfl ?_
  refine j_lmul X dX5_mix_4 rfl ?_
  refine j_iload_n X dX5_mix_5 rfl rfl (q := 1) rfl ?_
  refine j_i2l X dX5_mix_6 rfl ?_
  refine j_ladd X dX5_mix_7 rfl ?_
  exact j_retl (by first | rfl | simp [pMix]) (by first | rfl | simp [pMix]) rfl (K _ _ dX5_mix_8)
set_option maxRecDepth 100000 in
set_option maxHeartbeats 4000000 in
theorem c_J6_bitCount_0f7a4 (l : Launch) (Z : wZ) (S : St) (h : Hl) (a : Int32) : Ci l yJ6_bitCount_0f7a4 cJ6_bitCount_0f7a4 1 .int 0 0 Z [.int (a)] S h (pBits a) (S) (h) := by
  refine Ci.of rfl rfl (Nat.le_of_ble_eq_true rfl) (fun p e s mi args below meth c A0 Q X K => ?_)
  refine j_at rfl rfl (Ls3 := [(0, .int (a))]) rfl rfl ?_
  refine j_iload_n X dJ6_bitCount_0f7a4_0 rfl rfl (q := 0) rfl ?_
  refine j_iload_n X dJ6_bitCount_0f7a4_1 rfl rfl (q := 0) rfl ?_
  refine j_iconst X dJ6_bitCount_0f7a4_2 rfl (v := 1) (by decide) ?_
  refine j_iushr X (v := uS (a) (1)) dJ6_bitCount_0f7a4_3 rfl rfl ?_
  refine j_ldcw X (v := 1431655765) dJ6_bitCount_0f7a4_4 rfl (List.mem_of_getElem? (i := 452) (by decide +kernel)) ?_
  refine j_iand X dJ6_bitCount_0f7a4_7 rfl ?_
  refine j_isub X dJ6_bitCount_0f7a4_8 rfl ?_
  refine j_istore_n X dJ6_bitCount_0f7a4_9 rfl rfl (by decide) (Ls2 := [(0, .int ((a) - ((uS (a) (1)) &&& (1431655765))))]) rfl ?_
  refine j_iload_n X dJ6_bitCount_0f7a4_10 rfl rfl (q := 0) rfl ?_
  refine j_ldcw X (v := 858993459) dJ6_bitCount_0f7a4_11 rfl (List.mem_of_getElem? (i := 453) (by decide +kernel)) ?_
  refine j_iand X dJ6_bitCount_0f7a4_14 rfl ?_
  refine j_iload_n X dJ6_bitCount_0f7a4_15 rfl rfl (q := 0) rfl ?_
  refine j_iconst X dJ6_bitCount_0f7a4_16 rfl (v := 2) (by decide) ?_
  refine j_iushr X (v := uS ((a) - ((uS (a) (1)) &&& (1431655765))) (2)) dJ6_bitCount_0f7a4_17 rfl rfl ?_
  refine j_ldcw X (v := 858993459) dJ6_bitCount_0f7a4_18 rfl (List.mem_of_getElem? (i := 453) (by decide +kernel)) ?_
  refine j_iand X dJ6_bitCount_0f7a4_21 rfl ?_
  refine j_iadd X dJ6_bitCount_0f7a4_22 rfl ?_
  refine j_istore_n X dJ6_bitCount_0f7a4_23 rfl rfl (by decide) (Ls2 := [(0, .int ((((a) - ((uS (a) (1)) &&& (1431655765))) &&& (858993459)) + ((uS ((a) - ((uS (a) (1)) &&& (1431655765))) (2)) &&& (858993459))))]) rfl ?_
  refine j_iload_n X dJ6_bitCount_0f7a4_24 rfl rfl (q := 0) rfl ?_
  refine j_iload_n X dJ6_bitCount_0f7a4_25 rfl rfl (q := 0) rfl ?_
  refine j_iconst X dJ6_bitCount_0f7a4_26 rfl (v := 4) (by decide) ?_
  refine j_iushr X (v := uS ((((a) - ((uS (a) (1)) &&& (1431655765))) &&& (858993459)) + ((uS ((a) - ((uS (a) (1)) &&& (1431655765))) (2)) &&& (858993459))) (4)) dJ6_bitCount_0f7a4_27 rfl rfl ?_
  refine j_iadd X dJ6_bitCount_0f7a4_28 rfl ?_
  refine j_ldcw X (v := 252645135) dJ6_bitCount_0f7a4_29 rfl (List.mem_of_getElem? (i := 454) (by decide +kernel)) ?_
  refine j_iand X dJ6_bitCount_0f7a4_32 rfl ?_
  refine j_istore_n X dJ6_bitCount_0f7a4_33 rfl rfl (by decide) (Ls2 := [(0, .int ((((((a) - ((uS (a) (1)) &&& (1431655765))) &&& (858993459)) + ((uS ((a) - ((uS (a) (1)) &&& (1431655765))) (2)) &&& (858993459))) + (uS ((((a) - ((uS (a) (1)) &&& (1431655765))) &&& (858993459)) + ((uS ((a) - ((uS (a) (1)) &&& (1431655765))) (2)) &&& (858993459))) (4))) &&& (252645135)))]) rfl ?_
  refine j_iload_n X dJ6_bitCount_0f7a4_34 rfl rfl (q := 0) rfl ?_
  refine j_iload_n X dJ6_bitCount_0f7a4_35 rfl rfl (q := 0) rfl ?_
  refine j_bipush X dJ6_bitCount_0f7a4_36 rfl (v := 8) (by decide) ?_
  refine j_iushr X (v := uS ((((((a) - ((uS (a) (1)) &&& (1431655765))) &&& (858993459)) + ((uS ((a) - ((uS (a) (1)) &&& (1431655765))) (2)) &&& (858993459))) + (uS ((((a) - ((uS (a) (1)) &&& (1431655765))) &&& (858993459)) + ((uS ((a) - ((uS (a) (1)) &&& (1431655765))) (2)) &&& (858993459))) (4))) &&& (252645135)) (8)) dJ6_bitCount_0f7a4_38 rfl rfl ?_
  refine j_iadd X dJ6_bitCount_0f7a4_39 rfl ?_
  refine j_istore_n X dJ6_bitCount_0f7a4_40 rfl rfl (by decide) (Ls2 := [(0, .int (((((((a) - ((uS (a) (1)) &&& (1431655765))) &&& (858993459)) + ((uS ((a) - ((uS (a) (1)) &&& (1431655765))) (2)) &&& (858993459))) + (uS ((((a) - ((uS (a) (1)) &&& (1431655765))) &&& (858993459)) + ((uS ((a) - ((uS (a) (1)) &&& (1431655765))) (2)) &&& (858993459))) (4))) &&& (252645135)) + (uS ((((((a) - ((uS (a) (1)) &&& (1431655765))) &&& (858993459)) + ((uS ((a) - ((uS (a) (1)) &&& (1431655765))) (2)) &&& (858993459))) + (uS ((((a) - ((uS (a) (1)) &&& (1431655765))) &&& (858993459)) + ((uS ((a) - ((uS (a) (1)) &&& (1431655765))) (2)) &&& (858993459))) (4))) &&& (252645135)) (8))))]) rfl ?_
  refine j_iload_n X dJ6_bitCount_0f7a4_41 rfl rfl (q := 0) rfl ?_
  refine j_iload_n X dJ6_bitCount_0f7a4_42 rfl rfl (q := 0) rfl ?_
  refine j_bipush X dJ6_bitCount_0f7a4_43 rfl (v := 16) (by decide) ?_
  refine j_iushr X (v := uS (((((((a) - ((uS (a) (1)) &&& (1431655765))) &&& (858993459)) + ((uS ((a) - ((uS (a) (1)) &&& (1431655765))) (2)) &&& (858993459))) + (uS ((((a) - ((uS (a) (1)) &&& (1431655765))) &&& (858993459)) + ((uS ((a) - ((uS (a) (1)) &&& (1431655765))) (2)) &&& (858993459))) (4))) &&& (252645135)) + (uS ((((((a) - ((uS (a) (1)) &&& (1431655765))) &&& (858993459)) + ((uS ((a) - ((uS (a) (1)) &&& (1431655765))) (2)) &&& (858993459))) + (uS ((((a) - ((uS (a) (1)) &&& (1431655765))) &&& (858993459)) + ((uS ((a) - ((uS (a) (1)) &&& (1431655765))) (2)) &&& (858993459))) (4))) &&& (252645135)) (8))) (16)) dJ6_bitCount_0f7a4_45 rfl rfl ?_
  refine j_iadd X dJ6_bitCount_0f7a4_46 rfl ?_
  refine j_istore_n X dJ6_bitCount_0f7a4_47 rfl rfl (by decide) (Ls2 := [(0, .int ((((((((a) - ((uS (a) (1)) &&& (1431655765))) &&& (858993459)) + ((uS ((a) - ((uS (a) (1)) &&& (1431655765))) (2)) &&& (858993459))) + (uS ((((a) - ((uS (a) (1)) &&& (1431655765))) &&& (858993459)) + ((uS ((a) - ((uS (a) (1)) &&& (1431655765))) (2)) &&& (858993459))) (4))) &&& (252645135)) + (uS ((((((a) - ((uS (a) (1)) &&& (1431655765))) &&& (858993459)) + ((uS ((a) - ((uS (a) (1)) &&& (1431655765))) (2)) &&& (858993459))) + (uS ((((a) - ((uS (a) (1)) &&& (1431655765))) &&& (858993459)) + ((uS ((a) - ((uS (a) (1)) &&& (1431655765))) (2)) &&& (858993459))) (4))) &&& (252645135)) (8))) + (uS (((((((a) - ((uS (a) (1)) &&& (1431655765))) &&& (858993459)) + ((uS ((a) - ((uS (a) (1)) &&& (1431655765))) (2)) &&& (858993459))) + (uS ((((a) - ((uS (a) (1)) &&& (1431655765))) &&& (858993459)) + ((uS ((a) - ((uS (a) (1)) &&& (1431655765))) (2)) &&& (858993459))) (4))) &&& (252645135)) + (uS ((((((a) - ((uS (a) (1)) &&& (1431655765))) &&& (858993459)) + ((uS ((a) - ((uS (a) (1)) &&& (1431655765))) (2)) &&& (858993459))) + (uS ((((a) - ((uS (a) (1)) &&& (1431655765))) &&& (858993459)) + ((uS ((a) - ((uS (a) (1)) &&& (1431655765))) (2)) &&& (858993459))) (4))) &&& (252645135)) (8))) (16))))]) rfl ?_
  refine j_iload_n X dJ6_bitCount_0f7a4_48 rfl rfl (q := 0) rfl ?_
  refine j_bipush X dJ6_bitCount_0f7a4_49 rfl (v := 63) (by decide) ?_
  refine j_iand X dJ6_bitCount_0f7a4_51 rfl ?_
  exact j_ret (by first | rfl | simp [pBits, pBits1, pBits2, pBits3, pBits4, pBits5, uS]) (by first | rfl | simp [pBits, pBits1, pBits2, pBits3, pBits4, pBits5, uS]) rfl (K _ _ dJ6_bitCount_0f7a4_52)
set_option maxRecDepth 100000 in
set_option maxHeartbeats 4000000 in
theorem c_X3_isFull (l : Launch) (Z : wZ) (S : St) (h : Hl) (m g : Nat) (hr : isPr m g) : Ci l yX3_isFull cX3_isFull 1 .boolean 0 0 Z [.ref (zA Z (m) (g) (3))] S h (bI (pFull S m g)) (S) (h) := by
  refine Ci.of rfl (bI_nar _) (Nat.le_of_ble_eq_true rfl) (fun p e s mi args below meth c A0 Q X K => ?_)
  refine j_at rfl rfl (Ls3 := [(0, .ref (zA Z (m) (g) (3)))]) rfl rfl ?_
  refine j_aload_n X dX3_isFull_0 rfl rfl (q := 0) rfl ?_
  refine jg_prog X hr 2 (by decide) lk_RX3_18 rfl rfl dX3_isFull_1 rfl ?_
  refine j_bipush X dX3_isFull_4 rfl (v := 30) (by decide) ?_
  refine j_icmp_lt X dX3_isFull_6 rfl (tgt := 13) (by decide) (fun c_6 => ?_) (fun c_6 => ?_)
  · refine j_iconst X dX3_isFull_13 rfl (v := 0) (by decide) ?_
    exact j_ret (by first | rfl | simp [pFull, bI, c_6]) (by first | rfl | simp [pFull, bI, c_6]) rfl (K _ _ dX3_isFull_14)
  · refine j_iconst X dX3_isFull_9 rfl (v := 1) (by decide) ?_
    refine j_goto X (tgt := 14) dX3_isFull_10 (by decide) ?_
    exact j_ret (by first | rfl | simp [pFull, bI, c_6]) (by first | rfl | simp [pFull, bI, c_6]) rfl (K _ _ dX3_isFull_14)
set_option maxRecDepth 100000 in
set_option maxHeartbeats 4000000 in
theorem c_X3_addInstruction (l : Launch) (Z : wZ) (S : St) (h : Hl) (m g : Nat) (hr : isPr m g) (a b : Int32) : Cv l yX3_addInstruction cX3_addInstruction 3 1 20 Z [.ref (zA Z (m) (g) (3)), .int (a), .int (b)] S h (pAddI S m g a b) (h) := by
  refine Cv.of rfl (Nat.le_of_ble_eq_true rfl) (fun p e s mi args below meth c A0 Q X K => ?_)
  refine j_at rfl rfl (Ls3 := [(0, .ref (zA Z (m) (g) (3))), (1, .int (a)), (2, .int (b))]) rfl rfl ?_
  refine j_aload_n X dX3_addInstruction_0 rfl rfl (q := 0) rfl ?_
  refine jg_prog X hr 2 (by decide) lk_RX3_18 rfl rfl dX3_addInstruction_1 rfl ?_
  refine j_topeq (y := (S m g 3 2)) (rfl) ?_
  refine j_if_lt X dX3_addInstruction_4 rfl (tgt := 14) (by decide) (fun c_4 => ?_) (fun c_4 => ?_)
  · exact j_at (by first | rfl | simp [pAddI, c_4]) rfl rfl rfl (K _ _ dX3_addInstruction_14)
  · refine j_aload_n X dX3_addInstruction_7 rfl rfl (q := 0) rfl ?_
    refine j_calli X (c_X3_isFull l Z S h m g hr) (wm_prog hr (by decide)) (wE_prog hr _) rfl lk_RX3_22 mi_X3_isFull ms_X3_isFull ini_RX3 mc_X3_isFull md_X3_isFull ⟨Nat.le_of_ble_eq_true rfl, Nat.le_of_ble_eq_true rfl⟩ ⟨Nat.le_of_ble_eq_true rfl, Nat.le_of_ble_eq_true rfl⟩ rfl (Nat.le_of_ble_eq_true rfl) (as := []) (rest := []) rfl dX3_addInstruction_8 rfl ?_
    refine j_ifb_eq X dX3_addInstruction_11 rfl (tgt := 15) (by decide) (fun c_11 => ?_) (fun c_11 => ?_)
    · refine j_aload_n X dX3_addInstruction_15 rfl rfl (q := 0) rfl ?_
      refine jg_prog X hr 0 (by decide) lk_RX3_9 rfl rfl dX3_addInstruction_16 rfl ?_
      refine j_aload_n X dX3_addInstruction_19 rfl rfl (q := 0) rfl ?_
      refine jg_prog X hr 2 (by decide) lk_RX3_18 rfl rfl dX3_addInstruction_20 rfl ?_
      refine j_topeq (y := (S m g 3 2)) (rfl) ?_
      refine j_iload_n X dX3_addInstruction_23 rfl rfl (q := 1) rfl ?_
      refine j_iastX X (wm_prog hr (by decide)) (fun r => wE_kinds hr r) (vin (N := 30) c_4 (show _ < (30 : Int32) from by simpa [pFull] using c_11) (by decide)) dX3_addInstruction_24 rfl ?_
      refine j_name (fun S1 eS1 => ?_)
      refine j_aload_n X dX3_addInstruction_25 rfl rfl (q := 0) rfl ?_
      refine jg_prog X hr 1 (by decide) lk_RX3_15 rfl rfl dX3_addInstruction_26 rfl ?_
      refine j_aload_n X dX3_addInstruction_29 rfl rfl (q := 0) rfl ?_
      refine jg_prog X hr 2 (by decide) lk_RX3_18 rfl rfl dX3_addInstruction_30 rfl ?_
      refine j_topeq (y := (S m g 3 2)) (by subst eS1; simp [setF_at, cpR_at]) ?_
      refine j_iload_n X dX3_addInstruction_33 rfl rfl (q := 2) rfl ?_
      refine j_iastX X (wm_prog hr (by decide)) (fun r => wE_oper hr r) (vin (N := 30) c_4 (show _ < (30 : Int32) from by simpa [pFull] using c_11) (by decide)) dX3_addInstruction_34 rfl ?_
      refine j_name (fun S2 eS2 => ?_)
      refine j_aload_n X dX3_addInstruction_35 rfl rfl (q := 0) rfl ?_
      refine j_dup X dX3_addInstruction_36 rfl rfl ?_
      refine jg_prog X hr 2 (by decide) lk_RX3_18 rfl rfl dX3_addInstruction_37 rfl ?_
      refine j_topeq (y := (S m g 3 2)) (by subst eS1; subst eS2; simp [setF_at, cpR_at]) ?_
      refine j_iconst X dX3_addInstruction_40 rfl (v := 1) (by decide) ?_
      refine j_iadd X dX3_addInstruction_41 rfl ?_
      refine jp_prog X hr 2 (by decide) lk_RX3_18 rfl rfl rfl (vp_nar_int _) rfl rfl dX3_addInstruction_42 rfl ?_
      refine j_name (fun S3 eS3 => ?_)
      exact j_at (by subst eS1; subst eS2; subst eS3; first | rfl | simp [pAddI, c_4, c_11]) rfl rfl rfl (K _ _ dX3_addInstruction_45)
    · exact j_at (by first | rfl | simp [pAddI, c_4, c_11]) rfl rfl rfl (K _ _ dX3_addInstruction_14)
set_option maxRecDepth 100000 in
set_option maxHeartbeats 4000000 in
theorem c_X3_copyFrom (l : Launch) (Z : wZ) (S : St) (h : Hl) (m g : Nat) (hr : isPr m g) (m2 g2 : Nat) (hr2 : isPr m2 g2) : Cv l yX3_copyFrom cX3_copyFrom 2 1 18 Z [.ref (zA Z (m) (g) (3)), .ref (zA Z (m2) (g2) (3))] S h (pCopyP S m g m2 g2) (h) := by
  refine Cv.of rfl (Nat.le_of_ble_eq_true rfl) (fun p e s mi args below meth c A0 Q X K => ?_)
  refine j_at rfl rfl (Ls3 := [(0, .ref (zA Z (m) (g) (3))), (1, .ref (zA Z (m2) (g2) (3)))]) rfl rfl ?_
  refine j_aload_n X dX3_copyFrom_0 rfl rfl (q := 1) rfl ?_
  refine jg_prog X hr2 0 (by decide) lk_RX3_9 rfl rfl dX3_copyFrom_1 rfl ?_
  refine j_iconst X dX3_copyFrom_4 rfl (v := 0) (by decide) ?_
  refine j_aload_n X dX3_copyFrom_5 rfl rfl (q := 0) rfl ?_
  refine jg_prog X hr 0 (by decide) lk_RX3_9 rfl rfl dX3_copyFrom_6 rfl ?_
  refine j_iconst X dX3_copyFrom_9 rfl (v := 0) (by decide) ?_
  refine j_bipush X dX3_copyFrom_10 rfl (v := 30) (by decide) ?_
  refine j_copyi X (nn := 30) (wm_prog hr2 (by decide)) (wE_kinds hr2 _) (wm_prog hr (by decide)) (fun r => wE_kinds hr r) lk_RX3_26 (by decide) (by decide) (by decide) (Nat.le_of_ble_eq_true rfl) (Nat.le_of_ble_eq_true rfl) dX3_copyFrom_12 rfl ?_
  refine j_name (fun S1 eS1 => ?_)
  refine j_aload_n X dX3_copyFrom_15 rfl rfl (q := 1) rfl ?_
  refine jg_prog X hr2 1 (by decide) lk_RX3_15 rfl rfl dX3_copyFrom_16 rfl ?_
  refine j_iconst X dX3_copyFrom_19 rfl (v := 0) (by decide) ?_
  refine j_aload_n X dX3_copyFrom_20 rfl rfl (q := 0) rfl ?_
  refine jg_prog X hr 1 (by decide) lk_RX3_15 rfl rfl dX3_copyFrom_21 rfl ?_
  refine j_iconst X dX3_copyFrom_24 rfl (v := 0) (by decide) ?_
  refine j_bipush X dX3_copyFrom_25 rfl (v := 30) (by decide) ?_
  refine j_copyi X (nn := 30) (wm_prog hr2 (by decide)) (wE_oper hr2 _) (wm_prog hr (by decide)) (fun r => wE_oper hr r) lk_RX3_26 (by decide) (by decide) (by decide) (Nat.le_of_ble_eq_true rfl) (Nat.le_of_ble_eq_true rfl) dX3_copyFrom_27 rfl ?_
  refine j_name (fun S2 eS2 => ?_)
  refine j_aload_n X dX3_copyFrom_30 rfl rfl (q := 0) rfl ?_
  refine j_aload_n X dX3_copyFrom_31 rfl rfl (q := 1) rfl ?_
  refine jg_prog X hr2 2 (by decide) lk_RX3_18 rfl rfl dX3_copyFrom_32 rfl ?_
  refine jp_prog X hr 2 (by decide) lk_RX3_18 rfl rfl rfl (vp_nar_int _) rfl rfl dX3_copyFrom_35 rfl ?_
  refine j_name (fun S3 eS3 => ?_)
  exact j_at (by subst eS1; subst eS2; subst eS3; first | rfl | simp [pCopyP]) rfl rfl rfl (K _ _ dX3_copyFrom_38)
set_option maxRecDepth 100000 in
set_option maxHeartbeats 4000000 in
theorem c_X0_isFinished (l : Launch) (Z : wZ) (S : St) (h : Hl) (m g : Nat) (hm : m < 6) (hg : g < 4) : Ci l yX0_isFinished cX0_isFinished 1 .boolean 0 0 Z [.ref (zA Z (m) (g) (0))] S h (bI (pFin S m g)) (S) (h) := by
  refine Ci.of rfl (bI_nar _) (Nat.le_of_ble_eq_true rfl) (fun p e s mi args below meth c A0 Q X K => ?_)
  refine j_at rfl rfl (Ls3 := [(0, .ref (zA Z (m) (g) (0)))]) rfl rfl ?_
  refine j_aload_n X dX0_isFinished_0 rfl rfl (q := 0) rfl ?_
  refine jg_core X hm hg 3 (by decide) lk_RX0_38 rfl rfl dX0_isFinished_1 rfl ?_
  refine j_if_lt X dX0_isFinished_4 rfl (tgt := 21) (by decide) (fun c_4 => ?_) (fun c_4 => ?_)
  · refine j_iconst X dX0_isFinished_21 rfl (v := 1) (by decide) ?_
    refine j_goto X (tgt := 26) dX0_isFinished_22 (by decide) ?_
    exact j_ret (by first | rfl | simp [pFin, bI, c_4]) (by first | rfl | simp [pFin, bI, c_4]) rfl (K _ _ dX0_isFinished_26)
  · refine j_aload_n X dX0_isFinished_7 rfl rfl (q := 0) rfl ?_
    refine jg_core X hm hg 3 (by decide) lk_RX0_38 rfl rfl dX0_isFinished_8 rfl ?_
    refine j_aload_n X dX0_isFinished_11 rfl rfl (q := 0) rfl ?_
    refine jg_core X hm hg 2 (by decide) lk_RX0_21 rfl rfl dX0_isFinished_12 rfl ?_
    refine jgN_prog X (Or.inl ⟨hm, hg⟩) 2 (by decide) nk_RX0_35 rfl rfl dX0_isFinished_15 rfl ?_
    refine j_icmp_lt X dX0_isFinished_18 rfl (tgt := 25) (by decide) (fun c_18 => ?_) (fun c_18 => ?_)
    · refine j_iconst X dX0_isFinished_25 rfl (v := 0) (by decide) ?_
      exact j_ret (by first | rfl | simp [pFin, bI, c_4, c_18]) (by first | rfl | simp [pFin, bI, c_4, c_18]) rfl (K _ _ dX0_isFinished_26)
    · refine j_iconst X dX0_isFinished_21 rfl (v := 1) (by decide) ?_
      refine j_goto X (tgt := 26) dX0_isFinished_22 (by decide) ?_
      exact j_ret (by first | rfl | simp [pFin, bI, c_4, c_18]) (by first | rfl | simp [pFin, bI, c_4, c_18]) rfl (K _ _ dX0_isFinished_26)
set_option maxRecDepth 100000 in
set_option maxHeartbeats 4000000 in
theorem c_X0_inTransaction (l : Launch) (Z : wZ) (S : St) (h : Hl) (m g : Nat) (hm : m < 6) (hg : g < 4) : Ci l yX0_inTransaction cX0_inTransaction 1 .boolean 0 0 Z [.ref (zA Z (m) (g) (0))] S h (bI (pInT S m g)) (S) (h) := by
  refine Ci.of rfl (bI_nar _) (Nat.le_of_ble_eq_true rfl) (fun p e s mi args below meth c A0 Q X K => ?_)
  refine j_at rfl rfl (Ls3 := [(0, .ref (zA Z (m) (g) (0)))]) rfl rfl ?_
  refine j_aload_n X dX0_inTransaction_0 rfl rfl (q := 0) rfl ?_
  refine jg_core X hm hg 5 (by decide) lk_RX0_28 rfl rfl dX0_inTransaction_1 rfl ?_
  refine j_iconst X dX0_inTransaction_4 rfl (v := -1) (by decide) ?_
  refine j_icmp_eq X dX0_inTransaction_5 rfl (tgt := 12) (by decide) (fun c_5 => ?_) (fun c_5 => ?_)
  · refine j_iconst X dX0_inTransaction_12 rfl (v := 0) (by decide) ?_
    exact j_ret (by first | rfl | simp [pInT, bI, c_5]) (by first | rfl | simp [pInT, bI, c_5]) rfl (K _ _ dX0_inTransaction_13)
  · refine j_iconst X dX0_inTransaction_8 rfl (v := 1) (by decide) ?_
    refine j_goto X (tgt := 13) dX0_inTransaction_9 (by decide) ?_
    exact j_ret (by first | rfl | simp [pInT, bI, c_5]) (by first | rfl | simp [pInT, bI, c_5]) rfl (K _ _ dX0_inTransaction_13)
set_option maxRecDepth 100000 in
set_option maxHeartbeats 4000000 in
theorem c_X0_beginTransaction (l : Launch) (Z : wZ) (S : St) (h : Hl) (m g : Nat) (hm : m < 6) (hg : g < 4) (a : Int32) : Cv l yX0_beginTransaction cX0_beginTransaction 2 0 0 Z [.ref (zA Z (m) (g) (0)), .int (a)] S h (pBegT S m g a) (h) := by
  refine Cv.of rfl (Nat.le_of_ble_eq_true rfl) (fun p e s mi args below meth c A0 Q X K => ?_)
  refine j_at rfl rfl (Ls3 := [(0, .ref (zA Z (m) (g) (0))), (1, .int (a))]) rfl rfl ?_
  refine j_aload_n X dX0_beginTransaction_0 rfl rfl (q := 0) rfl ?_
  refine j_iload_n X dX0_beginTransaction_1 rfl rfl (q := 1) rfl ?_
  refine jp_core X hm hg 5 (by decide) lk_RX0_28 rfl rfl rfl (vp_nar_int _) rfl rfl dX0_beginTransaction_2 rfl ?_
  refine j_name (fun S1 eS1 => ?_)
  refine j_aload_n X dX0_beginTransaction_5 rfl rfl (q := 0) rfl ?_
  refine j_iconst X dX0_beginTransaction_6 rfl (v := -1) (by decide) ?_
  refine jp_core X hm hg 6 (by decide) lk_RX0_32 rfl rfl rfl (vp_nar_int _) rfl rfl dX0_beginTransaction_7 rfl ?_
  refine j_name (fun S2 eS2 => ?_)
  refine j_aload_n X dX0_beginTransaction_10 rfl rfl (q := 0) rfl ?_
  refine j_aload_n X dX0_beginTransaction_11 rfl rfl (q := 0) rfl ?_
  refine jg_core X hm hg 3 (by decide) lk_RX0_38 rfl rfl dX0_beginTransaction_12 rfl ?_
  refine jp_core X hm hg 7 (by decide) lk_RX0_63 rfl rfl rfl (vp_nar_int _) rfl rfl dX0_beginTransaction_15 rfl ?_
  refine j_name (fun S3 eS3 => ?_)
  refine j_aload_n X dX0_beginTransaction_18 rfl rfl (q := 0) rfl ?_
  refine j_aload_n X dX0_beginTransaction_19 rfl rfl (q := 0) rfl ?_
  refine jg_core X hm hg 4 (by decide) lk_RX0_41 rfl rfl dX0_beginTransaction_20 rfl ?_
  refine jp_core X hm hg 8 (by decide) lk_RX0_66 rfl rfl rfl (vp_nar_int _) rfl rfl dX0_beginTransaction_23 rfl ?_
  refine j_name (fun S4 eS4 => ?_)
  exact j_at (by subst eS1; subst eS2; subst eS3; subst eS4; first | rfl | simp [pBegT]) rfl rfl rfl (K _ _ dX0_beginTransaction_26)
set_option maxRecDepth 100000 in
set_option maxHeartbeats 4000000 in
theorem c_X0_endTransaction (l : Launch) (Z : wZ) (S : St) (h : Hl) (m g : Nat) (hm : m < 6) (hg : g < 4) : Cv l yX0_endTransaction cX0_endTransaction 1 0 0 Z [.ref (zA Z (m) (g) (0))] S h (pEndT S m g) (h) := by
  refine Cv.of rfl (Nat.le_of_ble_eq_true rfl) (fun p e s mi args below meth c A0 Q X K => ?_)
  refine j_at rfl rfl (Ls3 := [(0, .ref (zA Z (m) (g) (0)))]) rfl rfl ?_
  refine j_aload_n X dX0_endTransaction_0 rfl rfl (q := 0) rfl ?_
  refine j_iconst X dX0_endTransaction_1 rfl (v := -1) (by decide) ?_
  refine jp_core X hm hg 5 (by decide) lk_RX0_28 rfl rfl rfl (vp_nar_int _) rfl rfl dX0_endTransaction_2 rfl ?_
  refine j_name (fun S1 eS1 => ?_)
  refine j_aload_n X dX0_endTransaction_5 rfl rfl (q := 0) rfl ?_
  refine j_iconst X dX0_endTransaction_6 rfl (v := 0) (by decide) ?_
  refine jp_core X hm hg 9 (by decide) lk_RX0_69 rfl rfl rfl (vp_nar_int _) rfl rfl dX0_endTransaction_7 rfl ?_
  refine j_name (fun S2 eS2 => ?_)
  refine j_aload_n X dX0_endTransaction_10 rfl rfl (q := 0) rfl ?_
  refine j_iconst X dX0_endTransaction_11 rfl (v := 0) (by decide) ?_
  refine jp_core X hm hg 10 (by decide) lk_RX0_72 rfl rfl rfl (vp_nar_int _) rfl rfl dX0_endTransaction_12 rfl ?_
  refine j_name (fun S3 eS3 => ?_)
  refine j_aload_n X dX0_endTransaction_15 rfl rfl (q := 0) rfl ?_
  refine j_iconst X dX0_endTransaction_16 rfl (v := 0) (by decide) ?_
  refine jp_core X hm hg 11 (by decide) lk_RX0_75 rfl rfl rfl (vp_nar_int _) rfl rfl dX0_endTransaction_17 rfl ?_
  refine j_name (fun S4 eS4 => ?_)
  exact j_at (by subst eS1; subst eS2; subst eS3; subst eS4; first | rfl | simp [pEndT]) rfl rfl rfl (K _ _ dX0_endTransaction_20)
set_option maxRecDepth 100000 in
set_option maxHeartbeats 4000000 in
theorem L_rollBack (l : Launch) (Z : wZ) (h : Hl) (m g : Nat) (hm : m < 6) (hg : g < 4) {p : Program} {e : Env} {s : State} {mi : MethodId} {args : Array Value} {below : List Frame} {meth : Method} {c : Code} {A0 : Nat → Prop} {Q : State → Prop} (X : JX p s mi args meth c cX0_rollBack 2 yX0_rollBack.cls Z A0) : ∀ (n k : Nat) (S : St), k + n = 8 → J p l e { frames := 1, cells := 0, slots := 0, locals := 21 } s mi args below meth c 2 Z A0 0 0 Q ((lp (pRollF m g) n k S)) h [(1, .int (nI (8))), (0, .ref (zA Z (m) (g) (0)))] 32 [] → J p l e { frames := 1, cells := 0, slots := 0, locals := 21 } s mi args below meth c 2 Z A0 0 0 Q S h [(1, .int (nI (k))), (0, .ref (zA Z (m) (g) (0)))] 2 [] := by
  intro n
  induction n with
  | zero =>
    intro k S hkn hk
    have hkN : 8 = k := by omega
    subst hkN
    refine j_iload_n X dX0_rollBack_2 rfl rfl (q := 0) rfl ?_
    refine j_bipush X dX0_rollBack_3 rfl (v := 8) (by decide) ?_
    refine j_icmp_ge_t X (tgt := 32) dX0_rollBack_5 (by decide) (nI_le (Nat.le_refl _) (by decide)) ?_
    exact hk
  | succ n ih =>
    intro k S hkn hk
    have hlt : k < 8 := by omega
    refine j_iload_n X dX0_rollBack_2 rfl rfl (q := 0) rfl ?_
    refine j_bipush X dX0_rollBack_3 rfl (v := 8) (by decide) ?_
    refine j_icmp_ge_f X dX0_rollBack_5 rfl (tgt := 32) (by decide) (nI_ge hlt (by decide)) ?_
    refine j_aload_n X dX0_rollBack_8 rfl rfl (q := 1) rfl ?_
    refine jg_core X hm hg 10 (by decide) lk_RX0_72 rfl rfl dX0_rollBack_9 rfl ?_
    refine j_iload_n X dX0_rollBack_12 rfl rfl (q := 0) rfl ?_
    refine j_callSNi X (c_X5_contains l Z S h (S m g 0 10) (nI (k))) nk_RX0_78 mt_X5_contains ini_RX5 mc_X5_contains md_X5_contains ⟨Nat.le_of_ble_eq_true rfl, Nat.le_of_ble_eq_true rfl⟩ ⟨Nat.le_of_ble_eq_true rfl, Nat.le_of_ble_eq_true rfl⟩ rfl (Nat.le_of_ble_eq_true rfl) (as := [.int (S m g 0 10), .int (nI (k))]) (rest := []) rfl dX0_rollBack_13 rfl ?_
    refine j_ifb_eq X dX0_rollBack_16 rfl (tgt := 26) (by decide) (fun c_16 => ?_) (fun c_16 => ?_)
    · refine j_iinc X dX0_rollBack_26 rfl (q := 0) rfl (v := (nI (k + 1))) (nI_1 _) (by decide) (Ls2 := [(1, .int (nI (k + 1))), (0, .ref (zA Z (m) (g) (0)))]) rfl ?_
      refine j_goto X (tgt := 2) dX0_rollBack_29 (by decide) ?_
      have eB : (pRollF m g) k S = S := by first | rfl | simp [pRollF, c_16]
      have eL : lp (pRollF m g) (n + 1) k S = lp (pRollF m g) n (k + 1) S := congrArg (lp (pRollF m g) n (k + 1)) eB
      rw [eL] at hk
      exact ih (k + 1) S (by omega) hk
    · refine j_aload_n X dX0_rollBack_19 rfl rfl (q := 1) rfl ?_
      refine jg_core X hm hg 0 (by decide) lk_RX0_9 rfl rfl dX0_rollBack_20 rfl ?_
      refine j_iload_n X dX0_rollBack_23 rfl rfl (q := 0) rfl ?_
      refine j_iconst X dX0_rollBack_24 rfl (v := 0) (by decide) ?_
      refine j_iastN X (k := k) (wm_core hm hg (by decide)) (fun r => wE_core hm hg 1 r) hlt (by decide) dX0_rollBack_25 rfl ?_
      refine j_name (fun S1 eS1 => ?_)
      refine j_iinc X dX0_rollBack_26 rfl (q := 0) rfl (v := (nI (k + 1))) (nI_1 _) (by decide) (Ls2 := [(1, .int (nI (k + 1))), (0, .ref (zA Z (m) (g) (0)))]) rfl ?_
      refine j_goto X (tgt := 2) dX0_rollBack_29 (by decide) ?_
      have eB : (pRollF m g) k S = S1 := by subst eS1; first | rfl | simp [pRollF, c_16]
      have eL : lp (pRollF m g) (n + 1) k S = lp (pRollF m g) n (k + 1) S1 := congrArg (lp (pRollF m g) n (k + 1)) eB
      rw [eL] at hk
      exact ih (k + 1) S1 (by omega) hk
set_option maxRecDepth 100000 in
set_option maxHeartbeats 4000000 in
theorem c_X0_rollBack (l : Launch) (Z : wZ) (S : St) (h : Hl) (m g : Nat) (hm : m < 6) (hg : g < 4) : Cv l yX0_rollBack cX0_rollBack 2 1 21 Z [.ref (zA Z (m) (g) (0))] S h (pRoll S m g) (h) := by
  refine Cv.of rfl (Nat.le_of_ble_eq_true rfl) (fun p e s mi args below meth c A0 Q X K => ?_)
  refine j_at rfl rfl (Ls3 := [(0, .ref (zA Z (m) (g) (0)))]) rfl rfl ?_
  refine j_iconst X dX0_rollBack_0 rfl (v := 0) (by decide) ?_
  refine j_istore_n X dX0_rollBack_1 rfl rfl (by decide) (Ls2 := [(1, .int (0)), (0, .ref (zA Z (m) (g) (0)))]) rfl ?_
  refine j_sub [0, 1] (Ls2 := [(1, .int (0)), (0, .ref (zA Z (m) (g) (0)))]) rfl ?_
  refine L_rollBack l Z h m g hm hg X 8 0 S (by omega) ?_
  refine j_name (fun S1 eS1 => ?_)
  refine j_aload_n X dX0_rollBack_32 rfl rfl (q := 1) rfl ?_
  refine j_aload_n X dX0_rollBack_33 rfl rfl (q := 1) rfl ?_
  refine jg_core X hm hg 5 (by decide) lk_RX0_28 rfl rfl dX0_rollBack_34 rfl ?_
  refine jp_core X hm hg 6 (by decide) lk_RX0_32 rfl rfl rfl (vp_nar_int _) rfl rfl dX0_rollBack_37 rfl ?_
  refine j_name (fun S2 eS2 => ?_)
  refine j_aload_n X dX0_rollBack_40 rfl rfl (q := 1) rfl ?_
  refine j_callv X (c_X0_endTransaction l Z S2 h m g hm hg ) (wm_core hm hg (by decide)) (wE_core hm hg 0 _) rfl lk_RX0_44 mi_X0_endTransaction ms_X0_endTransaction ini_RX0 mc_X0_endTransaction md_X0_endTransaction ⟨Nat.le_of_ble_eq_true rfl, Nat.le_of_ble_eq_true rfl⟩ ⟨Nat.le_of_ble_eq_true rfl, Nat.le_of_ble_eq_true rfl⟩ rfl (Nat.le_of_ble_eq_true rfl) (as := []) (rest := []) rfl dX0_rollBack_41 rfl ?_
  refine j_name (fun S3 eS3 => ?_)
  refine j_aload_n X dX0_rollBack_44 rfl rfl (q := 1) rfl ?_
  refine j_aload_n X dX0_rollBack_45 rfl rfl (q := 1) rfl ?_
  refine jg_core X hm hg 7 (by decide) lk_RX0_63 rfl rfl dX0_rollBack_46 rfl ?_
  refine jp_core X hm hg 3 (by decide) lk_RX0_38 rfl rfl rfl (vp_nar_int _) rfl rfl dX0_rollBack_49 rfl ?_
  refine j_name (fun S4 eS4 => ?_)
  refine j_aload_n X dX0_rollBack_52 rfl rfl (q := 1) rfl ?_
  refine j_aload_n X dX0_rollBack_53 rfl rfl (q := 1) rfl ?_
  refine jg_core X hm hg 8 (by decide) lk_RX0_66 rfl rfl dX0_rollBack_54 rfl ?_
  refine jp_core X hm hg 4 (by decide) lk_RX0_41 rfl rfl rfl (vp_nar_int _) rfl rfl dX0_rollBack_57 rfl ?_
  refine j_name (fun S5 eS5 => ?_)
  refine j_aload_n X dX0_rollBack_60 rfl rfl (q := 1) rfl ?_
  refine j_dup X dX0_rollBack_61 rfl rfl ?_
  refine jg_core X hm hg 14 (by decide) lk_RX0_50 rfl rfl dX0_rollBack_62 rfl ?_
  refine j_iconst X dX0_rollBack_65 rfl (v := 1) (by decide) ?_
  refine j_iadd X dX0_rollBack_66 rfl ?_
  refine jp_core X hm hg 14 (by decide) lk_RX0_50 rfl rfl rfl (vp_nar_int _) rfl rfl dX0_rollBack_67 rfl ?_
  refine j_name (fun S6 eS6 => ?_)
  exact j_at (by subst eS1; subst eS2; subst eS3; subst eS4; subst eS5; subst eS6; first | rfl | simp [pRoll]) rfl rfl rfl (K _ _ dX0_rollBack_70)
set_option maxRecDepth 100000 in
set_option maxHeartbeats 4000000 in
theorem c_X0_isHurtBy (l : Launch) (Z : wZ) (S : St) (h : Hl) (m g : Nat) (hm : m < 6) (hg : g < 4) (a : Int32) (w : Bool) : Ci l yX0_isHurtBy cX0_isHurtBy 3 .boolean 1 21 Z [.ref (zA Z (m) (g) (0)), .int (a), .int (bI (w))] S h (bI (pHurt S m g a w)) (S) (h) := by
  refine Ci.of rfl (bI_nar _) (Nat.le_of_ble_eq_true rfl) (fun p e s mi args below meth c A0 Q X K => ?_)
  refine j_at rfl rfl (Ls3 := [(0, .ref (zA Z (m) (g) (0))), (1, .int (a)), (2, .int (bI (w)))]) rfl rfl ?_
  refine j_iload_n X dX0_isHurtBy_0 rfl rfl (q := 2) rfl ?_
  refine j_ifb_eq X dX0_isHurtBy_1 rfl (tgt := 16) (by decide) (fun c_1 => ?_) (fun c_1 => ?_)
  · refine j_aload_n X dX0_isHurtBy_16 rfl rfl (q := 0) rfl ?_
    refine jg_core X hm hg 10 (by decide) lk_RX0_72 rfl rfl dX0_isHurtBy_17 rfl ?_
    refine j_iload_n X dX0_isHurtBy_20 rfl rfl (q := 1) rfl ?_
    refine j_callSNi X (c_X5_contains l Z S h (S m g 0 10) (a)) nk_RX0_78 mt_X5_contains ini_RX5 mc_X5_contains md_X5_contains ⟨Nat.le_of_ble_eq_true rfl, Nat.le_of_ble_eq_true rfl⟩ ⟨Nat.le_of_ble_eq_true rfl, Nat.le_of_ble_eq_true rfl⟩ rfl (Nat.le_of_ble_eq_true rfl) (as := [.int (S m g 0 10), .int (a)]) (rest := []) rfl dX0_isHurtBy_21 rfl ?_
    exact j_ret (by first | rfl | simp [pHurt, c_1]) (by first | rfl | simp [pHurt, c_1]) rfl (K _ _ dX0_isHurtBy_24)
  · refine j_aload_n X dX0_isHurtBy_4 rfl rfl (q := 0) rfl ?_
    refine jg_core X hm hg 9 (by decide) lk_RX0_69 rfl rfl dX0_isHurtBy_5 rfl ?_
    refine j_aload_n X dX0_isHurtBy_8 rfl rfl (q := 0) rfl ?_
    refine jg_core X hm hg 10 (by decide) lk_RX0_72 rfl rfl dX0_isHurtBy_9 rfl ?_
    refine j_ior X dX0_isHurtBy_12 rfl ?_
    refine j_goto X (tgt := 20) dX0_isHurtBy_13 (by decide) ?_
    refine j_iload_n X dX0_isHurtBy_20 rfl rfl (q := 1) rfl ?_
    refine j_callSNi X (c_X5_contains l Z S h ((S m g 0 9) ||| (S m g 0 10)) (a)) nk_RX0_78 mt_X5_contains ini_RX5 mc_X5_contains md_X5_contains ⟨Nat.le_of_ble_eq_true rfl, Nat.le_of_ble_eq_true rfl⟩ ⟨Nat.le_of_ble_eq_true rfl, Nat.le_of_ble_eq_true rfl⟩ rfl (Nat.le_of_ble_eq_true rfl) (as := [.int ((S m g 0 9) ||| (S m g 0 10)), .int (a)]) (rest := []) rfl dX0_isHurtBy_21 rfl ?_
    exact j_ret (by first | rfl | simp [pHurt, c_1]) (by first | rfl | simp [pHurt, c_1]) rfl (K _ _ dX0_isHurtBy_24)
set_option maxRecDepth 100000 in
set_option maxHeartbeats 4000000 in
theorem c_X0_hasNoRoomFor (l : Launch) (Z : wZ) (S : St) (h : Hl) (m g : Nat) (hm : m < 6) (hg : g < 4) (a b : Int32) : Ci l yX0_hasNoRoomFor cX0_hasNoRoomFor 3 .boolean 1 21 Z [.ref (zA Z (m) (g) (0)), .int (a), .int (b)] S h (bI (pNoRoom S m g a b)) (S) (h) := by
  refine Ci.of rfl (bI_nar _) (Nat.le_of_ble_eq_true rfl) (fun p e s mi args below meth c A0 Q X K => ?_)
  refine j_at rfl rfl (Ls3 := [(0, .ref (zA Z (m) (g) (0))), (1, .int (a)), (2, .int (b))]) rfl rfl ?_
  refine j_aload_n X dX0_hasNoRoomFor_0 rfl rfl (q := 0) rfl ?_
  refine j_calli X (c_X0_inTransaction l Z S h m g hm hg ) (wm_core hm hg (by decide)) (wE_core hm hg 0 _) rfl lk_RX0_82 mi_X0_inTransaction ms_X0_inTransaction ini_RX0 mc_X0_inTransaction md_X0_inTransaction ⟨Nat.le_of_ble_eq_true rfl, Nat.le_of_ble_eq_true rfl⟩ ⟨Nat.le_of_ble_eq_true rfl, Nat.le_of_ble_eq_true rfl⟩ rfl (Nat.le_of_ble_eq_true rfl) (as := []) (rest := []) rfl dX0_hasNoRoomFor_1 rfl ?_
  refine j_ifb_eq X dX0_hasNoRoomFor_4 rfl (tgt := 33) (by decide) (fun c_4 => ?_) (fun c_4 => ?_)
  · refine j_iconst X dX0_hasNoRoomFor_33 rfl (v := 0) (by decide) ?_
    exact j_ret (by first | rfl | simp [pNoRoom, bI, c_4]) (by first | rfl | simp [pNoRoom, bI, c_4]) rfl (K _ _ dX0_hasNoRoomFor_34)
  · refine j_aload_n X dX0_hasNoRoomFor_7 rfl rfl (q := 0) rfl ?_
    refine jg_core X hm hg 10 (by decide) lk_RX0_72 rfl rfl dX0_hasNoRoomFor_8 rfl ?_
    refine j_iload_n X dX0_hasNoRoomFor_11 rfl rfl (q := 1) rfl ?_
    refine j_callSNi X (c_X5_contains l Z S h (S m g 0 10) (a)) nk_RX0_78 mt_X5_contains ini_RX5 mc_X5_contains md_X5_contains ⟨Nat.le_of_ble_eq_true rfl, Nat.le_of_ble_eq_true rfl⟩ ⟨Nat.le_of_ble_eq_true rfl, Nat.le_of_ble_eq_true rfl⟩ rfl (Nat.le_of_ble_eq_true rfl) (as := [.int (S m g 0 10), .int (a)]) (rest := []) rfl dX0_hasNoRoomFor_12 rfl ?_
    refine j_ifb_ne X dX0_hasNoRoomFor_15 rfl (tgt := 33) (by decide) (fun c_15 => ?_) (fun c_15 => ?_)
    · refine j_iconst X dX0_hasNoRoomFor_33 rfl (v := 0) (by decide) ?_
      exact j_ret (by first | rfl | simp [pNoRoom, bI, c_4, c_15]) (by first | rfl | simp [pNoRoom, bI, c_4, c_15]) rfl (K _ _ dX0_hasNoRoomFor_34)
    · refine j_aload_n X dX0_hasNoRoomFor_18 rfl rfl (q := 0) rfl ?_
      refine jg_core X hm hg 10 (by decide) lk_RX0_72 rfl rfl dX0_hasNoRoomFor_19 rfl ?_
      refine j_callSOi X (c_J6_bitCount_0f7a4 l Z S h (S m g 0 10)) lk_RX0_86 mt_J6_bitCount_0f7a4 ini_RJ6 mc_J6_bitCount_0f7a4 md_J6_bitCount_0f7a4 ⟨Nat.le_of_ble_eq_true rfl, Nat.le_of_ble_eq_true rfl⟩ ⟨Nat.le_of_ble_eq_true rfl, Nat.le_of_ble_eq_true rfl⟩ rfl (Nat.le_of_ble_eq_true rfl) (as := [.int (S m g 0 10)]) (rest := []) rfl dX0_hasNoRoomFor_22 rfl ?_
      refine j_iload_n X dX0_hasNoRoomFor_25 rfl rfl (q := 2) rfl ?_
      refine j_icmp_lt X dX0_hasNoRoomFor_26 rfl (tgt := 33) (by decide) (fun c_26 => ?_) (fun c_26 => ?_)
      · refine j_iconst X dX0_hasNoRoomFor_33 rfl (v := 0) (by decide) ?_
        exact j_ret (by first | rfl | simp [pNoRoom, bI, c_4, c_15, c_26]) (by first | rfl | simp [pNoRoom, bI, c_4, c_15, c_26]) rfl (K _ _ dX0_hasNoRoomFor_34)
      · refine j_iconst X dX0_hasNoRoomFor_29 rfl (v := 1) (by decide) ?_
        refine j_goto X (tgt := 34) dX0_hasNoRoomFor_30 (by decide) ?_
        exact j_ret (by first | rfl | simp [pNoRoom, bI, c_4, c_15, c_26]) (by first | rfl | simp [pNoRoom, bI, c_4, c_15, c_26]) rfl (K _ _ dX0_hasNoRoomFor_34)
set_option maxRecDepth 100000 in
set_option maxHeartbeats 4000000 in
theorem c_X0_noteRead (l : Launch) (Z : wZ) (S : St) (h : Hl) (m g : Nat) (hm : m < 6) (hg : g < 4) (k : Nat) (hk : k < 8) : Cv l yX0_noteRead cX0_noteRead 2 1 21 Z [.ref (zA Z (m) (g) (0)), .int (nI (k))] S h (pNote S m g k) (h) := by
  refine Cv.of rfl (Nat.le_of_ble_eq_true rfl) (fun p e s mi args below meth c A0 Q X K => ?_)
  refine j_at rfl rfl (Ls3 := [(0, .ref (zA Z (m) (g) (0))), (1, .int (nI (k)))]) rfl rfl ?_
  refine j_aload_n X dX0_noteRead_0 rfl rfl (q := 0) rfl ?_
  refine j_calli X (c_X0_inTransaction l Z S h m g hm hg ) (wm_core hm hg (by decide)) (wE_core hm hg 0 _) rfl lk_RX0_82 mi_X0_inTransaction ms_X0_inTransaction ini_RX0 mc_X0_inTransaction md_X0_inTransaction ⟨Nat.le_of_ble_eq_true rfl, Nat.le_of_ble_eq_true rfl⟩ ⟨Nat.le_of_ble_eq_true rfl, Nat.le_of_ble_eq_true rfl⟩ rfl (Nat.le_of_ble_eq_true rfl) (as := []) (rest := []) rfl dX0_noteRead_1 rfl ?_
  refine j_ifb_ne X dX0_noteRead_4 rfl (tgt := 8) (by decide) (fun c_4 => ?_) (fun c_4 => ?_)
  · refine j_aload_n X dX0_noteRead_8 rfl rfl (q := 0) rfl ?_
    refine jg_core X hm hg 10 (by decide) lk_RX0_72 rfl rfl dX0_noteRead_9 rfl ?_
    refine j_aload_n X dX0_noteRead_12 rfl rfl (q := 0) rfl ?_
    refine jg_core X hm hg 11 (by decide) lk_RX0_75 rfl rfl dX0_noteRead_13 rfl ?_
    refine j_ior X dX0_noteRead_16 rfl ?_
    refine j_iload_n X dX0_noteRead_17 rfl rfl (q := 1) rfl ?_
    refine j_callSNi X (c_X5_contains l Z S h ((S m g 0 10) ||| (S m g 0 11)) (nI (k))) nk_RX0_78 mt_X5_contains ini_RX5 mc_X5_contains md_X5_contains ⟨Nat.le_of_ble_eq_true rfl, Nat.le_of_ble_eq_true rfl⟩ ⟨Nat.le_of_ble_eq_true rfl, Nat.le_of_ble_eq_true rfl⟩ rfl (Nat.le_of_ble_eq_true rfl) (as := [.int ((S m g 0 10) ||| (S m g 0 11)), .int (nI (k))]) (rest := []) rfl dX0_noteRead_18 rfl ?_
    refine j_ifb_ne X dX0_noteRead_21 rfl (tgt := 48) (by decide) (fun c_21 => ?_) (fun c_21 => ?_)
    · refine j_aload_n X dX0_noteRead_48 rfl rfl (q := 0) rfl ?_
      refine j_dup X dX0_noteRead_49 rfl rfl ?_
      refine jg_core X hm hg 9 (by decide) lk_RX0_69 rfl rfl dX0_noteRead_50 rfl ?_
      refine j_iconst X dX0_noteRead_53 rfl (v := 1) (by decide) ?_
      refine j_iload_n X dX0_noteRead_54 rfl rfl (q := 1) rfl ?_
      refine j_ishl X dX0_noteRead_55 rfl ?_
      refine j_ior X dX0_noteRead_56 rfl ?_
      refine jp_core X hm hg 9 (by decide) lk_RX0_69 rfl rfl rfl (vp_nar_int _) rfl rfl dX0_noteRead_57 rfl ?_
      refine j_name (fun S1 eS1 => ?_)
      exact j_at (by subst eS1; first | rfl | simp [pNote, pNoteA, c_4, c_21]) rfl rfl rfl (K _ _ dX0_noteRead_60)
    · refine j_aload_n X dX0_noteRead_24 rfl rfl (q := 0) rfl ?_
      refine j_dup X dX0_noteRead_25 rfl rfl ?_
      refine jg_core X hm hg 11 (by decide) lk_RX0_75 rfl rfl dX0_noteRead_26 rfl ?_
      refine j_iconst X dX0_noteRead_29 rfl (v := 1) (by decide) ?_
      refine j_iload_n X dX0_noteRead_30 rfl rfl (q := 1) rfl ?_
      refine j_ishl X dX0_noteRead_31 rfl ?_
      refine j_ior X dX0_noteRead_32 rfl ?_
      refine jp_core X hm hg 11 (by decide) lk_RX0_75 rfl rfl rfl (vp_nar_int _) rfl rfl dX0_noteRead_33 rfl ?_
      refine j_name (fun S2 eS2 => ?_)
      refine j_aload_n X dX0_noteRead_36 rfl rfl (q := 0) rfl ?_
      refine jg_core X hm hg 12 (by decide) lk_RX0_25 rfl rfl dX0_noteRead_37 rfl ?_
      refine j_iload_n X dX0_noteRead_40 rfl rfl (q := 1) rfl ?_
      refine j_aload_n X dX0_noteRead_41 rfl rfl (q := 0) rfl ?_
      refine jg_core X hm hg 1 (by decide) lk_RX0_15 rfl rfl dX0_noteRead_42 rfl ?_
      refine j_iload_n X dX0_noteRead_45 rfl rfl (q := 1) rfl ?_
      refine j_ialdN X (k := k) (wm_core hm hg (by decide)) (wE_core hm hg 2 _) hk (by decide) dX0_noteRead_46 rfl ?_
      refine j_iastN X (k := k) (wm_core hm hg (by decide)) (fun r => wE_core hm hg 6 r) hk (by decide) dX0_noteRead_47 rfl ?_
      refine j_name (fun S3 eS3 => ?_)
      refine j_aload_n X dX0_noteRead_48 rfl rfl (q := 0) rfl ?_
      refine j_dup X dX0_noteRead_49 rfl rfl ?_
      refine jg_core X hm hg 9 (by decide) lk_RX0_69 rfl rfl dX0_noteRead_50 rfl ?_
      refine j_iconst X dX0_noteRead_53 rfl (v := 1) (by decide) ?_
      refine j_iload_n X dX0_noteRead_54 rfl rfl (q := 1) rfl ?_
      refine j_ishl X dX0_noteRead_55 rfl ?_
      refine j_ior X dX0_noteRead_56 rfl ?_
      refine jp_core X hm hg 9 (by decide) lk_RX0_69 rfl rfl rfl (vp_nar_int _) rfl rfl dX0_noteRead_57 rfl ?_
      refine j_name (fun S4 eS4 => ?_)
      exact j_at (by subst eS2; subst eS3; subst eS4; first | rfl | simp [pNote, pNoteA, c_4, c_21]) rfl rfl rfl (K _ _ dX0_noteRead_60)
  · exact j_at (by first | rfl | simp [pNote, pNoteA, c_4]) rfl rfl rfl (K _ _ dX0_noteRead_7)
set_option maxRecDepth 100000 in
set_option maxHeartbeats 4000000 in
theorem c_X0_takeProgram (l : Launch) (Z : wZ) (S : St) (h : Hl) (m g : Nat) (hm : m < 6) (hg : g < 4) (m2 g2 : Nat) (hr2 : isPr m2 g2) : Cv l yX0_takeProgram cX0_takeProgram 2 2 39 Z [.ref (zA Z (m) (g) (0)), .ref (zA Z (m2) (g2) (3))] S h (pTake S m g m2 g2) (h) := by
  refine Cv.of rfl (Nat.le_of_ble_eq_true rfl) (fun p e s mi args below meth c A0 Q X K => ?_)
  refine j_at rfl rfl (Ls3 := [(0, .ref (zA Z (m) (g) (0))), (1, .ref (zA Z (m2) (g2) (3)))]) rfl rfl ?_
  refine j_aload_n X dX0_takeProgram_0 rfl rfl (q := 0) rfl ?_
  refine jg_core X hm hg 2 (by decide) lk_RX0_21 rfl rfl dX0_takeProgram_1 rfl ?_
  refine j_aload_n X dX0_takeProgram_4 rfl rfl (q := 1) rfl ?_
  refine j_callNv X (c_X3_copyFrom l Z S h m g (Or.inl ⟨hm, hg⟩) m2 g2 hr2) (wm_prog (Or.inl ⟨hm, hg⟩) (by decide)) (wE_prog (Or.inl ⟨hm, hg⟩) _) rfl nk_RX0_59 mi_X3_copyFrom ms_X3_copyFrom ini_RX3 mc_X3_copyFrom md_X3_copyFrom ⟨Nat.le_of_ble_eq_true rfl, Nat.le_of_ble_eq_true rfl⟩ ⟨Nat.le_of_ble_eq_true rfl, Nat.le_of_ble_eq_true rfl⟩ rfl (Nat.le_of_ble_eq_true rfl) (as := [.ref (zA Z (m2) (g2) (3))]) (rest := []) rfl dX0_takeProgram_5 rfl ?_
  refine j_name (fun S1 eS1 => ?_)
  refine j_aload_n X dX0_takeProgram_8 rfl rfl (q := 0) rfl ?_
  refine j_iconst X dX0_takeProgram_9 rfl (v := 0) (by decide) ?_
  refine jp_core X hm hg 3 (by decide) lk_RX0_38 rfl rfl rfl (vp_nar_int _) rfl rfl dX0_takeProgram_10 rfl ?_
  refine j_name (fun S2 eS2 => ?_)
  refine j_aload_n X dX0_takeProgram_13 rfl rfl (q := 0) rfl ?_
  refine j_iconst X dX0_takeProgram_14 rfl (v := 0) (by decide) ?_
  refine jp_core X hm hg 4 (by decide) lk_RX0_41 rfl rfl rfl (vp_nar_int _) rfl rfl dX0_takeProgram_15 rfl ?_
  refine j_name (fun S3 eS3 => ?_)
  refine j_aload_n X dX0_takeProgram_18 rfl rfl (q := 0) rfl ?_
  refine j_iconst X dX0_takeProgram_19 rfl (v := -1) (by decide) ?_
  refine jp_core X hm hg 6 (by decide) lk_RX0_32 rfl rfl rfl (vp_nar_int _) rfl rfl dX0_takeProgram_20 rfl ?_
  refine j_name (fun S4 eS4 => ?_)
  exact j_at (by subst eS1; subst eS2; subst eS3; subst eS4; first | rfl | simp [pTake]) rfl rfl rfl (K _ _ dX0_takeProgram_23)
set_option maxRecDepth 100000 in
set_option maxHeartbeats 4000000 in
theorem L_clear (l : Launch) (Z : wZ) (h : Hl) (m g : Nat) (hm : m < 6) (hg : g < 4) {p : Program} {e : Env} {s : State} {mi : MethodId} {args : Array Value} {below : List Frame} {meth : Method} {c : Code} {A0 : Nat → Prop} {Q : State → Prop} (X : JX p s mi args meth c cX0_clear 2 yX0_clear.cls Z A0) : ∀ (n k : Nat) (S : St), k + n = 8 → J p l e { frames := 1, cells := 0, slots := 0, locals := 20 } s mi args below meth c 2 Z A0 0 0 Q ((lp (pClearF m g) n k S)) h [(1, .int (nI (8))), (0, .ref (zA Z (m) (g) (0)))] 28 [] → J p l e { frames := 1, cells := 0, slots := 0, locals := 20 } s mi args below meth c 2 Z A0 0 0 Q S h [(1, .int (nI (k))), (0, .ref (zA Z (m) (g) (0)))] 2 [] := by
  intro n
  induction n with
  | zero =>
    intro k S hkn hk
    have hkN : 8 = k := by omega
    subst hkN
    refine j_iload_n X dX0_clear_2 rfl rfl (q := 0) rfl ?_
    refine j_bipush X dX0_clear_3 rfl (v := 8) (by decide) ?_
    refine j_icmp_ge_t X (tgt := 28) dX0_clear_5 (by decide) (nI_le (Nat.le_refl _) (by decide)) ?_
    exact hk
  | succ n ih =>
    intro k S hkn hk
    have hlt : k < 8 := by omega
    refine j_iload_n X dX0_clear_2 rfl rfl (q := 0) rfl ?_
    refine j_bipush X dX0_clear_3 rfl (v := 8) (by decide) ?_
    refine j_icmp_ge_f X dX0_clear_5 rfl (tgt := 28) (by decide) (nI_ge hlt (by decide)) ?_
    refine j_aload_n X dX0_clear_8 rfl rfl (q := 1) rfl ?_
    refine jg_core X hm hg 0 (by decide) lk_RX0_9 rfl rfl dX0_clear_9 rfl ?_
    refine j_iload_n X dX0_clear_12 rfl rfl (q := 0) rfl ?_
    refine j_iconst X dX0_clear_13 rfl (v := 0) (by decide) ?_
    refine j_iastN X (k := k) (wm_core hm hg (by decide)) (fun r => wE_core hm hg 1 r) hlt (by decide) dX0_clear_14 rfl ?_
    refine j_name (fun S1 eS1 => ?_)
    refine j_aload_n X dX0_clear_15 rfl rfl (q := 1) rfl ?_
    refine jg_core X hm hg 1 (by decide) lk_RX0_15 rfl rfl dX0_clear_16 rfl ?_
    refine j_iload_n X dX0_clear_19 rfl rfl (q := 0) rfl ?_
    refine j_iconst X dX0_clear_20 rfl (v := 0) (by decide) ?_
    refine j_iastN X (k := k) (wm_core hm hg (by decide)) (fun r => wE_core hm hg 2 r) hlt (by decide) dX0_clear_21 rfl ?_
    refine j_name (fun S2 eS2 => ?_)
    refine j_iinc X dX0_clear_22 rfl (q := 0) rfl (v := (nI (k + 1))) (nI_1 _) (by decide) (Ls2 := [(1, .int (nI (k + 1))), (0, .ref (zA Z (m) (g) (0)))]) rfl ?_
    refine j_goto X (tgt := 2) dX0_clear_25 (by decide) ?_
    have eB : (pClearF m g) k S = S2 := by subst eS1; subst eS2; first | rfl | simp [pClearF]
    have eL : lp (pClearF m g) (n + 1) k S = lp (pClearF m g) n (k + 1) S2 := congrArg (lp (pClearF m g) n (k + 1)) eB
    rw [eL] at hk
    exact ih (k + 1) S2 (by omega) hk
set_option maxRecDepth 100000 in
set_option maxHeartbeats 4000000 in
theorem c_X0_clear (l : Launch) (Z : wZ) (S : St) (h : Hl) (m g : Nat) (hm : m < 6) (hg : g < 4) : Cv l yX0_clear cX0_clear 2 1 20 Z [.ref (zA Z (m) (g) (0))] S h (pClear S m g) (h) := by
  refine Cv.of rfl (Nat.le_of_ble_eq_true rfl) (fun p e s mi args below meth c A0 Q X K => ?_)
  refine j_at rfl rfl (Ls3 := [(0, .ref (zA Z (m) (g) (0)))]) rfl rfl ?_
  refine j_iconst X dX0_clear_0 rfl (v := 0) (by decide) ?_
  refine j_istore_n X dX0_clear_1 rfl rfl (by decide) (Ls2 := [(1, .int (0)), (0, .ref (zA Z (m) (g) (0)))]) rfl ?_
  refine j_sub [0, 1] (Ls2 := [(1, .int (0)), (0, .ref (zA Z (m) (g) (0)))]) rfl ?_
  refine L_clear l Z h m g hm hg X 8 0 S (by omega) ?_
  refine j_name (fun S1 eS1 => ?_)
  refine j_aload_n X dX0_clear_28 rfl rfl (q := 1) rfl ?_
  refine jg_core X hm hg 2 (by decide) lk_RX0_21 rfl rfl dX0_clear_29 rfl ?_
  refine j_iconst X dX0_clear_32 rfl (v := 0) (by decide) ?_
  refine jpN_prog X (Or.inl ⟨hm, hg⟩) 2 (by decide) nk_RX0_35 rfl rfl rfl (vp_nar_int _) rfl rfl dX0_clear_33 rfl ?_
  refine j_name (fun S2 eS2 => ?_)
  refine j_aload_n X dX0_clear_36 rfl rfl (q := 1) rfl ?_
  refine j_iconst X dX0_clear_37 rfl (v := 0) (by decide) ?_
  refine jp_core X hm hg 3 (by decide) lk_RX0_38 rfl rfl rfl (vp_nar_int _) rfl rfl dX0_clear_38 rfl ?_
  refine j_name (fun S3 eS3 => ?_)
  refine j_aload_n X dX0_clear_41 rfl rfl (q := 1) rfl ?_
  refine j_iconst X dX0_clear_42 rfl (v := 0) (by decide) ?_
  refine jp_core X hm hg 4 (by decide) lk_RX0_41 rfl rfl rfl (vp_nar_int _) rfl rfl dX0_clear_43 rfl ?_
  refine j_name (fun S4 eS4 => ?_)
  refine j_aload_n X dX0_clear_46 rfl rfl (q := 1) rfl ?_
  refine j_callv X (c_X0_endTransaction l Z S4 h m g hm hg ) (wm_core hm hg (by decide)) (wE_core hm hg 0 _) rfl lk_RX0_44 mi_X0_endTransaction ms_X0_endTransaction ini_RX0 mc_X0_endTransaction md_X0_endTransaction ⟨Nat.le_of_ble_eq_true rfl, Nat.le_of_ble_eq_true rfl⟩ ⟨Nat.le_of_ble_eq_true rfl, Nat.le_of_ble_eq_true rfl⟩ rfl (Nat.le_of_ble_eq_true rfl) (as := []) (rest := []) rfl dX0_clear_47 rfl ?_
  refine j_name (fun S5 eS5 => ?_)
  refine j_aload_n X dX0_clear_50 rfl rfl (q := 1) rfl ?_
  refine j_iconst X dX0_clear_51 rfl (v := -1) (by decide) ?_
  refine jp_core X hm hg 6 (by decide) lk_RX0_32 rfl rfl rfl (vp_nar_int _) rfl rfl dX0_clear_52 rfl ?_
  refine j_name (fun S6 eS6 => ?_)
  refine j_aload_n X dX0_clear_55 rfl rfl (q := 1) rfl ?_
  refine j_iconst X dX0_clear_56 rfl (v := 0) (by decide) ?_
  refine jp_core X hm hg 13 (by decide) lk_RX0_47 rfl rfl rfl (vp_nar_int _) rfl rfl dX0_clear_57 rfl ?_
  refine j_name (fun S7 eS7 => ?_)
  refine j_aload_n X dX0_clear_60 rfl rfl (q := 1) rfl ?_
  refine j_iconst X dX0_clear_61 rfl (v := 0) (by decide) ?_
  refine jp_core X hm hg 14 (by decide) lk_RX0_50 rfl rfl rfl (vp_nar_int _) rfl rfl dX0_clear_62 rfl ?_
  refine j_name (fun S8 eS8 => ?_)
  exact j_at (by subst eS1; subst eS2; subst eS3; subst eS4; subst eS5; subst eS6; subst eS7; subst eS8; first | rfl | simp [pClear]) rfl rfl rfl (K _ _ dX0_clear_65)
set_option maxRecDepth 100000 in
set_option maxHeartbeats 4000000 in
theorem c_X0_copyFrom (l : Launch) (Z : wZ) (S : St) (h : Hl) (m g : Nat) (hm : m < 6) (hg : g < 4) (m2 g2 : Nat) (hm2 : m2 < 6) (hg2 : g2 < 4) : Cv l yX0_copyFrom cX0_copyFrom 2 2 39 Z [.ref (zA Z (m) (g) (0)), .ref (zA Z (m2) (g2) (0))] S h (pCopyC S m g m2 g2) (h) := by
  refine Cv.of rfl (Nat.le_of_ble_eq_true rfl) (fun p e s mi args below meth c A0 Q X K => ?_)
  refine j_at rfl rfl (Ls3 := [(0, .ref (zA Z (m) (g) (0))), (1, .ref (zA Z (m2) (g2) (0)))]) rfl rfl ?_
  refine j_aload_n X dX0_copyFrom_0 rfl rfl (q := 1) rfl ?_
  refine jg_core X hm2 hg2 0 (by decide) lk_RX0_9 rfl rfl dX0_copyFrom_1 rfl ?_
  refine j_iconst X dX0_copyFrom_4 rfl (v := 0) (by decide) ?_
  refine j_aload_n X dX0_copyFrom_5 rfl rfl (q := 0) rfl ?_
  refine jg_core X hm hg 0 (by decide) lk_RX0_9 rfl rfl dX0_copyFrom_6 rfl ?_
  refine j_iconst X dX0_copyFrom_9 rfl (v := 0) (by decide) ?_
  refine j_bipush X dX0_copyFrom_10 rfl (v := 8) (by decide) ?_
  refine j_copyi X (nn := 8) (wm_core hm2 hg2 (by decide)) (wE_core hm2 hg2 1 _) (wm_core hm hg (by decide)) (fun r => wE_core hm hg 1 r) lk_RX0_53 (by decide) (by decide) (by decide) (Nat.le_of_ble_eq_true rfl) (Nat.le_of_ble_eq_true rfl) dX0_copyFrom_12 rfl ?_
  refine j_name (fun S1 eS1 => ?_)
  refine j_aload_n X dX0_copyFrom_15 rfl rfl (q := 1) rfl ?_
  refine jg_core X hm2 hg2 1 (by decide) lk_RX0_15 rfl rfl dX0_copyFrom_16 rfl ?_
  refine j_iconst X dX0_copyFrom_19 rfl (v := 0) (by decide) ?_
  refine j_aload_n X dX0_copyFrom_20 rfl rfl (q := 0) rfl ?_
  refine jg_core X hm hg 1 (by decide) lk_RX0_15 rfl rfl dX0_copyFrom_21 rfl ?_
  refine j_iconst X dX0_copyFrom_24 rfl (v := 0) (by decide) ?_
  refine j_bipush X dX0_copyFrom_25 rfl (v := 8) (by decide) ?_
  refine j_copyi X (nn := 8) (wm_core hm2 hg2 (by decide)) (wE_core hm2 hg2 2 _) (wm_core hm hg (by decide)) (fun r => wE_core hm hg 2 r) lk_RX0_53 (by decide) (by decide) (by decide) (Nat.le_of_ble_eq_true rfl) (Nat.le_of_ble_eq_true rfl) dX0_copyFrom_27 rfl ?_
  refine j_name (fun S2 eS2 => ?_)
  refine j_aload_n X dX0_copyFrom_30 rfl rfl (q := 0) rfl ?_
  refine jg_core X hm hg 2 (by decide) lk_RX0_21 rfl rfl dX0_copyFrom_31 rfl ?_
  refine j_aload_n X dX0_copyFrom_34 rfl rfl (q := 1) rfl ?_
  refine jg_core X hm2 hg2 2 (by decide) lk_RX0_21 rfl rfl dX0_copyFrom_35 rfl ?_
  refine j_callNv X (c_X3_copyFrom l Z S2 h m g (Or.inl ⟨hm, hg⟩) m2 g2 (Or.inl ⟨hm2, hg2⟩)) (wm_prog (Or.inl ⟨hm, hg⟩) (by decide)) (wE_prog (Or.inl ⟨hm, hg⟩) _) rfl nk_RX0_59 mi_X3_copyFrom ms_X3_copyFrom ini_RX3 mc_X3_copyFrom md_X3_copyFrom ⟨Nat.le_of_ble_eq_true rfl, Nat.le_of_ble_eq_true rfl⟩ ⟨Nat.le_of_ble_eq_true rfl, Nat.le_of_ble_eq_true rfl⟩ rfl (Nat.le_of_ble_eq_true rfl) (as := [.ref (zA Z (m2) (g2) (3))]) (rest := []) rfl dX0_copyFrom_38 rfl ?_
  refine j_name (fun S3 eS3 => ?_)
  refine j_aload_n X dX0_copyFrom_41 rfl rfl (q := 0) rfl ?_
  refine j_aload_n X dX0_copyFrom_42 rfl rfl (q := 1) rfl ?_
  refine jg_core X hm2 hg2 3 (by decide) lk_RX0_38 rfl rfl dX0_copyFrom_43 rfl ?_
  refine jp_core X hm hg 3 (by decide) lk_RX0_38 rfl rfl rfl (vp_nar_int _) rfl rfl dX0_copyFrom_46 rfl ?_
  refine j_name (fun S4 eS4 => ?_)
  refine j_aload_n X dX0_copyFrom_49 rfl rfl (q := 0) rfl ?_
  refine j_aload_n X dX0_copyFrom_50 rfl rfl (q := 1) rfl ?_
  refine jg_core X hm2 hg2 4 (by decide) lk_RX0_41 rfl rfl dX0_copyFrom_51 rfl ?_
  refine jp_core X hm hg 4 (by decide) lk_RX0_41 rfl rfl rfl (vp_nar_int _) rfl rfl dX0_copyFrom_54 rfl ?_
  refine j_name (fun S5 eS5 => ?_)
  refine j_aload_n X dX0_copyFrom_57 rfl rfl (q := 0) rfl ?_
  refine j_aload_n X dX0_copyFrom_58 rfl rfl (q := 1) rfl ?_
  refine jg_core X hm2 hg2 5 (by decide) lk_RX0_28 rfl rfl dX0_copyFrom_59 rfl ?_
  refine jp_core X hm hg 5 (by decide) lk_RX0_28 rfl rfl rfl (vp_nar_int _) rfl rfl dX0_copyFrom_62 rfl ?_
  refine j_name (fun S6 eS6 => ?_)
  refine j_aload_n X dX0_copyFrom_65 rfl rfl (q := 0) rfl ?_
  refine j_aload_n X dX0_copyFrom_66 rfl rfl (q := 1) rfl ?_
  refine jg_core X hm2 hg2 6 (by decide) lk_RX0_32 rfl rfl dX0_copyFrom_67 rfl ?_
  refine jp_core X hm hg 6 (by decide) lk_RX0_32 rfl rfl rfl (vp_nar_int _) rfl rfl dX0_copyFrom_70 rfl ?_
  refine j_name (fun S7 eS7 => ?_)
  refine j_aload_n X dX0_copyFrom_73 rfl rfl (q := 0) rfl ?_
  refine j_aload_n X dX0_copyFrom_74 rfl rfl (q := 1) rfl ?_
  refine jg_core X hm2 hg2 7 (by decide) lk_RX0_63 rfl rfl dX0_copyFrom_75 rfl ?_
  refine jp_core X hm hg 7 (by decide) lk_RX0_63 rfl rfl rfl (vp_nar_int _) rfl rfl dX0_copyFrom_78 rfl ?_
  refine j_name (fun S8 eS8 => ?_)
  refine j_aload_n X dX0_copyFrom_81 rfl rfl (q := 0) rfl ?_
  refine j_aload_n X dX0_copyFrom_82 rfl rfl (q := 1) rfl ?_
  refine jg_core X hm2 hg2 8 (by decide) lk_RX0_66 rfl rfl dX0_copyFrom_83 rfl ?_
  refine jp_core X hm hg 8 (by decide) lk_RX0_66 rfl rfl rfl (vp_nar_int _) rfl rfl dX0_copyFrom_86 rfl ?_
  refine j_name (fun S9 eS9 => ?_)
  refine j_aload_n X dX0_copyFrom_89 rfl rfl (q := 0) rfl ?_
  refine j_aload_n X dX0_copyFrom_90 rfl rfl (q := 1) rfl ?_
  refine jg_core X hm2 hg2 9 (by decide) lk_RX0_69 rfl rfl dX0_copyFrom_91 rfl ?_
  refine jp_core X hm hg 9 (by decide) lk_RX0_69 rfl rfl rfl (vp_nar_int _) rfl rfl dX0_copyFrom_94 rfl ?_
  refine j_name (fun S10 eS10 => ?_)
  refine j_aload_n X dX0_copyFrom_97 rfl rfl (q := 0) rfl ?_
  refine j_aload_n X dX0_copyFrom_98 rfl rfl (q := 1) rfl ?_
  refine jg_core X hm2 hg2 10 (by decide) lk_RX0_72 rfl rfl dX0_copyFrom_99 rfl ?_
  refine jp_core X hm hg 10 (by decide) lk_RX0_72 rfl rfl rfl (vp_nar_int _) rfl rfl dX0_copyFrom_102 rfl ?_
  refine j_name (fun S11 eS11 => ?_)
  refine j_aload_n X dX0_copyFrom_105 rfl rfl (q := 0) rfl ?_
  refine j_aload_n X dX0_copyFrom_106 rfl rfl (q := 1) rfl ?_
  refine jg_core X hm2 hg2 11 (by decide) lk_RX0_75 rfl rfl dX0_copyFrom_107 rfl ?_
  refine jp_core X hm hg 11 (by decide) lk_RX0_75 rfl rfl rfl (vp_nar_int _) rfl rfl dX0_copyFrom_110 rfl ?_
  refine j_name (fun S12 eS12 => ?_)
  refine j_aload_n X dX0_copyFrom_113 rfl rfl (q := 1) rfl ?_
  refine jg_core X hm2 hg2 12 (by decide) lk_RX0_25 rfl rfl dX0_copyFrom_114 rfl ?_
  refine j_iconst X dX0_copyFrom_117 rfl (v := 0) (by decide) ?_
  refine j_aload_n X dX0_copyFrom_118 rfl rfl (q := 0) rfl ?_
  refine jg_core X hm hg 12 (by decide) lk_RX0_25 rfl rfl dX0_copyFrom_119 rfl ?_
  refine j_iconst X dX0_copyFrom_122 rfl (v := 0) (by decide) ?_
  refine j_bipush X dX0_copyFrom_123 rfl (v := 8) (by decide) ?_
  refine j_copyi X (nn := 8) (wm_core hm2 hg2 (by decide)) (wE_core hm2 hg2 6 _) (wm_core hm hg (by decide)) (fun r => wE_core hm hg 6 r) lk_RX0_53 (by decide) (by decide) (by decide) (Nat.le_of_ble_eq_true rfl) (Nat.le_of_ble_eq_true rfl) dX0_copyFrom_125 rfl ?_
  refine j_name (fun S13 eS13 => ?_)
  refine j_aload_n X dX0_copyFrom_128 rfl rfl (q := 0) rfl ?_
  refine j_aload_n X dX0_copyFrom_129 rfl rfl (q := 1) rfl ?_
  refine jg_core X hm2 hg2 13 (by decide) lk_RX0_47 rfl rfl dX0_copyFrom_130 rfl ?_
  refine jp_core X hm hg 13 (by decide) lk_RX0_47 rfl rfl rfl (vp_nar_int _) rfl rfl dX0_copyFrom_133 rfl ?_
  refine j_name (fun S14 eS14 => ?_)
  refine j_aload_n X dX0_copyFrom_136 rfl rfl (q := 0) rfl ?_
  refine j_aload_n X dX0_copyFrom_137 rfl rfl (q := 1) rfl ?_
  refine jg_core X hm2 hg2 14 (by decide) lk_RX0_50 rfl rfl dX0_copyFrom_138 rfl ?_
  refine jp_core X hm hg 14 (by decide) lk_RX0_50 rfl rfl rfl (vp_nar_int _) rfl rfl dX0_copyFrom_141 rfl ?_
  refine j_name (fun S15 eS15 => ?_)
  exact j_at (by subst eS1; subst eS2; subst eS3; subst eS4; subst eS5; subst eS6; subst eS7; subst eS8; subst eS9; subst eS10; subst eS11; subst eS12; subst eS13; subst eS14; subst eS15; first | rfl | simp [pCopyC, cpF]) rfl rfl rfl (K _ _ dX0_copyFrom_144)

/-! the reference -/
abbrev rOf (S : St) (a w : Nat) : Int32 := S 7 0 1 (22 + 96 * a + w)
abbrev rPut (S : St) (a w : Nat) (v : Int32) : St := setF S 7 0 1 (22 + 96 * a + w) v
abbrev rM (S : St) (k : Nat) : Int32 := S 7 0 1 k
abbrev rCC (S : St) : Nat := (S 7 0 1 0).toNatClampNeg
abbrev rQ (S : St) : Nat := (S 7 0 1 21).toNatClampNeg
def rIn (v a b : Int32) : Bool := !decide (v < a) && !decide (b < v)
def rCpF (i1 i2 : Nat) (k : Nat) (S : St) : St := setF S 7 0 i2 k (S 7 0 i1 k)
def rCp (S : St) (i1 i2 : Nat) : St := lp (rCpF i1 i2) 8006 0 S
def rKeep (S : St) : St :=
  let S4 := rCp (rCp (rCp (rCp S 4 5) 3 4) 2 3) 1 2
  setF S4 7 0 0 5 (S4 7 0 0 5 + (if 4 ≤ S4 7 0 0 5 then 0 else 1))
def rHas (a b : Int32) : Bool := decide (a >>> (b &&& 31) &&& 1 = 1)
def rSize (a : Int32) : Int32 := lp (fun k n => n + (a >>> (nI k &&& 31) &&& 1)) 8 0 0
def rClear (S : St) (a b d : Int32) : St :=
  let S1 := lp (pZeroF 7 0 1) 8006 0 S
  lp (fun k T => rPut T k 4 (-1)) 4 0 (setF (setF (setF (setF S1 7 0 1 0 a) 7 0 1 1 b) 7 0 1 2 d) 7 0 1 3 (S 7 0 1 3))
def rFin (S : St) (a : Nat) : Bool := decide (rOf S a 1 = rOf S a 2)
def rLogF (ev a : Nat) (x y : Int32) (k : Nat) (S : St) : St :=
  let S1 := setF S 7 0 1 (ev + 3 + k) (if rHas x (nI k) = true then rOf S a (12 + k) else 0)
  setF S1 7 0 1 (ev + 11 + k) (if rHas y (nI k) = true then rOf S1 a (28 + k) else 0)
def rLogO (ev : Nat) (k : Nat) (S : St) : St := setF (setF S 7 0 1 (ev + 3 + k) 0) 7 0 1 (ev + 11 + k) 0
def rLogH (S : St) (u t x y : Int32) : St :=
  setF (setF (setF S 7 0 1 (406 + 19 * rQ S) u) 7 0 1 (406 + 19 * rQ S + 1) t) 7 0 1 (406 + 19 * rQ S + 2) (x + 256 * y)
def rBump (S : St) (k : Nat) : St := setF S 7 0 1 k (S 7 0 1 k + 1)
def rLog (S : St) (a : Nat) (t x y : Int32) : St :=
  if S 7 0 0 8 = 0 then (if rQ S = 400 then S else rBump (lp (rLogF (406 + 19 * rQ S) a x y) 8 0 (rLogH S (nI a) t x y)) 21) else S
def rLogX (S : St) (y : Int32) : St :=
  if S 7 0 0 8 = 0 then (if rQ S = 400 then S else rBump (lp (rLogO (406 + 19 * rQ S)) 8 0 (rLogH S (-1) (-1) 0 y)) 21) else S
def rAbF (a : Nat) (k : Nat) (S : St) : St := if rHas (rOf S a 8) (nI k) = true then rPut (rPut S a (20 + k) 0) a (28 + k) 0 else S
def rAbort (S : St) (a u : Nat) : St :=
  let S1 := lp (rAbF a) 8 0 S
  let S2 := rPut S1 a 1 (rOf S1 a 5)
  let S3 := rPut S2 a 0 (rOf S2 a 6)
  let S4 := rBump (rPut (rPut (rPut (rPut S3 a 7 0) a 8 0) a 11 0) a 3 0) (22 + 96 * a + 10)
  let S5 := rBump S4 (13 + u)
  setF S5 7 0 0 13 (S5 7 0 0 13 + 1)
def rWay (S : St) (a : Nat) (l : Int32) (w : Bool) : Bool := decide (rOf S a 3 = 1) && rHas (rOf S a 8 ||| (if w = true then rOf S a 7 else 0)) l
def rWins (S : St) (a o : Nat) : Bool := decide (rOf S a 3 = 0) || (decide (S 7 0 1 1 = 0) || (decide (S 7 0 1 1 = 2) && !decide (rOf S o 4 ≤ rOf S a 4)))
def rResF (a j : Nat) (w : Bool) (k : Nat) (S : St) : Bool × St := if k = a then (true, S) else if rWay S k (nI j) w = true then (if rWins S a k = true then (true, rAbort S k 5) else (false, rAbort S a 5)) else (true, S)
def rRes (S : St) (a j : Nat) (w : Bool) : Bool × St := lpE (rResF a j w) (rCC S) 0 S
def rWB (S : St) (a j : Nat) : St := rBump (setF S 7 0 1 (5 + j) (rOf S a (28 + j))) 17
def rColF (a j : Nat) (k : Nat) (S : St) : St := if k = a then S else if rOf S k (20 + j) = 2 then rPut (rWB S k j) k (20 + j) 1 else S
def rCol (S : St) (a j : Nat) : St := lp (rColF a j) (rCC S) 0 S
def rMiss (S : St) (a j : Nat) : St := let S1 := rPut (rCol (rBump S 13) a j) a (20 + j) 1; rPut S1 a (28 + j) (S1 7 0 1 (5 + j))
def rNoteA (S : St) (a j : Nat) (v : Int32) : St := if rHas (rOf S a 8 ||| rOf S a 11) (nI j) = true then S else rPut (rPut S a 11 (rOf S a 11 ||| 1 <<< (nI j &&& 31))) a (12 + j) v
def rNote (S : St) (a j : Nat) (v : Int32) : St := if rOf S a 3 = 1 then (let S1 := rNoteA S a j v; rPut S1 a 7 (rOf S1 a 7 ||| 1 <<< (nI j &&& 31))) else S
def rGot (S : St) (a j : Nat) : St := rNote (rPut S a 0 (rOf S a (28 + j))) a j (rOf S a (28 + j))
def rLoad (S : St) (a j : Nat) : Bool × St :=
  if (rRes S a j false).1 = true then (true, rGot (if rOf (rRes S a j false).2 a (20 + j) = 0 then rMiss (rRes S a j false).2 a j else (rRes S a j false).2) a j) else (false, (rRes S a j false).2)
def rOwnF (a j : Nat) (k : Nat) (S : St) : St := if k = a then S else if rOf S k (20 + j) = 0 then S else rBump (rPut (rPut S k (20 + j) 0) k (28 + j) 0) 16
def rOwn (S : St) (a j : Nat) : St :=
  let S1 := if rOf S a (20 + j) = 0 then rBump S 14 else rBump S 15
  let S2 := rCol S1 a j
  let S3 := lp (rOwnF a j) (rCC S2) 0 S2
  rPut (if rOf S a (20 + j) = 0 then rPut S3 a (28 + j) (S3 7 0 1 (5 + j)) else S3) a (20 + j) 2
def rNew (S : St) (a j : Nat) : Bool := decide (rOf S a 3 = 1) && !rHas (rOf S a 8) (nI j)
def rHold (S : St) (a j : Nat) (w : Bool) : St := if rOf S a (20 + j) = 2 then (if w = true then rWB S a j else S) else rOwn S a j
def rPutV (S : St) (a j : Nat) (w : Bool) : St :=
  let S1 := rPut S a (28 + j) (rOf S a 0)
  let S2 := if w = true then rPut S1 a 8 (rOf S1 a 8 ||| 1 <<< (nI j &&& 31)) else S1
  if rOf S2 a 3 = 0 then rLog S2 a (-1) 0 (1 <<< (nI j &&& 31)) else S2
def rStB (S : St) (a j : Nat) : Bool × St :=
  if rNew S a j = true then (if rSize (rOf S a 8) = S 7 0 1 2 then (false, rAbort S a 6) else (true, rPutV (rHold S a j true) a j true)) else (true, rPutV (rHold S a j false) a j false)
def rStore (S : St) (a j : Nat) : Bool × St := if (rRes S a j true).1 = true then rStB (rRes S a j true).2 a j else (false, (rRes S a j true).2)
def rBeg (S : St) (a : Nat) : St :=
  if rOf S a 3 = 1 then S else
    let S1 := if rOf S a 4 = -1 then rBump (rPut S a 4 (S 7 0 1 4)) 4 else S
    let S2 := rPut S1 a 3 1
    let S3 := rPut S2 a 5 (rOf S2 a 1)
    let S4 := rPut S3 a 6 (rOf S3 a 0)
    rPut (rPut (rPut S4 a 7 0) a 8 0) a 11 0
def rEnd (S : St) (a : Nat) : St :=
  if rOf S a 3 = 0 then S else rBump (rPut (rPut (rPut (rPut (rPut (rLog S a (rOf S a 4) (rOf S a 11) (rOf S a 8)) a 3 0) a 4 (-1)) a 7 0) a 8 0) a 11 0) (22 + 96 * a + 9)
def rFinCF (S : St) (k : Nat) (n : Int32) : Int32 := if rFin S k = true then n + 1 else n + 0
def rFinC (S : St) : Int32 := lp (rFinCF S) (rCC S) 0 0
theorem nI_nm1 {c : Nat} (h : c < 2 ^ 31) : ¬ nI c = -1 := fun z => nI_pos h (by rw [z]; decide)
theorem rHas_0 (k : Nat) (hk : k < 8) : rHas 0 (nI k) = false := by
  have : ∀ k, k < 8 → rHas 0 (nI k) = false := by decide +kernel
  exact this k hk
set_option maxRecDepth 100000 in
set_option maxHeartbeats 4000000 in
theorem c_X6_thrown (l : Launch) (Z : wZ) (S : St) (h : Hl)  : Ci l yX6_thrown cX6_thrown 1 .int 0 0 Z [.ref (zA Z (7) (0) (0))] S h (S 7 0 0 9) (S) (h) := by
  refine Ci.of rfl rfl (Nat.le_of_ble_eq_true rfl) (fun p e s mi args below meth c A0 Q X K => ?_)
  refine j_at rfl rfl (Ls3 := [(0, .ref (zA Z (7) (0) (0)))]) rfl rfl ?_
  refine j_aload_n X dX6_thrown_0 rfl rfl (q := 0) rfl ?_
  refine jg_model X 9 (by decide) lk_RX6_41 rfl rfl dX6_thrown_1 rfl ?_
  exact j_ret (by first | with_reducible rfl | (simp []; done) | (simp_all []; done) | rfl) (by first | with_reducible rfl | (simp []; done) | (simp_all []; done) | rfl) rfl (K _ _ dX6_thrown_4)
set_option maxRecDepth 100000 in
set_option maxHeartbeats 4000000 in
theorem c_X6_in (l : Launch) (Z : wZ) (S : St) (h : Hl) (x a b : Int32) : Ci l yX6_in cX6_in 3 .boolean 0 0 Z [.int (x), .int (a), .int (b)] S h (bI (rIn x a b)) (S) (h) := by
  refine Ci.of rfl (bI_nar _) (Nat.le_of_ble_eq_true rfl) (fun p e s mi args below meth c A0 Q X K => ?_)
  refine j_at rfl rfl (Ls3 := [(0, .int (x)), (1, .int (a)), (2, .int (b))]) rfl rfl ?_
  refine j_iload_n X dX6_in_0 rfl rfl (q := 0) rfl ?_
  refine j_iload_n X dX6_in_1 rfl rfl (q := 1) rfl ?_
  refine j_icmp_lt X dX6_in_2 rfl (tgt := 14) (by decide) (fun c_2 => ?_) (fun c_2 => ?_)
  · refine j_iconst X dX6_in_14 rfl (v := 0) (by decide) ?_
    exact j_ret (by first | with_reducible rfl | (simp [rIn, bI, c_2]; done) | (simp_all [rIn, bI]; done) | rfl) (by first | with_reducible rfl | (simp [rIn, bI, c_2]; done) | (simp_all [rIn, bI]; done) | rfl) rfl (K _ _ dX6_in_15)
  · refine j_iload_n X dX6_in_5 rfl rfl (q := 0) rfl ?_
    refine j_iload_n X dX6_in_6 rfl rfl (q := 2) rfl ?_
    refine j_icmp_gt X dX6_in_7 rfl (tgt := 14) (by decide) (fun c_7 => ?_) (fun c_7 => ?_)
    · refine j_iconst X dX6_in_14 rfl (v := 0) (by decide) ?_
      exact j_ret (by first | with_reducible rfl | (simp [rIn, bI, c_2, c_7]; done) | (simp_all [rIn, bI]; done) | rfl) (by first | with_reducible rfl | (simp [rIn, bI, c_2, c_7]; done) | (simp_all [rIn, bI]; done) | rfl) rfl (K _ _ dX6_in_15)
    · refine j_iconst X dX6_in_10 rfl (v := 1) (by decide) ?_
      refine j_goto X (tgt := 15) dX6_in_11 (by decide) ?_
      exact j_ret (by first | with_reducible rfl | (simp [rIn, bI, c_2, c_7]; done) | (simp_all [rIn, bI]; done) | rfl) (by first | with_reducible rfl | (simp [rIn, bI, c_2, c_7]; done) | (simp_all [rIn, bI]; done) | rfl) rfl (K _ _ dX6_in_15)
set_option maxRecDepth 100000 in
set_option maxHeartbeats 4000000 in
theorem L_cpA (l : Launch) (Z : wZ) (h : Hl) (i1 i2 : Nat) (hr1 : (7, 0, i1) ∈ wPl Z) (he1 : ∀ (h : Hl) (r : Nat → Int32), wE Z h 7 0 i1 r = eI Z 8006 r) (hr2 : (7, 0, i2) ∈ wPl Z) (he2 : ∀ (h : Hl) (r : Nat → Int32), wE Z h 7 0 i2 r = eI Z 8006 r) {p : Program} {e : Env} {s : State} {mi : MethodId} {args : Array Value} {below : List Frame} {meth : Method} {c : Code} {A0 : Nat → Prop} {Q : State → Prop} (X : JX p s mi args meth c cX6_copyAll 3 yX6_copyAll.cls Z A0) : ∀ (n k : Nat) (S : St), k + n = 8006 → J p l e { frames := 0, cells := 0, slots := 0, locals := 0 } s mi args below meth c 3 Z A0 0 0 Q ((lp (rCpF i1 i2) n k S)) h [] 21 [] → J p l e { frames := 0, cells := 0, slots := 0, locals := 0 } s mi args below meth c 3 Z A0 0 0 Q S h [(2, .int (nI (k))), (0, .ref (zA Z (7) (0) (i1))), (1, .ref (zA Z (7) (0) (i2)))] 2 [] := by
  intro n
  induction n with
  | zero =>
    intro k S hkn hk
    have hkN : 8006 = k := by omega
    subst hkN
    refine j_iload_n X dX6_copyAll_2 rfl rfl (q := 0) rfl ?_
    refine j_sipush X dX6_copyAll_3 rfl (v := 8006) (by decide) ?_
    refine j_icmp_ge_t X (tgt := 21) dX6_copyAll_6 (by decide) (nI_le (Nat.le_refl _) (by decide)) ?_
    refine j_sub [] (Ls2 := []) rfl ?_
    exact hk
  | succ n ih =>
    intro k S hkn hk
    have hlt : k < 8006 := by omega
    refine j_iload_n X dX6_copyAll_2 rfl rfl (q := 0) rfl ?_
    refine j_sipush X dX6_copyAll_3 rfl (v := 8006) (by decide) ?_
    refine j_icmp_ge_f X dX6_copyAll_6 rfl (tgt := 21) (by decide) (nI_ge hlt (by decide)) ?_
    refine j_aload_n X dX6_copyAll_9 rfl rfl (q := 2) rfl ?_
    refine j_iload_n X dX6_copyAll_10 rfl rfl (q := 0) rfl ?_
    refine j_aload_n X dX6_copyAll_11 rfl rfl (q := 1) rfl ?_
    refine j_iload_n X dX6_copyAll_12 rfl rfl (q := 0) rfl ?_
    refine j_ialdN X (k := k) hr1 (he1 h _) hlt (by decide) dX6_copyAll_13 rfl ?_
    refine j_iastN X (k := k) hr2 (fun r => he2 h r) hlt (by decide) dX6_copyAll_14 rfl ?_
    refine j_name (fun S1 eS1 => ?_)
    refine j_iinc X dX6_copyAll_15 rfl (q := 0) rfl (v := (nI (k + 1))) (nI_1 _) (by decide) (Ls2 := [(2, .int (nI (k + 1))), (0, .ref (zA Z (7) (0) (i1))), (1, .ref (zA Z (7) (0) (i2)))]) rfl ?_
    refine j_goto X (tgt := 2) dX6_copyAll_18 (by decide) ?_
    have eB : (rCpF i1 i2) k S = S1 := by subst eS1; first | with_reducible rfl | (simp [rCpF]; done) | (simp_all [rCpF]; done) | rfl
    have eL : lp (rCpF i1 i2) (n + 1) k S = lp (rCpF i1 i2) n (k + 1) S1 := congrArg (lp (rCpF i1 i2) n (k + 1)) eB
    rw [eL] at hk
    exact ih (k + 1) S1 (by omega) hk
set_option maxRecDepth 100000 in
set_option maxHeartbeats 4000000 in
theorem c_X6_copyAll (l : Launch) (Z : wZ) (S : St) (h : Hl) (i1 i2 : Nat) (hr1 : (7, 0, i1) ∈ wPl Z) (he1 : ∀ (h : Hl) (r : Nat → Int32), wE Z h 7 0 i1 r = eI Z 8006 r) (hr2 : (7, 0, i2) ∈ wPl Z) (he2 : ∀ (h : Hl) (r : Nat → Int32), wE Z h 7 0 i2 r = eI Z 8006 r) : Cv l yX6_copyAll cX6_copyAll 3 0 0 Z [.ref (zA Z (7) (0) (i1)), .ref (zA Z (7) (0) (i2))] S h (rCp S i1 i2) (h) := by
  refine Cv.of rfl (Nat.le_of_ble_eq_true rfl) (fun p e s mi args below meth c A0 Q X K => ?_)
  refine j_at rfl rfl (Ls3 := [(0, .ref (zA Z (7) (0) (i1))), (1, .ref (zA Z (7) (0) (i2)))]) rfl rfl ?_
  refine j_iconst X dX6_copyAll_0 rfl (v := 0) (by decide) ?_
  refine j_istore_n X dX6_copyAll_1 rfl rfl (by decide) (Ls2 := [(2, .int (0)), (0, .ref (zA Z (7) (0) (i1))), (1, .ref (zA Z (7) (0) (i2)))]) rfl ?_
  refine j_sub [0, 1, 2] (Ls2 := [(2, .int (0)), (0, .ref (zA Z (7) (0) (i1))), (1, .ref (zA Z (7) (0) (i2)))]) rfl ?_
  refine L_cpA l Z h i1 i2 hr1 he1 hr2 he2 X 8006 0 S (by omega) ?_
  refine j_name (fun S1 eS1 => ?_)
  exact j_at (by subst eS1; first | with_reducible rfl | (simp [rCp]; done) | (simp_all [rCp]; done) | rfl) rfl rfl rfl (K _ _ dX6_copyAll_21)
set_option maxRecDepth 100000 in
set_option maxHeartbeats 4000000 in
theorem c_X6_at (l : Launch) (Z : wZ) (S : St) (h : Hl) (a w : Nat) : Ci l yX6_at cX6_at 2 .int 0 0 Z [.int (nI (a)), .int (nI (w))] S h (nI (22 + 96 * a + w)) (S) (h) := by
  refine Ci.of rfl rfl (Nat.le_of_ble_eq_true rfl) (fun p e s mi args below meth c A0 Q X K => ?_)
  refine j_at rfl rfl (Ls3 := [(0, .int (nI (a))), (1, .int (nI (w)))]) rfl rfl ?_
  refine j_bipush X dX6_at_0 rfl (v := 22) (by decide) ?_
  refine j_bipush X dX6_at_2 rfl (v := 96) (by decide) ?_
  refine j_iload_n X dX6_at_4 rfl rfl (q := 0) rfl ?_
  refine j_imul X dX6_at_5 rfl ?_
  refine j_topeq (y := nI (96 * a)) (pk_mul 96 a) ?_
  refine j_iadd X dX6_at_6 rfl ?_
  refine j_topeq (y := nI (22 + (96 * a))) (nI_add 22 (96 * a)) ?_
  refine j_iload_n X dX6_at_7 rfl rfl (q := 1) rfl ?_
  refine j_iadd X dX6_at_8 rfl ?_
  refine j_topeq (y := nI ((22 + (96 * a)) + w)) (nI_add (22 + (96 * a)) w) ?_
  exact j_ret (by first | with_reducible rfl | (simp []; done) | (simp_all []; done) | rfl) (by first | with_reducible rfl | (simp []; done) | (simp_all []; done) | rfl) rfl (K _ _ dX6_at_9)
set_option maxRecDepth 100000 in
set_option maxHeartbeats 4000000 in
theorem c_X6_of (l : Launch) (Z : wZ) (S : St) (h : Hl) (a w : Nat) (hb : 22 + 96 * a + w < 8006) : Ci l yX6_of cX6_of 3 .int 1 21 Z [.ref (zA Z (7) (0) (0)), .int (nI (a)), .int (nI (w))] S h (rOf S a w) (S) (h) := by
  refine Ci.of rfl rfl (Nat.le_of_ble_eq_true rfl) (fun p e s mi args below meth c A0 Q X K => ?_)
  refine j_at rfl rfl (Ls3 := [(0, .ref (zA Z (7) (0) (0))), (1, .int (nI (a))), (2, .int (nI (w)))]) rfl rfl ?_
  refine j_aload_n X dX6_of_0 rfl rfl (q := 0) rfl ?_
  refine jg_model X 0 (by decide) lk_RX6_7 rfl rfl dX6_of_1 rfl ?_
  refine j_iload_n X dX6_of_4 rfl rfl (q := 1) rfl ?_
  refine j_iload_n X dX6_of_5 rfl rfl (q := 2) rfl ?_
  refine j_callSi X (c_X6_at l Z S h a w) lk_RX6_52 mt_X6_at ini_RX6 mc_X6_at md_X6_at ⟨Nat.le_of_ble_eq_true rfl, Nat.le_of_ble_eq_true rfl⟩ ⟨Nat.le_of_ble_eq_true rfl, Nat.le_of_ble_eq_true rfl⟩ rfl (Nat.le_of_ble_eq_true rfl) (as := [.int (nI (a)), .int (nI (w))]) (rest := [.ref (zA Z (7) (0) (1))]) rfl dX6_of_6 rfl ?_
  refine j_ialdN X (k := 22 + 96 * a + w) (wm_ref (by decide)) ((fun _ => rfl) _) (by omega) (by decide) dX6_of_9 rfl ?_
  exact j_ret (by first | with_reducible rfl | (simp []; done) | (simp_all []; done) | rfl) (by first | with_reducible rfl | (simp []; done) | (simp_all []; done) | rfl) rfl (K _ _ dX6_of_10)
set_option maxRecDepth 100000 in
set_option maxHeartbeats 4000000 in
theorem c_X6_put (l : Launch) (Z : wZ) (S : St) (h : Hl) (a w : Nat) (v : Int32) (hb : 22 + 96 * a + w < 8006) : Cv l yX6_put cX6_put 4 1 21 Z [.ref (zA Z (7) (0) (0)), .int (nI (a)), .int (nI (w)), .int (v)] S h (rPut S a w v) (h) := by
  refine Cv.of rfl (Nat.le_of_ble_eq_true rfl) (fun p e s mi args below meth c A0 Q X K => ?_)
  refine j_at rfl rfl (Ls3 := [(0, .ref (zA Z (7) (0) (0))), (1, .int (nI (a))), (2, .int (nI (w))), (3, .int (v))]) rfl rfl ?_
  refine j_aload_n X dX6_put_0 rfl rfl (q := 0) rfl ?_
  refine jg_model X 0 (by decide) lk_RX6_7 rfl rfl dX6_put_1 rfl ?_
  refine j_iload_n X dX6_put_4 rfl rfl (q := 1) rfl ?_
  refine j_iload_n X dX6_put_5 rfl rfl (q := 2) rfl ?_
  refine j_callSi X (c_X6_at l Z S h a w) lk_RX6_52 mt_X6_at ini_RX6 mc_X6_at md_X6_at ⟨Nat.le_of_ble_eq_true rfl, Nat.le_of_ble_eq_true rfl⟩ ⟨Nat.le_of_ble_eq_true rfl, Nat.le_of_ble_eq_true rfl⟩ rfl (Nat.le_of_ble_eq_true rfl) (as := [.int (nI (a)), .int (nI (w))]) (rest := [.ref (zA Z (7) (0) (1))]) rfl dX6_put_6 rfl ?_
  refine j_iload_n X dX6_put_9 rfl rfl (q := 3) rfl ?_
  refine j_iastN X (k := 22 + 96 * a + w) (wm_ref (by decide)) (fun r => (fun _ => rfl) r) (by omega) (by decide) dX6_put_10 rfl ?_
  refine j_name (fun S1 eS1 => ?_)
  exact j_at (by subst eS1; first | with_reducible rfl | (simp []; done) | (simp_all []; done) | rfl) rfl rfl rfl (K _ _ dX6_put_11)
set_option maxRecDepth 100000 in
set_option maxHeartbeats 4000000 in
theorem c_X6_keep (l : Launch) (Z : wZ) (S : St) (h : Hl)  : Cv l yX6_keep cX6_keep 1 1 22 Z [.ref (zA Z (7) (0) (0))] S h (rKeep S) (h) := by
  refine Cv.of rfl (Nat.le_of_ble_eq_true rfl) (fun p e s mi args below meth c A0 Q X K => ?_)
  refine j_at rfl rfl (Ls3 := [(0, .ref (zA Z (7) (0) (0)))]) rfl rfl ?_
  refine j_aload_n X dX6_keep_0 rfl rfl (q := 0) rfl ?_
  refine jg_model X 3 (by decide) lk_RX6_19 rfl rfl dX6_keep_1 rfl ?_
  refine j_aload_n X dX6_keep_4 rfl rfl (q := 0) rfl ?_
  refine jg_model X 4 (by decide) lk_RX6_22 rfl rfl dX6_keep_5 rfl ?_
  refine j_callSv X (c_X6_copyAll l Z S h 4 5 (wm_ref (by decide)) (fun _ _ => rfl) (wm_ref (by decide)) (fun _ _ => rfl)) lk_RX6_45 mt_X6_copyAll ini_RX6 mc_X6_copyAll md_X6_copyAll ⟨Nat.le_of_ble_eq_true rfl, Nat.le_of_ble_eq_true rfl⟩ ⟨Nat.le_of_ble_eq_true rfl, Nat.le_of_ble_eq_true rfl⟩ rfl (Nat.le_of_ble_eq_true rfl) (as := [.ref (zA Z (7) (0) (4)), .ref (zA Z (7) (0) (5))]) (rest := []) rfl dX6_keep_8 rfl ?_
  refine j_name (fun S1 eS1 => ?_)
  refine j_aload_n X dX6_keep_11 rfl rfl (q := 0) rfl ?_
  refine jg_model X 2 (by decide) lk_RX6_16 rfl rfl dX6_keep_12 rfl ?_
  refine j_aload_n X dX6_keep_15 rfl rfl (q := 0) rfl ?_
  refine jg_model X 3 (by decide) lk_RX6_19 rfl rfl dX6_keep_16 rfl ?_
  refine j_callSv X (c_X6_copyAll l Z S1 h 3 4 (wm_ref (by decide)) (fun _ _ => rfl) (wm_ref (by decide)) (fun _ _ => rfl)) lk_RX6_45 mt_X6_copyAll ini_RX6 mc_X6_copyAll md_X6_copyAll ⟨Nat.le_of_ble_eq_true rfl, Nat.le_of_ble_eq_true rfl⟩ ⟨Nat.le_of_ble_eq_true rfl, Nat.le_of_ble_eq_true rfl⟩ rfl (Nat.le_of_ble_eq_true rfl) (as := [.ref (zA Z (7) (0) (3)), .ref (zA Z (7) (0) (4))]) (rest := []) rfl dX6_keep_19 rfl ?_
  refine j_name (fun S2 eS2 => ?_)
  refine j_aload_n X dX6_keep_22 rfl rfl (q := 0) rfl ?_
  refine jg_model X 1 (by decide) lk_RX6_13 rfl rfl dX6_keep_23 rfl ?_
  refine j_aload_n X dX6_keep_26 rfl rfl (q := 0) rfl ?_
  refine jg_model X 2 (by decide) lk_RX6_16 rfl rfl dX6_keep_27 rfl ?_
  refine j_callSv X (c_X6_copyAll l Z S2 h 2 3 (wm_ref (by decide)) (fun _ _ => rfl) (wm_ref (by decide)) (fun _ _ => rfl)) lk_RX6_45 mt_X6_copyAll ini_RX6 mc_X6_copyAll md_X6_copyAll ⟨Nat.le_of_ble_eq_true rfl, Nat.le_of_ble_eq_true rfl⟩ ⟨Nat.le_of_ble_eq_true rfl, Nat.le_of_ble_eq_true rfl⟩ rfl (Nat.le_of_ble_eq_true rfl) (as := [.ref (zA Z (7) (0) (2)), .ref (zA Z (7) (0) (3))]) (rest := []) rfl dX6_keep_30 rfl ?_
  refine j_name (fun S3 eS3 => ?_)
  refine j_aload_n X dX6_keep_33 rfl rfl (q := 0) rfl ?_
  refine jg_model X 0 (by decide) lk_RX6_7 rfl rfl dX6_keep_34 rfl ?_
  refine j_aload_n X dX6_keep_37 rfl rfl (q := 0) rfl ?_
  refine jg_model X 1 (by decide) lk_RX6_13 rfl rfl dX6_keep_38 rfl ?_
  refine j_callSv X (c_X6_copyAll l Z S3 h 1 2 (wm_ref (by decide)) (fun _ _ => rfl) (wm_ref (by decide)) (fun _ _ => rfl)) lk_RX6_45 mt_X6_copyAll ini_RX6 mc_X6_copyAll md_X6_copyAll ⟨Nat.le_of_ble_eq_true rfl, Nat.le_of_ble_eq_true rfl⟩ ⟨Nat.le_of_ble_eq_true rfl, Nat.le_of_ble_eq_true rfl⟩ rfl (Nat.le_of_ble_eq_true rfl) (as := [.ref (zA Z (7) (0) (1)), .ref (zA Z (7) (0) (2))]) (rest := []) rfl dX6_keep_41 rfl ?_
  refine j_name (fun S4 eS4 => ?_)
  refine j_aload_n X dX6_keep_44 rfl rfl (q := 0) rfl ?_
  refine j_dup X dX6_keep_45 rfl rfl ?_
  refine jg_model X 5 (by decide) lk_RX6_49 rfl rfl dX6_keep_46 rfl ?_
  refine j_aload_n X dX6_keep_49 rfl rfl (q := 0) rfl ?_
  refine jg_model X 5 (by decide) lk_RX6_49 rfl rfl dX6_keep_50 rfl ?_
  refine j_iconst X dX6_keep_53 rfl (v := 4) (by decide) ?_
  refine j_icmp_ge X dX6_keep_54 rfl (tgt := 61) (by decide) (fun c_54 => ?_) (fun c_54 => ?_)
  · refine j_iconst X dX6_keep_61 rfl (v := 0) (by decide) ?_
    refine j_iadd X dX6_keep_62 rfl ?_
    refine jp_model X 5 (by decide) lk_RX6_49 rfl rfl rfl (vp_nar_int _) rfl rfl dX6_keep_63 rfl ?_
    refine j_name (fun S5 eS5 => ?_)
    exact j_at (by subst eS1; subst eS2; subst eS3; subst eS4; subst eS5; first | with_reducible rfl | (simp [rKeep, c_54]; done) | (simp_all [rKeep]; done) | rfl) rfl rfl rfl (K _ _ dX6_keep_66)
  · refine j_iconst X dX6_keep_57 rfl (v := 1) (by decide) ?_
    refine j_goto X (tgt := 62) dX6_keep_58 (by decide) ?_
    refine j_iadd X dX6_keep_62 rfl ?_
    refine jp_model X 5 (by decide) lk_RX6_49 rfl rfl rfl (vp_nar_int _) rfl rfl dX6_keep_63 rfl ?_
    refine j_name (fun S6 eS6 => ?_)
    exact j_at (by subst eS1; subst eS2; subst eS3; subst eS4; subst eS6; first | with_reducible rfl | (simp [rKeep, c_54]; done) | (simp_all [rKeep]; done) | rfl) rfl rfl rfl (K _ _ dX6_keep_66)
set_option maxRecDepth 100000 in
set_option maxHeartbeats 4000000 in
theorem c_X6_isCore (l : Launch) (Z : wZ) (S : St) (h : Hl) (x : Int32) : Ci l yX6_isCore cX6_isCore 2 .boolean 1 22 Z [.ref (zA Z (7) (0) (0)), .int (x)] S h (bI (rIn x 0 (S 7 0 1 0 - 1))) (S) (h) := by
  refine Ci.of rfl (bI_nar _) (Nat.le_of_ble_eq_true rfl) (fun p e s mi args below meth c A0 Q X K => ?_)
  refine j_at rfl rfl (Ls3 := [(0, .ref (zA Z (7) (0) (0))), (1, .int (x))]) rfl rfl ?_
  refine j_iload_n X dX6_isCore_0 rfl rfl (q := 1) rfl ?_
  refine j_iconst X dX6_isCore_1 rfl (v := 0) (by decide) ?_
  refine j_aload_n X dX6_isCore_2 rfl rfl (q := 0) rfl ?_
  refine jg_model X 0 (by decide) lk_RX6_7 rfl rfl dX6_isCore_3 rfl ?_
  refine j_iconst X dX6_isCore_6 rfl (v := 0) (by decide) ?_
  refine j_ialdN X (k := 0) (wm_ref (by decide)) ((fun _ => rfl) _) (by decide) (by decide) dX6_isCore_7 rfl ?_
  refine j_iconst X dX6_isCore_8 rfl (v := 1) (by decide) ?_
  refine j_isub X dX6_isCore_9 rfl ?_
  refine j_callSi X (c_X6_in l Z S h (x) (0) ((S 7 0 1 0) - (1))) lk_RX6_56 mt_X6_in ini_RX6 mc_X6_in md_X6_in ⟨Nat.le_of_ble_eq_true rfl, Nat.le_of_ble_eq_true rfl⟩ ⟨Nat.le_of_ble_eq_true rfl, Nat.le_of_ble_eq_true rfl⟩ rfl (Nat.le_of_ble_eq_true rfl) (as := [.int (x), .int (0), .int ((S 7 0 1 0) - (1))]) (rest := []) rfl dX6_isCore_10 rfl ?_
  exact j_ret (by first | with_reducible rfl | (simp []; done) | (simp_all []; done) | rfl) (by first | with_reducible rfl | (simp []; done) | (simp_all []; done) | rfl) rfl (K _ _ dX6_isCore_13)
set_option maxRecDepth 100000 in
set_option maxHeartbeats 4000000 in
theorem c_X6_isLine (l : Launch) (Z : wZ) (S : St) (h : Hl) (x : Int32) : Ci l yX6_isLine cX6_isLine 1 .boolean 1 22 Z [.int (x)] S h (bI (rIn x 0 7)) (S) (h) := by
  refine Ci.of rfl (bI_nar _) (Nat.le_of_ble_eq_true rfl) (fun p e s mi args below meth c A0 Q X K => ?_)
  refine j_at rfl rfl (Ls3 := [(0, .int (x))]) rfl rfl ?_
  refine j_iload_n X dX6_isLine_0 rfl rfl (q := 0) rfl ?_
  refine j_iconst X dX6_isLine_1 rfl (v := 0) (by decide) ?_
  refine j_bipush X dX6_isLine_2 rfl (v := 7) (by decide) ?_
  refine j_callSi X (c_X6_in l Z S h (x) (0) (7)) lk_RX6_56 mt_X6_in ini_RX6 mc_X6_in md_X6_in ⟨Nat.le_of_ble_eq_true rfl, Nat.le_of_ble_eq_true rfl⟩ ⟨Nat.le_of_ble_eq_true rfl, Nat.le_of_ble_eq_true rfl⟩ rfl (Nat.le_of_ble_eq_true rfl) (as := [.int (x), .int (0), .int (7)]) (rest := []) rfl dX6_isLine_4 rfl ?_
  exact j_ret (by first | with_reducible rfl | (simp []; done) | (simp_all []; done) | rfl) (by first | with_reducible rfl | (simp []; done) | (simp_all []; done) | rfl) rfl (K _ _ dX6_isLine_7)
set_option maxRecDepth 100000 in
set_option maxHeartbeats 4000000 in
theorem c_X6_hasLine (l : Launch) (Z : wZ) (S : St) (h : Hl) (x y : Int32) : Ci l yX6_hasLine cX6_hasLine 2 .boolean 0 0 Z [.int (x), .int (y)] S h (bI (rHas x y)) (S) (h) := by
  refine Ci.of rfl (bI_nar _) (Nat.le_of_ble_eq_true rfl) (fun p e s mi args below meth c A0 Q X K => ?_)
  refine j_at rfl rfl (Ls3 := [(0, .int (x)), (1, .int (y))]) rfl rfl ?_
  refine j_iload_n X dX6_hasLine_0 rfl rfl (q := 0) rfl ?_
  refine j_iload_n X dX6_hasLine_1 rfl rfl (q := 1) rfl ?_
  refine j_ishr X dX6_hasLine_2 rfl ?_
  refine j_iconst X dX6_hasLine_3 rfl (v := 1) (by decide) ?_
  refine j_iand X dX6_hasLine_4 rfl ?_
  refine j_iconst X dX6_hasLine_5 rfl (v := 1) (by decide) ?_
  refine j_icmp_ne X dX6_hasLine_6 rfl (tgt := 13) (by decide) (fun c_6 => ?_) (fun c_6 => ?_)
  · refine j_iconst X dX6_hasLine_13 rfl (v := 0) (by decide) ?_
    exact j_ret (by first | with_reducible rfl | (simp [rHas, bI, c_6]; done) | (simp_all [rHas, bI]; done) | rfl) (by first | with_reducible rfl | (simp [rHas, bI, c_6]; done) | (simp_all [rHas, bI]; done) | rfl) rfl (K _ _ dX6_hasLine_14)
  · refine j_iconst X dX6_hasLine_9 rfl (v := 1) (by decide) ?_
    refine j_goto X (tgt := 14) dX6_hasLine_10 (by decide) ?_
    exact j_ret (by first | with_reducible rfl | (simp [rHas, bI, c_6]; done) | (simp_all [rHas, bI]; done) | rfl) (by first | with_reducible rfl | (simp [rHas, bI, c_6]; done) | (simp_all [rHas, bI]; done) | rfl) rfl (K _ _ dX6_hasLine_14)
set_option maxRecDepth 100000 in
set_option maxHeartbeats 4000000 in
theorem L_size (l : Launch) (Z : wZ) (h : Hl) (S : St) (x : Int32) {p : Program} {e : Env} {s : State} {mi : MethodId} {args : Array Value} {below : List Frame} {meth : Method} {c : Code} {A0 : Nat → Prop} {Q : State → Prop} (X : JX p s mi args meth c cX6_size 3 yX6_size.cls Z A0) : ∀ (n k : Nat) (n1 : Int32), k + n = 8 → J p l e { frames := 0, cells := 0, slots := 0, locals := 0 } s mi args below meth c 3 Z A0 0 0 Q (S) h [(1, .int ((lp (fun k n => n + (x >>> (nI k &&& 31) &&& 1)) n k n1)))] 24 [] → J p l e { frames := 0, cells := 0, slots := 0, locals := 0 } s mi args below meth c 3 Z A0 0 0 Q S h [(2, .int (nI (k))), (0, .int (x)), (1, .int (n1))] 4 [] := by
  intro n
  induction n with
  | zero =>
    intro k n1 hkn hk
    have hkN : 8 = k := by omega
    subst hkN
    refine j_iload_n X dX6_size_4 rfl rfl (q := 0) rfl ?_
    refine j_bipush X dX6_size_5 rfl (v := 8) (by decide) ?_
    refine j_icmp_ge_t X (tgt := 24) dX6_size_7 (by decide) (nI_le (Nat.le_refl _) (by decide)) ?_
    refine j_sub [2] (Ls2 := [(1, .int (n1))]) rfl ?_
    exact hk
  | succ n ih =>
    intro k n1 hkn hk
    have hlt : k < 8 := by omega
    refine j_iload_n X dX6_size_4 rfl rfl (q := 0) rfl ?_
    refine j_bipush X dX6_size_5 rfl (v := 8) (by decide) ?_
    refine j_icmp_ge_f X dX6_size_7 rfl (tgt := 24) (by decide) (nI_ge hlt (by decide)) ?_
    refine j_iload_n X dX6_size_10 rfl rfl (q := 2) rfl ?_
    refine j_iload_n X dX6_size_11 rfl rfl (q := 1) rfl ?_
    refine j_iload_n X dX6_size_12 rfl rfl (q := 0) rfl ?_
    refine j_ishr X dX6_size_13 rfl ?_
    refine j_iconst X dX6_size_14 rfl (v := 1) (by decide) ?_
    refine j_iand X dX6_size_15 rfl ?_
    refine j_iadd X dX6_size_16 rfl ?_
    refine j_istore_n X dX6_size_17 rfl rfl (by decide) (Ls2 := [(1, .int ((n1) + (((x) >>> ((nI (k)) &&& 31)) &&& (1)))), (2, .int (nI (k))), (0, .int (x))]) rfl ?_
    refine j_iinc X dX6_size_18 rfl (q := 1) rfl (v := (nI (k + 1))) (nI_1 _) (by decide) (Ls2 := [(2, .int (nI (k + 1))), (1, .int ((n1) + (((x) >>> ((nI (k)) &&& 31)) &&& (1)))), (0, .int (x))]) rfl ?_
    refine j_goto X (tgt := 4) dX6_size_21 (by decide) ?_
    refine j_sub [0, 2, 1] (Ls2 := [(2, .int (nI (k + 1))), (0, .int (x)), (1, .int ((n1) + (((x) >>> ((nI (k)) &&& 31)) &&& (1))))]) rfl ?_
    have eB : (fun k n => n + (x >>> (nI k &&& 31) &&& 1)) k n1 = ((n1) + (((x) >>> ((nI (k)) &&& 31)) &&& (1))) := by first | with_reducible rfl | (simp []; done) | (simp_all []; done) | rfl
    have eL : lp (fun k n => n + (x >>> (nI k &&& 31) &&& 1)) (n + 1) k n1 = lp (fun k n => n + (x >>> (nI k &&& 31) &&& 1)) n (k + 1) ((n1) + (((x) >>> ((nI (k)) &&& 31)) &&& (1))) := congrArg (lp (fun k n => n + (x >>> (nI k &&& 31) &&& 1)) n (k + 1)) eB
    rw [eL] at hk
    exact ih (k + 1) (((n1) + (((x) >>> ((nI (k)) &&& 31)) &&& (1)))) (by omega) hk
set_option maxRecDepth 100000 in
set_option maxHeartbeats 4000000 in
theorem c_X6_size (l : Launch) (Z : wZ) (S : St) (h : Hl) (x : Int32) : Ci l yX6_size cX6_size 3 .int 0 0 Z [.int (x)] S h (rSize x) (S) (h) := by
  refine Ci.of rfl rfl (Nat.le_of_ble_eq_true rfl) (fun p e s mi args below meth c A0 Q X K => ?_)
  refine j_at rfl rfl (Ls3 := [(0, .int (x))]) rfl rfl ?_
  refine j_iconst X dX6_size_0 rfl (v := 0) (by decide) ?_
  refine j_istore_n X dX6_size_1 rfl rfl (by decide) (Ls2 := [(1, .int (0)), (0, .int (x))]) rfl ?_
  refine j_iconst X dX6_size_2 rfl (v := 0) (by decide) ?_
  refine j_istore_n X dX6_size_3 rfl rfl (by decide) (Ls2 := [(2, .int (0)), (1, .int (0)), (0, .int (x))]) rfl ?_
  refine j_sub [0, 2, 1] (Ls2 := [(2, .int (0)), (0, .int (x)), (1, .int (0))]) rfl ?_
  refine L_size l Z h S x X 8 0 ((0)) (by omega) ?_
  refine j_iload_n X dX6_size_24 rfl rfl (q := 0) rfl ?_
  exact j_ret (by first | with_reducible rfl | (simp [rSize]; done) | (simp_all [rSize]; done) | rfl) (by first | with_reducible rfl | (simp [rSize]; done) | (simp_all [rSize]; done) | rfl) rfl (K _ _ dX6_size_25)
set_option maxRecDepth 100000 in
set_option maxHeartbeats 4000000 in
theorem L_clr1 (l : Launch) (Z : wZ) (h : Hl) (x1 x2 x3 sv : Int32) {p : Program} {e : Env} {s : State} {mi : MethodId} {args : Array Value} {below : List Frame} {meth : Method} {c : Code} {A0 : Nat → Prop} {Q : State → Prop} (X : JX p s mi args meth c cX6_clear 6 yX6_clear.cls Z A0) : ∀ (n k : Nat) (S : St), k + n = 8006 → J p l e { frames := 2, cells := 0, slots := 0, locals := 44 } s mi args below meth c 6 Z A0 0 0 Q ((lp (pZeroF 7 0 1) n k S)) h [(0, .ref (zA Z (7) (0) (0))), (1, .int (x1)), (2, .int (x2)), (3, .int (x3)), (4, .int (sv))] 33 [] → J p l e { frames := 2, cells := 0, slots := 0, locals := 44 } s mi args below meth c 6 Z A0 0 0 Q S h [(5, .int (nI (k))), (0, .ref (zA Z (7) (0) (0))), (1, .int (x1)), (2, .int (x2)), (3, .int (x3)), (4, .int (sv))] 11 [] := by
  intro n
  induction n with
  | zero =>
    intro k S hkn hk
    have hkN : 8006 = k := by omega
    subst hkN
    refine j_iload X dX6_clear_11 rfl (q := 0) rfl ?_
    refine j_sipush X dX6_clear_13 rfl (v := 8006) (by decide) ?_
    refine j_icmp_ge_t X (tgt := 33) dX6_clear_16 (by decide) (nI_le (Nat.le_refl _) (by decide)) ?_
    refine j_sub [1, 2, 3, 4, 5] (Ls2 := [(0, .ref (zA Z (7) (0) (0))), (1, .int (x1)), (2, .int (x2)), (3, .int (x3)), (4, .int (sv))]) rfl ?_
    exact hk
  | succ n ih =>
    intro k S hkn hk
    have hlt : k < 8006 := by omega
    refine j_iload X dX6_clear_11 rfl (q := 0) rfl ?_
    refine j_sipush X dX6_clear_13 rfl (v := 8006) (by decide) ?_
    refine j_icmp_ge_f X dX6_clear_16 rfl (tgt := 33) (by decide) (nI_ge hlt (by decide)) ?_
    refine j_aload_n X dX6_clear_19 rfl rfl (q := 1) rfl ?_
    refine jg_model X 0 (by decide) lk_RX6_7 rfl rfl dX6_clear_20 rfl ?_
    refine j_iload X dX6_clear_23 rfl (q := 0) rfl ?_
    refine j_iconst X dX6_clear_25 rfl (v := 0) (by decide) ?_
    refine j_iastN X (k := k) (wm_ref (by decide)) (fun r => (fun _ => rfl) r) hlt (by decide) dX6_clear_26 rfl ?_
    refine j_name (fun S1 eS1 => ?_)
    refine j_iinc X dX6_clear_27 rfl (q := 0) rfl (v := (nI (k + 1))) (nI_1 _) (by decide) (Ls2 := [(5, .int (nI (k + 1))), (0, .ref (zA Z (7) (0) (0))), (1, .int (x1)), (2, .int (x2)), (3, .int (x3)), (4, .int (sv))]) rfl ?_
    refine j_goto X (tgt := 11) dX6_clear_30 (by decide) ?_
    have eB : (pZeroF 7 0 1) k S = S1 := by subst eS1; first | with_reducible rfl | (simp [pZeroF]; done) | (simp_all [pZeroF]; done) | rfl
    have eL : lp (pZeroF 7 0 1) (n + 1) k S = lp (pZeroF 7 0 1) n (k + 1) S1 := congrArg (lp (pZeroF 7 0 1) n (k + 1)) eB
    rw [eL] at hk
    exact ih (k + 1) S1 (by omega) hk
set_option maxRecDepth 100000 in
set_option maxHeartbeats 4000000 in
theorem L_clr2 (l : Launch) (Z : wZ) (h : Hl)  {p : Program} {e : Env} {s : State} {mi : MethodId} {args : Array Value} {below : List Frame} {meth : Method} {c : Code} {A0 : Nat → Prop} {Q : State → Prop} (X : JX p s mi args meth c cX6_clear 6 yX6_clear.cls Z A0) : ∀ (n k : Nat) (S : St), k + n = 4 → J p l e { frames := 2, cells := 0, slots := 0, locals := 44 } s mi args below meth c 6 Z A0 0 0 Q ((lp (fun k T => rPut T k 4 (-1)) n k S)) h [] 85 [] → J p l e { frames := 2, cells := 0, slots := 0, locals := 44 } s mi args below meth c 6 Z A0 0 0 Q S h [(5, .int (nI (k))), (0, .ref (zA Z (7) (0) (0)))] 65 [] := by
  intro n
  induction n with
  | zero =>
    intro k S hkn hk
    have hkN : 4 = k := by omega
    subst hkN
    refine j_iload X dX6_clear_65 rfl (q := 0) rfl ?_
    refine j_iconst X dX6_clear_67 rfl (v := 4) (by decide) ?_
    refine j_icmp_ge_t X (tgt := 85) dX6_clear_68 (by decide) (nI_le (Nat.le_refl _) (by decide)) ?_
    refine j_sub [] (Ls2 := []) rfl ?_
    exact hk
  | succ n ih =>
    intro k S hkn hk
    have hlt : k < 4 := by omega
    refine j_iload X dX6_clear_65 rfl (q := 0) rfl ?_
    refine j_iconst X dX6_clear_67 rfl (v := 4) (by decide) ?_
    refine j_icmp_ge_f X dX6_clear_68 rfl (tgt := 85) (by decide) (nI_ge hlt (by decide)) ?_
    refine j_aload_n X dX6_clear_71 rfl rfl (q := 1) rfl ?_
    refine j_iload X dX6_clear_72 rfl (q := 0) rfl ?_
    refine j_iconst X dX6_clear_74 rfl (v := 4) (by decide) ?_
    refine j_iconst X dX6_clear_75 rfl (v := -1) (by decide) ?_
    refine j_callv X (c_X6_put l Z S h k 4 (-1) (by omega)) (wm_ref (by decide)) ((fun _ => rfl) _) rfl lk_RX6_60 mi_X6_put ms_X6_put ini_RX6 mc_X6_put md_X6_put ⟨Nat.le_of_ble_eq_true rfl, Nat.le_of_ble_eq_true rfl⟩ ⟨Nat.le_of_ble_eq_true rfl, Nat.le_of_ble_eq_true rfl⟩ rfl (Nat.le_of_ble_eq_true rfl) (as := [.int (nI (k)), .int (4), .int (-1)]) (rest := []) rfl dX6_clear_76 rfl ?_
    refine j_name (fun S1 eS1 => ?_)
    refine j_iinc X dX6_clear_79 rfl (q := 0) rfl (v := (nI (k + 1))) (nI_1 _) (by decide) (Ls2 := [(5, .int (nI (k + 1))), (0, .ref (zA Z (7) (0) (0)))]) rfl ?_
    refine j_goto X (tgt := 65) dX6_clear_82 (by decide) ?_
    have eB : (fun k T => rPut T k 4 (-1)) k S = S1 := by subst eS1; first | with_reducible rfl | (simp []; done) | (simp_all []; done) | rfl
    have eL : lp (fun k T => rPut T k 4 (-1)) (n + 1) k S = lp (fun k T => rPut T k 4 (-1)) n (k + 1) S1 := congrArg (lp (fun k T => rPut T k 4 (-1)) n (k + 1)) eB
    rw [eL] at hk
    exact ih (k + 1) S1 (by omega) hk
set_option maxRecDepth 100000 in
set_option maxHeartbeats 4000000 in
theorem c_X6_clear (l : Launch) (Z : wZ) (S : St) (h : Hl) (x1 x2 x3 : Int32) : Cv l yX6_clear cX6_clear 6 2 44 Z [.ref (zA Z (7) (0) (0)), .int (x1), .int (x2), .int (x3)] S h (rClear S x1 x2 x3) (h) := by
  refine Cv.of rfl (Nat.le_of_ble_eq_true rfl) (fun p e s mi args below meth c A0 Q X K => ?_)
  refine j_at rfl rfl (Ls3 := [(0, .ref (zA Z (7) (0) (0))), (1, .int (x1)), (2, .int (x2)), (3, .int (x3))]) rfl rfl ?_
  refine j_aload_n X dX6_clear_0 rfl rfl (q := 0) rfl ?_
  refine jg_model X 0 (by decide) lk_RX6_7 rfl rfl dX6_clear_1 rfl ?_
  refine j_iconst X dX6_clear_4 rfl (v := 3) (by decide) ?_
  refine j_ialdN X (k := 3) (wm_ref (by decide)) ((fun _ => rfl) _) (by decide) (by decide) dX6_clear_5 rfl ?_
  refine j_istore X dX6_clear_6 rfl (by decide) (Ls2 := [(4, .int (S 7 0 1 3)), (0, .ref (zA Z (7) (0) (0))), (1, .int (x1)), (2, .int (x2)), (3, .int (x3))]) rfl ?_
  refine j_iconst X dX6_clear_8 rfl (v := 0) (by decide) ?_
  refine j_istore X dX6_clear_9 rfl (by decide) (Ls2 := [(5, .int (0)), (4, .int (S 7 0 1 3)), (0, .ref (zA Z (7) (0) (0))), (1, .int (x1)), (2, .int (x2)), (3, .int (x3))]) rfl ?_
  refine j_sub [0, 2, 3, 4, 5, 1] (Ls2 := [(5, .int (0)), (0, .ref (zA Z (7) (0) (0))), (1, .int (x1)), (2, .int (x2)), (3, .int (x3)), (4, .int (S 7 0 1 3))]) rfl ?_
  refine L_clr1 l Z h x1 x2 x3 (S 7 0 1 3) X 8006 0 S (by omega) ?_
  refine j_name (fun S1 eS1 => ?_)
  refine j_aload_n X dX6_clear_33 rfl rfl (q := 0) rfl ?_
  refine jg_model X 0 (by decide) lk_RX6_7 rfl rfl dX6_clear_34 rfl ?_
  refine j_iconst X dX6_clear_37 rfl (v := 0) (by decide) ?_
  refine j_iload_n X dX6_clear_38 rfl rfl (q := 1) rfl ?_
  refine j_iastN X (k := 0) (wm_ref (by decide)) (fun r => (fun _ => rfl) r) (by decide) (by decide) dX6_clear_39 rfl ?_
  refine j_name (fun S2 eS2 => ?_)
  refine j_aload_n X dX6_clear_40 rfl rfl (q := 0) rfl ?_
  refine jg_model X 0 (by decide) lk_RX6_7 rfl rfl dX6_clear_41 rfl ?_
  refine j_iconst X dX6_clear_44 rfl (v := 1) (by decide) ?_
  refine j_iload_n X dX6_clear_45 rfl rfl (q := 2) rfl ?_
  refine j_iastN X (k := 1) (wm_ref (by decide)) (fun r => (fun _ => rfl) r) (by decide) (by decide) dX6_clear_46 rfl ?_
  refine j_name (fun S3 eS3 => ?_)
  refine j_aload_n X dX6_clear_47 rfl rfl (q := 0) rfl ?_
  refine jg_model X 0 (by decide) lk_RX6_7 rfl rfl dX6_clear_48 rfl ?_
  refine j_iconst X dX6_clear_51 rfl (v := 2) (by decide) ?_
  refine j_iload_n X dX6_clear_52 rfl rfl (q := 3) rfl ?_
  refine j_iastN X (k := 2) (wm_ref (by decide)) (fun r => (fun _ => rfl) r) (by decide) (by decide) dX6_clear_53 rfl ?_
  refine j_name (fun S4 eS4 => ?_)
  refine j_aload_n X dX6_clear_54 rfl rfl (q := 0) rfl ?_
  refine jg_model X 0 (by decide) lk_RX6_7 rfl rfl dX6_clear_55 rfl ?_
  refine j_iconst X dX6_clear_58 rfl (v := 3) (by decide) ?_
  refine j_iload X dX6_clear_59 rfl (q := 4) rfl ?_
  refine j_iastN X (k := 3) (wm_ref (by decide)) (fun r => (fun _ => rfl) r) (by decide) (by decide) dX6_clear_61 rfl ?_
  refine j_name (fun S5 eS5 => ?_)
  refine j_iconst X dX6_clear_62 rfl (v := 0) (by decide) ?_
  refine j_istore X dX6_clear_63 rfl (by decide) (Ls2 := [(5, .int (0)), (0, .ref (zA Z (7) (0) (0))), (1, .int (x1)), (2, .int (x2)), (3, .int (x3)), (4, .int (S 7 0 1 3))]) rfl ?_
  refine j_sub [0, 1] (Ls2 := [(5, .int (0)), (0, .ref (zA Z (7) (0) (0)))]) rfl ?_
  refine L_clr2 l Z h  X 4 0 S5 (by omega) ?_
  refine j_name (fun S6 eS6 => ?_)
  exact j_at (by subst eS1; subst eS2; subst eS3; subst eS4; subst eS5; subst eS6; first | with_reducible rfl | (simp [rClear]; done) | (simp_all [rClear]; done) | rfl) rfl rfl rfl (K _ _ dX6_clear_85)
set_option maxRecDepth 100000 in
set_option maxHeartbeats 4000000 in
theorem c_X6_isFinished (l : Launch) (Z : wZ) (S : St) (h : Hl) (a : Nat) (ha : a < 4) : Ci l yX6_isFinished cX6_isFinished 2 .boolean 2 43 Z [.ref (zA Z (7) (0) (0)), .int (nI (a))] S h (bI (rFin S a)) (S) (h) := by
  refine Ci.of rfl (bI_nar _) (Nat.le_of_ble_eq_true rfl) (fun p e s mi args below meth c A0 Q X K => ?_)
  refine j_at rfl rfl (Ls3 := [(0, .ref (zA Z (7) (0) (0))), (1, .int (nI (a)))]) rfl rfl ?_
  refine j_aload_n X dX6_isFinished_0 rfl rfl (q := 0) rfl ?_
  refine j_iload_n X dX6_isFinished_1 rfl rfl (q := 1) rfl ?_
  refine j_iconst X dX6_isFinished_2 rfl (v := 1) (by decide) ?_
  refine j_calli X (c_X6_of l Z S h a 1 (by omega)) (wm_ref (by decide)) ((fun _ => rfl) _) rfl lk_RX6_97 mi_X6_of ms_X6_of ini_RX6 mc_X6_of md_X6_of ⟨Nat.le_of_ble_eq_true rfl, Nat.le_of_ble_eq_true rfl⟩ ⟨Nat.le_of_ble_eq_true rfl, Nat.le_of_ble_eq_true rfl⟩ rfl (Nat.le_of_ble_eq_true rfl) (as := [.int (nI (a)), .int (1)]) (rest := []) rfl dX6_isFinished_3 rfl ?_
  refine j_aload_n X dX6_isFinished_6 rfl rfl (q := 0) rfl ?_
  refine j_iload_n X dX6_isFinished_7 rfl rfl (q := 1) rfl ?_
  refine j_iconst X dX6_isFinished_8 rfl (v := 2) (by decide) ?_
  refine j_calli X (c_X6_of l Z S h a 2 (by omega)) (wm_ref (by decide)) ((fun _ => rfl) _) rfl lk_RX6_97 mi_X6_of ms_X6_of ini_RX6 mc_X6_of md_X6_of ⟨Nat.le_of_ble_eq_true rfl, Nat.le_of_ble_eq_true rfl⟩ ⟨Nat.le_of_ble_eq_true rfl, Nat.le_of_ble_eq_true rfl⟩ rfl (Nat.le_of_ble_eq_true rfl) (as := [.int (nI (a)), .int (2)]) (rest := [.int (rOf S a 1)]) rfl dX6_isFinished_9 rfl ?_
  refine j_icmp_ne X dX6_isFinished_12 rfl (tgt := 19) (by decide) (fun c_12 => ?_) (fun c_12 => ?_)
  · refine j_iconst X dX6_isFinished_19 rfl (v := 0) (by decide) ?_
    exact j_ret (by first | with_reducible rfl | (simp [rFin, bI, c_12]; done) | (simp_all [rFin, bI]; done) | rfl) (by first | with_reducible rfl | (simp [rFin, bI, c_12]; done) | (simp_all [rFin, bI]; done) | rfl) rfl (K _ _ dX6_isFinished_20)
  · refine j_iconst X dX6_isFinished_15 rfl (v := 1) (by decide) ?_
    refine j_goto X (tgt := 20) dX6_isFinished_16 (by decide) ?_
    exact j_ret (by first | with_reducible rfl | (simp [rFin, bI, c_12]; done) | (simp_all [rFin, bI]; done) | rfl) (by first | with_reducible rfl | (simp [rFin, bI, c_12]; done) | (simp_all [rFin, bI]; done) | rfl) rfl (K _ _ dX6_isFinished_20)
set_option maxRecDepth 100000 in
set_option maxHeartbeats 4000000 in
theorem L_log (l : Launch) (Z : wZ) (h : Hl) (ev : Nat) (hev : ev + 19 ≤ 8006) (a : Nat) (ha : a < 4) (x y : Int32) {p : Program} {e : Env} {s : State} {mi : MethodId} {args : Array Value} {below : List Frame} {meth : Method} {c : Code} {A0 : Nat → Prop} {Q : State → Prop} (X : JX p s mi args meth c cX6_log 7 yX6_log.cls Z A0) : ∀ (n k : Nat) (S : St), k + n = 8 → J p l e { frames := 2, cells := 0, slots := 0, locals := 43 } s mi args below meth c 7 Z A0 0 0 Q ((lp (rLogF ev a x y) n k S)) h [(0, .ref (zA Z (7) (0) (0)))] 165 [] → J p l e { frames := 2, cells := 0, slots := 0, locals := 43 } s mi args below meth c 7 Z A0 0 0 Q S h [(6, .int (nI (k))), (0, .ref (zA Z (7) (0) (0))), (1, .int (nI (a))), (5, .int (nI (ev))), (3, .int (x)), (4, .int (y))] 75 [] := by
  intro n
  induction n with
  | zero =>
    intro k S hkn hk
    have hkN : 8 = k := by omega
    subst hkN
    refine j_iload X dX6_log_75 rfl (q := 0) rfl ?_
    refine j_bipush X dX6_log_77 rfl (v := 8) (by decide) ?_
    refine j_icmp_ge_t X (tgt := 165) dX6_log_79 (by decide) (nI_le (Nat.le_refl _) (by decide)) ?_
    refine j_sub [1] (Ls2 := [(0, .ref (zA Z (7) (0) (0)))]) rfl ?_
    exact hk
  | succ n ih =>
    intro k S hkn hk
    have hlt : k < 8 := by omega
    refine j_iload X dX6_log_75 rfl (q := 0) rfl ?_
    refine j_bipush X dX6_log_77 rfl (v := 8) (by decide) ?_
    refine j_icmp_ge_f X dX6_log_79 rfl (tgt := 165) (by decide) (nI_ge hlt (by decide)) ?_
    refine j_aload_n X dX6_log_82 rfl rfl (q := 1) rfl ?_
    refine jg_model X 0 (by decide) lk_RX6_7 rfl rfl dX6_log_83 rfl ?_
    refine j_iload X dX6_log_86 rfl (q := 3) rfl ?_
    refine j_iconst X dX6_log_88 rfl (v := 3) (by decide) ?_
    refine j_iadd X dX6_log_89 rfl ?_
    refine j_topeq (y := nI (ev + 3)) (nI_add ev 3) ?_
    refine j_iload X dX6_log_90 rfl (q := 0) rfl ?_
    refine j_iadd X dX6_log_92 rfl ?_
    refine j_topeq (y := nI ((ev + 3) + k)) (nI_add (ev + 3) k) ?_
    refine j_iload_n X dX6_log_93 rfl rfl (q := 4) rfl ?_
    refine j_iload X dX6_log_94 rfl (q := 0) rfl ?_
    refine j_callSi X (c_X6_hasLine l Z S h (x) (nI (k))) lk_RX6_110 mt_X6_hasLine ini_RX6 mc_X6_hasLine md_X6_hasLine ⟨Nat.le_of_ble_eq_true rfl, Nat.le_of_ble_eq_true rfl⟩ ⟨Nat.le_of_ble_eq_true rfl, Nat.le_of_ble_eq_true rfl⟩ rfl (Nat.le_of_ble_eq_true rfl) (as := [.int (x), .int (nI (k))]) (rest := [.int (nI ((ev + 3) + k)), .ref (zA Z (7) (0) (1))]) rfl dX6_log_96 rfl ?_
    refine j_ifb_eq X dX6_log_99 rfl (tgt := 115) (by decide) (fun c_99 => ?_) (fun c_99 => ?_)
    · refine j_iconst X dX6_log_115 rfl (v := 0) (by decide) ?_
      refine j_iastN X (k := (ev + 3) + k) (wm_ref (by decide)) (fun r => (fun _ => rfl) r) (by omega) (by decide) dX6_log_116 rfl ?_
      refine j_name (fun S1 eS1 => ?_)
      refine j_aload_n X dX6_log_117 rfl rfl (q := 1) rfl ?_
      refine jg_model X 0 (by decide) lk_RX6_7 rfl rfl dX6_log_118 rfl ?_
      refine j_iload X dX6_log_121 rfl (q := 3) rfl ?_
      refine j_bipush X dX6_log_123 rfl (v := 11) (by decide) ?_
      refine j_iadd X dX6_log_125 rfl ?_
      refine j_topeq (y := nI (ev + 11)) (nI_add ev 11) ?_
      refine j_iload X dX6_log_126 rfl (q := 0) rfl ?_
      refine j_iadd X dX6_log_128 rfl ?_
      refine j_topeq (y := nI ((ev + 11) + k)) (nI_add (ev + 11) k) ?_
      refine j_iload_n X dX6_log_129 rfl rfl (q := 2) rfl ?_
      refine j_iconst X dX6_log_130 rfl (v := -1) (by decide) ?_
      refine j_icmp_eq_f X dX6_log_131 rfl (tgt := 157) (by decide) (nI_nm1 (by omega)) ?_
      refine j_iload X dX6_log_134 rfl (q := 5) rfl ?_
      refine j_iload X dX6_log_136 rfl (q := 0) rfl ?_
      refine j_callSi X (c_X6_hasLine l Z S1 h (y) (nI (k))) lk_RX6_110 mt_X6_hasLine ini_RX6 mc_X6_hasLine md_X6_hasLine ⟨Nat.le_of_ble_eq_true rfl, Nat.le_of_ble_eq_true rfl⟩ ⟨Nat.le_of_ble_eq_true rfl, Nat.le_of_ble_eq_true rfl⟩ rfl (Nat.le_of_ble_eq_true rfl) (as := [.int (y), .int (nI (k))]) (rest := [.int (nI ((ev + 11) + k)), .ref (zA Z (7) (0) (1))]) rfl dX6_log_138 rfl ?_
      refine j_ifb_eq X dX6_log_141 rfl (tgt := 157) (by decide) (fun c_141 => ?_) (fun c_141 => ?_)
      · refine j_iconst X dX6_log_157 rfl (v := 0) (by decide) ?_
        refine j_iastN X (k := (ev + 11) + k) (wm_ref (by decide)) (fun r => (fun _ => rfl) r) (by omega) (by decide) dX6_log_158 rfl ?_
        refine j_name (fun S2 eS2 => ?_)
        refine j_iinc X dX6_log_159 rfl (q := 0) rfl (v := (nI (k + 1))) (nI_1 _) (by decide) (Ls2 := [(6, .int (nI (k + 1))), (0, .ref (zA Z (7) (0) (0))), (1, .int (nI (a))), (5, .int (nI (ev))), (3, .int (x)), (4, .int (y))]) rfl ?_
        refine j_goto X (tgt := 75) dX6_log_162 (by decide) ?_
        have eB : (rLogF ev a x y) k S = S2 := by subst eS1; subst eS2; first | with_reducible rfl | (simp [rLogF, c_99, c_141]; done) | (simp_all [rLogF]; done) | rfl
        have eL : lp (rLogF ev a x y) (n + 1) k S = lp (rLogF ev a x y) n (k + 1) S2 := congrArg (lp (rLogF ev a x y) n (k + 1)) eB
        rw [eL] at hk
        exact ih (k + 1) S2 (by omega) hk
      · refine j_aload_n X dX6_log_144 rfl rfl (q := 1) rfl ?_
        refine j_iload_n X dX6_log_145 rfl rfl (q := 2) rfl ?_
        refine j_bipush X dX6_log_146 rfl (v := 28) (by decide) ?_
        refine j_iload X dX6_log_148 rfl (q := 0) rfl ?_
        refine j_iadd X dX6_log_150 rfl ?_
        refine j_topeq (y := nI (28 + k)) (nI_add 28 k) ?_
        refine j_calli X (c_X6_of l Z S1 h a (28 + k) (by omega)) (wm_ref (by decide)) ((fun _ => rfl) _) rfl lk_RX6_97 mi_X6_of ms_X6_of ini_RX6 mc_X6_of md_X6_of ⟨Nat.le_of_ble_eq_true rfl, Nat.le_of_ble_eq_true rfl⟩ ⟨Nat.le_of_ble_eq_true rfl, Nat.le_of_ble_eq_true rfl⟩ rfl (Nat.le_of_ble_eq_true rfl) (as := [.int (nI (a)), .int (nI (28 + k))]) (rest := [.int (nI ((ev + 11) + k)), .ref (zA Z (7) (0) (1))]) rfl dX6_log_151 rfl ?_
        refine j_goto X (tgt := 158) dX6_log_154 (by decide) ?_
        refine j_iastN X (k := (ev + 11) + k) (wm_ref (by decide)) (fun r => (fun _ => rfl) r) (by omega) (by decide) dX6_log_158 rfl ?_
        refine j_name (fun S3 eS3 => ?_)
        refine j_iinc X dX6_log_159 rfl (q := 0) rfl (v := (nI (k + 1))) (nI_1 _) (by decide) (Ls2 := [(6, .int (nI (k + 1))), (0, .ref (zA Z (7) (0) (0))), (1, .int (nI (a))), (5, .int (nI (ev))), (3, .int (x)), (4, .int (y))]) rfl ?_
        refine j_goto X (tgt := 75) dX6_log_162 (by decide) ?_
        have eB : (rLogF ev a x y) k S = S3 := by subst eS1; subst eS3; first | with_reducible rfl | (simp [rLogF, c_99, c_141]; done) | (simp_all [rLogF]; done) | rfl
        have eL : lp (rLogF ev a x y) (n + 1) k S = lp (rLogF ev a x y) n (k + 1) S3 := congrArg (lp (rLogF ev a x y) n (k + 1)) eB
        rw [eL] at hk
        exact ih (k + 1) S3 (by omega) hk
    · refine j_aload_n X dX6_log_102 rfl rfl (q := 1) rfl ?_
      refine j_iload_n X dX6_log_103 rfl rfl (q := 2) rfl ?_
      refine j_bipush X dX6_log_104 rfl (v := 12) (by decide) ?_
      refine j_iload X dX6_log_106 rfl (q := 0) rfl ?_
      refine j_iadd X dX6_log_108 rfl ?_
      refine j_topeq (y := nI (12 + k)) (nI_add 12 k) ?_
      refine j_calli X (c_X6_of l Z S h a (12 + k) (by omega)) (wm_ref (by decide)) ((fun _ => rfl) _) rfl lk_RX6_97 mi_X6_of ms_X6_of ini_RX6 mc_X6_of md_X6_of ⟨Nat.le_of_ble_eq_true rfl, Nat.le_of_ble_eq_true rfl⟩ ⟨Nat.le_of_ble_eq_true rfl, Nat.le_of_ble_eq_true rfl⟩ rfl (Nat.le_of_ble_eq_true rfl) (as := [.int (nI (a)), .int (nI (12 + k))]) (rest := [.int (nI ((ev + 3) + k)), .ref (zA Z (7) (0) (1))]) rfl dX6_log_109 rfl ?_
      refine j_goto X (tgt := 116) dX6_log_112 (by decide) ?_
      refine j_iastN X (k := (ev + 3) + k) (wm_ref (by decide)) (fun r => (fun _ => rfl) r) (by omega) (by decide) dX6_log_116 rfl ?_
      refine j_name (fun S4 eS4 => ?_)
      refine j_aload_n X dX6_log_117 rfl rfl (q := 1) rfl ?_
      refine jg_model X 0 (by decide) lk_RX6_7 rfl rfl dX6_log_118 rfl ?_
      refine j_iload X dX6_log_121 rfl (q := 3) rfl ?_
      refine j_bipush X dX6_log_123 rfl (v := 11) (by decide) ?_
      refine j_iadd X dX6_log_125 rfl ?_
      refine j_topeq (y := nI (ev + 11)) (nI_add ev 11) ?_
      refine j_iload X dX6_log_126 rfl (q := 0) rfl ?_
      refine j_iadd X dX6_log_128 rfl ?_
      refine j_topeq (y := nI ((ev + 11) + k)) (nI_add (ev + 11) k) ?_
      refine j_iload_n X dX6_log_129 rfl rfl (q := 2) rfl ?_
      refine j_iconst X dX6_log_130 rfl (v := -1) (by decide) ?_
      refine j_icmp_eq_f X dX6_log_131 rfl (tgt := 157) (by decide) (nI_nm1 (by omega)) ?_
      refine j_iload X dX6_log_134 rfl (q := 5) rfl ?_
      refine j_iload X dX6_log_136 rfl (q := 0) rfl ?_
      refine j_callSi X (c_X6_hasLine l Z S4 h (y) (nI (k))) lk_RX6_110 mt_X6_hasLine ini_RX6 mc_X6_hasLine md_X6_hasLine ⟨Nat.le_of_ble_eq_true rfl, Nat.le_of_ble_eq_true rfl⟩ ⟨Nat.le_of_ble_eq_true rfl, Nat.le_of_ble_eq_true rfl⟩ rfl (Nat.le_of_ble_eq_true rfl) (as := [.int (y), .int (nI (k))]) (rest := [.int (nI ((ev + 11) + k)), .ref (zA Z (7) (0) (1))]) rfl dX6_log_138 rfl ?_
      refine j_ifb_eq X dX6_log_141 rfl (tgt := 157) (by decide) (fun c_141_5 => ?_) (fun c_141_5 => ?_)
      · refine j_iconst X dX6_log_157 rfl (v := 0) (by decide) ?_
        refine j_iastN X (k := (ev + 11) + k) (wm_ref (by decide)) (fun r => (fun _ => rfl) r) (by omega) (by decide) dX6_log_158 rfl ?_
        refine j_name (fun S6 eS6 => ?_)
        refine j_iinc X dX6_log_159 rfl (q := 0) rfl (v := (nI (k + 1))) (nI_1 _) (by decide) (Ls2 := [(6, .int (nI (k + 1))), (0, .ref (zA Z (7) (0) (0))), (1, .int (nI (a))), (5, .int (nI (ev))), (3, .int (x)), (4, .int (y))]) rfl ?_
        refine j_goto X (tgt := 75) dX6_log_162 (by decide) ?_
        have eB : (rLogF ev a x y) k S = S6 := by subst eS4; subst eS6; first | with_reducible rfl | (simp [rLogF, c_99, c_141_5]; done) | (simp_all [rLogF]; done) | rfl
        have eL : lp (rLogF ev a x y) (n + 1) k S = lp (rLogF ev a x y) n (k + 1) S6 := congrArg (lp (rLogF ev a x y) n (k + 1)) eB
        rw [eL] at hk
        exact ih (k + 1) S6 (by omega) hk
      · refine j_aload_n X dX6_log_144 rfl rfl (q := 1) rfl ?_
        refine j_iload_n X dX6_log_145 rfl rfl (q := 2) rfl ?_
        refine j_bipush X dX6_log_146 rfl (v := 28) (by decide) ?_
        refine j_iload X dX6_log_148 rfl (q := 0) rfl ?_
        refine j_iadd X dX6_log_150 rfl ?_
        refine j_topeq (y := nI (28 + k)) (nI_add 28 k) ?_
        refine j_calli X (c_X6_of l Z S4 h a (28 + k) (by omega)) (wm_ref (by decide)) ((fun _ => rfl) _) rfl lk_RX6_97 mi_X6_of ms_X6_of ini_RX6 mc_X6_of md_X6_of ⟨Nat.le_of_ble_eq_true rfl, Nat.le_of_ble_eq_true rfl⟩ ⟨Nat.le_of_ble_eq_true rfl, Nat.le_of_ble_eq_true rfl⟩ rfl (Nat.le_of_ble_eq_true rfl) (as := [.int (nI (a)), .int (nI (28 + k))]) (rest := [.int (nI ((ev + 11) + k)), .ref (zA Z (7) (0) (1))]) rfl dX6_log_151 rfl ?_
        refine j_goto X (tgt := 158) dX6_log_154 (by decide) ?_
        refine j_iastN X (k := (ev + 11) + k) (wm_ref (by decide)) (fun r => (fun _ => rfl) r) (by omega) (by decide) dX6_log_158 rfl ?_
        refine j_name (fun S7 eS7 => ?_)
        refine j_iinc X dX6_log_159 rfl (q := 0) rfl (v := (nI (k + 1))) (nI_1 _) (by decide) (Ls2 := [(6, .int (nI (k + 1))), (0, .ref (zA Z (7) (0) (0))), (1, .int (nI (a))), (5, .int (nI (ev))), (3, .int (x)), (4, .int (y))]) rfl ?_
        refine j_goto X (tgt := 75) dX6_log_162 (by decide) ?_
        have eB : (rLogF ev a x y) k S = S7 := by subst eS4; subst eS7; first | with_reducible rfl | (simp [rLogF, c_99, c_141_5]; done) | (simp_all [rLogF]; done) | rfl
        have eL : lp (rLogF ev a x y) (n + 1) k S = lp (rLogF ev a x y) n (k + 1) S7 := congrArg (lp (rLogF ev a x y) n (k + 1)) eB
        rw [eL] at hk
        exact ih (k + 1) S7 (by omega) hk
set_option maxRecDepth 100000 in
set_option maxHeartbeats 4000000 in
theorem c_X6_log (l : Launch) (Z : wZ) (S : St) (h : Hl) (a : Nat) (ha : a < 4) (t x y : Int32) (hq : okI (S 7 0 1 21) 400) : Cv l yX6_log cX6_log 7 2 43 Z [.ref (zA Z (7) (0) (0)), .int (nI (a)), .int (t), .int (x), .int (y)] S h (rLog S a t x y) (h) := by
  have hq4 : rQ S ≤ 400 := hq.2
  refine Cv.of rfl (Nat.le_of_ble_eq_true rfl) (fun p e s mi args below meth c A0 Q X K => ?_)
  refine j_at rfl rfl (Ls3 := [(0, .ref (zA Z (7) (0) (0))), (1, .int (nI (a))), (2, .int (t)), (3, .int (x)), (4, .int (y))]) rfl rfl ?_
  refine j_aload_n X dX6_log_0 rfl rfl (q := 0) rfl ?_
  refine jg_model X 8 (by decide) lk_RX6_106 rfl rfl dX6_log_1 rfl ?_
  refine j_if_ne X dX6_log_4 rfl (tgt := 20) (by decide) (fun c_4 => ?_) (fun c_4 => ?_)
  · exact j_at (by first | with_reducible rfl | (simp [rLog, rLogH, rBump, c_4]; done) | (simp_all [rLog, rLogH, rBump]; done) | rfl) rfl rfl rfl (K _ _ dX6_log_20)
  · refine j_aload_n X dX6_log_7 rfl rfl (q := 0) rfl ?_
    refine jg_model X 0 (by decide) lk_RX6_7 rfl rfl dX6_log_8 rfl ?_
    refine j_bipush X dX6_log_11 rfl (v := 21) (by decide) ?_
    refine j_ialdN X (k := 21) (wm_ref (by decide)) ((fun _ => rfl) _) (by decide) (by decide) dX6_log_13 rfl ?_
    refine j_topeq (y := (nI (rQ S))) (hq.1) ?_
    refine j_sipush X dX6_log_14 rfl (v := 400) (by decide) ?_
    refine j_icmpN_ne X (a := rQ S) (b := 400) (by omega) (by omega) dX6_log_17 rfl (tgt := 21) (by decide) (fun c_17 => ?_) (fun c_17 => ?_)
    · refine j_sipush X dX6_log_21 rfl (v := 406) (by decide) ?_
      refine j_bipush X dX6_log_24 rfl (v := 19) (by decide) ?_
      refine j_aload_n X dX6_log_26 rfl rfl (q := 0) rfl ?_
      refine jg_model X 0 (by decide) lk_RX6_7 rfl rfl dX6_log_27 rfl ?_
      refine j_bipush X dX6_log_30 rfl (v := 21) (by decide) ?_
      refine j_ialdN X (k := 21) (wm_ref (by decide)) ((fun _ => rfl) _) (by decide) (by decide) dX6_log_32 rfl ?_
      refine j_topeq (y := (nI (rQ S))) (hq.1) ?_
      refine j_imul X dX6_log_33 rfl ?_
      refine j_topeq (y := nI (19 * (rQ S))) (pk_mul 19 (rQ S)) ?_
      refine j_iadd X dX6_log_34 rfl ?_
      refine j_topeq (y := nI (406 + (19 * (rQ S)))) (nI_add 406 (19 * (rQ S))) ?_
      refine j_istore X dX6_log_35 rfl (by decide) (Ls2 := [(5, .int (nI (406 + (19 * (rQ S))))), (0, .ref (zA Z (7) (0) (0))), (1, .int (nI (a))), (2, .int (t)), (3, .int (x)), (4, .int (y))]) rfl ?_
      refine j_aload_n X dX6_log_37 rfl rfl (q := 1) rfl ?_
      refine jg_model X 0 (by decide) lk_RX6_7 rfl rfl dX6_log_38 rfl ?_
      refine j_iload X dX6_log_41 rfl (q := 0) rfl ?_
      refine j_iload_n X dX6_log_43 rfl rfl (q := 2) rfl ?_
      refine j_iastN X (k := 406 + (19 * (rQ S))) (wm_ref (by decide)) (fun r => (fun _ => rfl) r) (by omega) (by decide) dX6_log_44 rfl ?_
      refine j_name (fun S1 eS1 => ?_)
      refine j_aload_n X dX6_log_45 rfl rfl (q := 1) rfl ?_
      refine jg_model X 0 (by decide) lk_RX6_7 rfl rfl dX6_log_46 rfl ?_
      refine j_iload X dX6_log_49 rfl (q := 0) rfl ?_
      refine j_iconst X dX6_log_51 rfl (v := 1) (by decide) ?_
      refine j_iadd X dX6_log_52 rfl ?_
      refine j_topeq (y := nI ((406 + (19 * (rQ S))) + 1)) (nI_add (406 + (19 * (rQ S))) 1) ?_
      refine j_iload_n X dX6_log_53 rfl rfl (q := 3) rfl ?_
      refine j_iastN X (k := (406 + (19 * (rQ S))) + 1) (wm_ref (by decide)) (fun r => (fun _ => rfl) r) (by omega) (by decide) dX6_log_54 rfl ?_
      refine j_name (fun S2 eS2 => ?_)
      refine j_aload_n X dX6_log_55 rfl rfl (q := 1) rfl ?_
      refine jg_model X 0 (by decide) lk_RX6_7 rfl rfl dX6_log_56 rfl ?_
      refine j_iload X dX6_log_59 rfl (q := 0) rfl ?_
      refine j_iconst X dX6_log_61 rfl (v := 2) (by decide) ?_
      refine j_iadd X dX6_log_62 rfl ?_
      refine j_topeq (y := nI ((406 + (19 * (rQ S))) + 2)) (nI_add (406 + (19 * (rQ S))) 2) ?_
      refine j_iload_n X dX6_log_63 rfl rfl (q := 4) rfl ?_
      refine j_sipush X dX6_log_64 rfl (v := 256) (by decide) ?_
      refine j_iload X dX6_log_67 rfl (q := 5) rfl ?_
      refine j_imul X dX6_log_69 rfl ?_
      refine j_iadd X dX6_log_70 rfl ?_
      refine j_iastN X (k := (406 + (19 * (rQ S))) + 2) (wm_ref (by decide)) (fun r => (fun _ => rfl) r) (by omega) (by decide) dX6_log_71 rfl ?_
      refine j_name (fun S3 eS3 => ?_)
      refine j_iconst X dX6_log_72 rfl (v := 0) (by decide) ?_
      refine j_istore X dX6_log_73 rfl (by decide) (Ls2 := [(6, .int (0)), (5, .int (nI (406 + (19 * (rQ S))))), (0, .ref (zA Z (7) (0) (0))), (1, .int (nI (a))), (2, .int (t)), (3, .int (x)), (4, .int (y))]) rfl ?_
      refine j_sub [0, 2, 3, 1, 5, 6] (Ls2 := [(6, .int (0)), (0, .ref (zA Z (7) (0) (0))), (1, .int (nI (a))), (5, .int (nI (406 + (19 * (rQ S))))), (3, .int (x)), (4, .int (y))]) rfl ?_
      refine L_log l Z h (406 + (19 * (rQ S))) (by have : rQ S ≤ 400 := hq.2; omega) a ha x y X 8 0 S3 (by omega) ?_
      refine j_name (fun S4 eS4 => ?_)
      refine j_aload_n X dX6_log_165 rfl rfl (q := 0) rfl ?_
      refine jg_model X 0 (by decide) lk_RX6_7 rfl rfl dX6_log_166 rfl ?_
      refine j_bipush X dX6_log_169 rfl (v := 21) (by decide) ?_
      refine j_dup2 X dX6_log_171 rfl rfl rfl ?_
      refine j_ialdN X (k := 21) (wm_ref (by decide)) ((fun _ => rfl) _) (by decide) (by decide) dX6_log_172 rfl ?_
      refine j_iconst X dX6_log_173 rfl (v := 1) (by decide) ?_
      refine j_iadd X dX6_log_174 rfl ?_
      refine j_iastN X (k := 21) (wm_ref (by decide)) (fun r => (fun _ => rfl) r) (by decide) (by decide) dX6_log_175 rfl ?_
      refine j_name (fun S5 eS5 => ?_)
      exact j_at (by subst eS1; subst eS2; subst eS3; subst eS4; subst eS5; first | with_reducible rfl | (simp [rLog, rLogH, rBump, c_4, c_17]; done) | (simp_all [rLog, rLogH, rBump]; done) | rfl) rfl rfl rfl (K _ _ dX6_log_176)
    · exact j_at (by first | with_reducible rfl | (simp [rLog, rLogH, rBump, c_4, c_17]; done) | (simp_all [rLog, rLogH, rBump]; done) | rfl) rfl rfl rfl (K _ _ dX6_log_20)
set_option maxRecDepth 100000 in
set_option maxHeartbeats 4000000 in
theorem L_logX (l : Launch) (Z : wZ) (h : Hl) (ev : Nat) (hev : ev + 19 ≤ 8006) (y : Int32) {p : Program} {e : Env} {s : State} {mi : MethodId} {args : Array Value} {below : List Frame} {meth : Method} {c : Code} {A0 : Nat → Prop} {Q : State → Prop} (X : JX p s mi args meth c cX6_log 7 yX6_log.cls Z A0) : ∀ (n k : Nat) (S : St), k + n = 8 → J p l e { frames := 2, cells := 0, slots := 0, locals := 43 } s mi args below meth c 7 Z A0 0 0 Q ((lp (rLogO ev) n k S)) h [(0, .ref (zA Z (7) (0) (0)))] 165 [] → J p l e { frames := 2, cells := 0, slots := 0, locals := 43 } s mi args below meth c 7 Z A0 0 0 Q S h [(6, .int (nI (k))), (0, .ref (zA Z (7) (0) (0))), (1, .int (-1)), (5, .int (nI (ev))), (3, .int (0)), (4, .int (y))] 75 [] := by
  intro n
  induction n with
  | zero =>
    intro k S hkn hk
    have hkN : 8 = k := by omega
    subst hkN
    refine j_iload X dX6_log_75 rfl (q := 0) rfl ?_
    refine j_bipush X dX6_log_77 rfl (v := 8) (by decide) ?_
    refine j_icmp_ge_t X (tgt := 165) dX6_log_79 (by decide) (nI_le (Nat.le_refl _) (by decide)) ?_
    refine j_sub [1] (Ls2 := [(0, .ref (zA Z (7) (0) (0)))]) rfl ?_
    exact hk
  | succ n ih =>
    intro k S hkn hk
    have hlt : k < 8 := by omega
    refine j_iload X dX6_log_75 rfl (q := 0) rfl ?_
    refine j_bipush X dX6_log_77 rfl (v := 8) (by decide) ?_
    refine j_icmp_ge_f X dX6_log_79 rfl (tgt := 165) (by decide) (nI_ge hlt (by decide)) ?_
    refine j_aload_n X dX6_log_82 rfl rfl (q := 1) rfl ?_
    refine jg_model X 0 (by decide) lk_RX6_7 rfl rfl dX6_log_83 rfl ?_
    refine j_iload X dX6_log_86 rfl (q := 3) rfl ?_
    refine j_iconst X dX6_log_88 rfl (v := 3) (by decide) ?_
    refine j_iadd X dX6_log_89 rfl ?_
    refine j_topeq (y := nI (ev + 3)) (nI_add ev 3) ?_
    refine j_iload X dX6_log_90 rfl (q := 0) rfl ?_
    refine j_iadd X dX6_log_92 rfl ?_
    refine j_topeq (y := nI ((ev + 3) + k)) (nI_add (ev + 3) k) ?_
    refine j_iload_n X dX6_log_93 rfl rfl (q := 4) rfl ?_
    refine j_iload X dX6_log_94 rfl (q := 0) rfl ?_
    refine j_callSi X (c_X6_hasLine l Z S h (0) (nI (k))) lk_RX6_110 mt_X6_hasLine ini_RX6 mc_X6_hasLine md_X6_hasLine ⟨Nat.le_of_ble_eq_true rfl, Nat.le_of_ble_eq_true rfl⟩ ⟨Nat.le_of_ble_eq_true rfl, Nat.le_of_ble_eq_true rfl⟩ rfl (Nat.le_of_ble_eq_true rfl) (as := [.int (0), .int (nI (k))]) (rest := [.int (nI ((ev + 3) + k)), .ref (zA Z (7) (0) (1))]) rfl dX6_log_96 rfl ?_
    refine j_if_eq_t X (tgt := 115) dX6_log_99 (by decide) (by rw [rHas_0 k (by omega)]; rfl) ?_
    refine j_iconst X dX6_log_115 rfl (v := 0) (by decide) ?_
    refine j_iastN X (k := (ev + 3) + k) (wm_ref (by decide)) (fun r => (fun _ => rfl) r) (by omega) (by decide) dX6_log_116 rfl ?_
    refine j_name (fun S1 eS1 => ?_)
    refine j_aload_n X dX6_log_117 rfl rfl (q := 1) rfl ?_
    refine jg_model X 0 (by decide) lk_RX6_7 rfl rfl dX6_log_118 rfl ?_
    refine j_iload X dX6_log_121 rfl (q := 3) rfl ?_
    refine j_bipush X dX6_log_123 rfl (v := 11) (by decide) ?_
    refine j_iadd X dX6_log_125 rfl ?_
    refine j_topeq (y := nI (ev + 11)) (nI_add ev 11) ?_
    refine j_iload X dX6_log_126 rfl (q := 0) rfl ?_
    refine j_iadd X dX6_log_128 rfl ?_
    refine j_topeq (y := nI ((ev + 11) + k)) (nI_add (ev + 11) k) ?_
    refine j_iload_n X dX6_log_129 rfl rfl (q := 2) rfl ?_
    refine j_iconst X dX6_log_130 rfl (v := -1) (by decide) ?_
    refine j_icmp_eq_t X (tgt := 157) dX6_log_131 (by decide) (by decide) ?_
    refine j_iconst X dX6_log_157 rfl (v := 0) (by decide) ?_
    refine j_iastN X (k := (ev + 11) + k) (wm_ref (by decide)) (fun r => (fun _ => rfl) r) (by omega) (by decide) dX6_log_158 rfl ?_
    refine j_name (fun S2 eS2 => ?_)
    refine j_iinc X dX6_log_159 rfl (q := 0) rfl (v := (nI (k + 1))) (nI_1 _) (by decide) (Ls2 := [(6, .int (nI (k + 1))), (0, .ref (zA Z (7) (0) (0))), (1, .int (-1)), (5, .int (nI (ev))), (3, .int (0)), (4, .int (y))]) rfl ?_
    refine j_goto X (tgt := 75) dX6_log_162 (by decide) ?_
    have eB : (rLogO ev) k S = S2 := by subst eS1; subst eS2; first | with_reducible rfl | (simp [rLogO]; done) | (simp_all [rLogO]; done) | rfl
    have eL : lp (rLogO ev) (n + 1) k S = lp (rLogO ev) n (k + 1) S2 := congrArg (lp (rLogO ev) n (k + 1)) eB
    rw [eL] at hk
    exact ih (k + 1) S2 (by omega) hk
set_option maxRecDepth 100000 in
set_option maxHeartbeats 4000000 in
theorem c_X6_logX (l : Launch) (Z : wZ) (S : St) (h : Hl) (y : Int32) (hq : okI (S 7 0 1 21) 400) : Cv l yX6_log cX6_log 7 2 43 Z [.ref (zA Z (7) (0) (0)), .int (-1), .int (-1), .int (0), .int (y)] S h (rLogX S y) (h) := by
  have hq4 : rQ S ≤ 400 := hq.2
  refine Cv.of rfl (Nat.le_of_ble_eq_true rfl) (fun p e s mi args below meth c A0 Q X K => ?_)
  refine j_at rfl rfl (Ls3 := [(0, .ref (zA Z (7) (0) (0))), (1, .int (-1)), (2, .int (-1)), (3, .int (0)), (4, .int (y))]) rfl rfl ?_
  refine j_aload_n X dX6_log_0 rfl rfl (q := 0) rfl ?_
  refine jg_model X 8 (by decide) lk_RX6_106 rfl rfl dX6_log_1 rfl ?_
  refine j_if_ne X dX6_log_4 rfl (tgt := 20) (by decide) (fun c_4 => ?_) (fun c_4 => ?_)
  · exact j_at (by first | with_reducible rfl | (simp [rLogX, rLogH, rBump, c_4]; done) | (simp_all [rLogX, rLogH, rBump]; done) | rfl) rfl rfl rfl (K _ _ dX6_log_20)
  · refine j_aload_n X dX6_log_7 rfl rfl (q := 0) rfl ?_
    refine jg_model X 0 (by decide) lk_RX6_7 rfl rfl dX6_log_8 rfl ?_
    refine j_bipush X dX6_log_11 rfl (v := 21) (by decide) ?_
    refine j_ialdN X (k := 21) (wm_ref (by decide)) ((fun _ => rfl) _) (by decide) (by decide) dX6_log_13 rfl ?_
    refine j_topeq (y := (nI (rQ S))) (hq.1) ?_
    refine j_sipush X dX6_log_14 rfl (v := 400) (by decide) ?_
    refine j_icmpN_ne X (a := rQ S) (b := 400) (by omega) (by omega) dX6_log_17 rfl (tgt := 21) (by decide) (fun c_17 => ?_) (fun c_17 => ?_)
    · refine j_sipush X dX6_log_21 rfl (v := 406) (by decide) ?_
      refine j_bipush X dX6_log_24 rfl (v := 19) (by decide) ?_
      refine j_aload_n X dX6_log_26 rfl rfl (q := 0) rfl ?_
      refine jg_model X 0 (by decide) lk_RX6_7 rfl rfl dX6_log_27 rfl ?_
      refine j_bipush X dX6_log_30 rfl (v := 21) (by decide) ?_
      refine j_ialdN X (k := 21) (wm_ref (by decide)) ((fun _ => rfl) _) (by decide) (by decide) dX6_log_32 rfl ?_
      refine j_topeq (y := (nI (rQ S))) (hq.1) ?_
      refine j_imul X dX6_log_33 rfl ?_
      refine j_topeq (y := nI (19 * (rQ S))) (pk_mul 19 (rQ S)) ?_
      refine j_iadd X dX6_log_34 rfl ?_
      refine j_topeq (y := nI (406 + (19 * (rQ S)))) (nI_add 406 (19 * (rQ S))) ?_
      refine j_istore X dX6_log_35 rfl (by decide) (Ls2 := [(5, .int (nI (406 + (19 * (rQ S))))), (0, .ref (zA Z (7) (0) (0))), (1, .int (-1)), (2, .int (-1)), (3, .int (0)), (4, .int (y))]) rfl ?_
      refine j_aload_n X dX6_log_37 rfl rfl (q := 1) rfl ?_
      refine jg_model X 0 (by decide) lk_RX6_7 rfl rfl dX6_log_38 rfl ?_
      refine j_iload X dX6_log_41 rfl (q := 0) rfl ?_
      refine j_iload_n X dX6_log_43 rfl rfl (q := 2) rfl ?_
      refine j_iastN X (k := 406 + (19 * (rQ S))) (wm_ref (by decide)) (fun r => (fun _ => rfl) r) (by omega) (by decide) dX6_log_44 rfl ?_
      refine j_name (fun S1 eS1 => ?_)
      refine j_aload_n X dX6_log_45 rfl rfl (q := 1) rfl ?_
      refine jg_model X 0 (by decide) lk_RX6_7 rfl rfl dX6_log_46 rfl ?_
      refine j_iload X dX6_log_49 rfl (q := 0) rfl ?_
      refine j_iconst X dX6_log_51 rfl (v := 1) (by decide) ?_
      refine j_iadd X dX6_log_52 rfl ?_
      refine j_topeq (y := nI ((406 + (19 * (rQ S))) + 1)) (nI_add (406 + (19 * (rQ S))) 1) ?_
      refine j_iload_n X dX6_log_53 rfl rfl (q := 3) rfl ?_
      refine j_iastN X (k := (406 + (19 * (rQ S))) + 1) (wm_ref (by decide)) (fun r => (fun _ => rfl) r) (by omega) (by decide) dX6_log_54 rfl ?_
      refine j_name (fun S2 eS2 => ?_)
      refine j_aload_n X dX6_log_55 rfl rfl (q := 1) rfl ?_
      refine jg_model X 0 (by decide) lk_RX6_7 rfl rfl dX6_log_56 rfl ?_
      refine j_iload X dX6_log_59 rfl (q := 0) rfl ?_
      refine j_iconst X dX6_log_61 rfl (v := 2) (by decide) ?_
      refine j_iadd X dX6_log_62 rfl ?_
      refine j_topeq (y := nI ((406 + (19 * (rQ S))) + 2)) (nI_add (406 + (19 * (rQ S))) 2) ?_
      refine j_iload_n X dX6_log_63 rfl rfl (q := 4) rfl ?_
      refine j_sipush X dX6_log_64 rfl (v := 256) (by decide) ?_
      refine j_iload X dX6_log_67 rfl (q := 5) rfl ?_
      refine j_imul X dX6_log_69 rfl ?_
      refine j_iadd X dX6_log_70 rfl ?_
      refine j_iastN X (k := (406 + (19 * (rQ S))) + 2) (wm_ref (by decide)) (fun r => (fun _ => rfl) r) (by omega) (by decide) dX6_log_71 rfl ?_
      refine j_name (fun S3 eS3 => ?_)
      refine j_iconst X dX6_log_72 rfl (v := 0) (by decide) ?_
      refine j_istore X dX6_log_73 rfl (by decide) (Ls2 := [(6, .int (0)), (5, .int (nI (406 + (19 * (rQ S))))), (0, .ref (zA Z (7) (0) (0))), (1, .int (-1)), (2, .int (-1)), (3, .int (0)), (4, .int (y))]) rfl ?_
      refine j_sub [0, 2, 3, 1, 5, 6] (Ls2 := [(6, .int (0)), (0, .ref (zA Z (7) (0) (0))), (1, .int (-1)), (5, .int (nI (406 + (19 * (rQ S))))), (3, .int (0)), (4, .int (y))]) rfl ?_
      refine L_logX l Z h (406 + (19 * (rQ S))) (by have : rQ S ≤ 400 := hq.2; omega) y X 8 0 S3 (by omega) ?_
      refine j_name (fun S4 eS4 => ?_)
      refine j_aload_n X dX6_log_165 rfl rfl (q := 0) rfl ?_
      refine jg_model X 0 (by decide) lk_RX6_7 rfl rfl dX6_log_166 rfl ?_
      refine j_bipush X dX6_log_169 rfl (v := 21) (by decide) ?_
      refine j_dup2 X dX6_log_171 rfl rfl rfl ?_
      refine j_ialdN X (k := 21) (wm_ref (by decide)) ((fun _ => rfl) _) (by decide) (by decide) dX6_log_172 rfl ?_
      refine j_iconst X dX6_log_173 rfl (v := 1) (by decide) ?_
      refine j_iadd X dX6_log_174 rfl ?_
      refine j_iastN X (k := 21) (wm_ref (by decide)) (fun r => (fun _ => rfl) r) (by decide) (by decide) dX6_log_175 rfl ?_
      refine j_name (fun S5 eS5 => ?_)
      exact j_at (by subst eS1; subst eS2; subst eS3; subst eS4; subst eS5; first | with_reducible rfl | (simp [rLogX, rLogH, rBump, c_4, c_17]; done) | (simp_all [rLogX, rLogH, rBump]; done) | rfl) rfl rfl rfl (K _ _ dX6_log_176)
    · exact j_at (by first | with_reducible rfl | (simp [rLogX, rLogH, rBump, c_4, c_17]; done) | (simp_all [rLogX, rLogH, rBump]; done) | rfl) rfl rfl rfl (K _ _ dX6_log_20)
set_option maxRecDepth 100000 in
set_option maxHeartbeats 4000000 in
theorem L_ab (l : Launch) (Z : wZ) (h : Hl) (a : Nat) (ha : a < 4) (u : Nat) {p : Program} {e : Env} {s : State} {mi : MethodId} {args : Array Value} {below : List Frame} {meth : Method} {c : Code} {A0 : Nat → Prop} {Q : State → Prop} (X : JX p s mi args meth c cX6_abort 4 yX6_abort.cls Z A0) : ∀ (n k : Nat) (S : St), k + n = 8 → J p l e { frames := 2, cells := 0, slots := 0, locals := 44 } s mi args below meth c 4 Z A0 0 0 Q ((lp (rAbF a) n k S)) h [(0, .ref (zA Z (7) (0) (0))), (1, .int (nI (a))), (2, .int (nI (u)))] 48 [] → J p l e { frames := 2, cells := 0, slots := 0, locals := 44 } s mi args below meth c 4 Z A0 0 0 Q S h [(3, .int (nI (k))), (0, .ref (zA Z (7) (0) (0))), (1, .int (nI (a))), (2, .int (nI (u)))] 2 [] := by
  intro n
  induction n with
  | zero =>
    intro k S hkn hk
    have hkN : 8 = k := by omega
    subst hkN
    refine j_iload_n X dX6_abort_2 rfl rfl (q := 0) rfl ?_
    refine j_bipush X dX6_abort_3 rfl (v := 8) (by decide) ?_
    refine j_icmp_ge_t X (tgt := 48) dX6_abort_5 (by decide) (nI_le (Nat.le_refl _) (by decide)) ?_
    refine j_sub [1, 2, 3] (Ls2 := [(0, .ref (zA Z (7) (0) (0))), (1, .int (nI (a))), (2, .int (nI (u)))]) rfl ?_
    exact hk
  | succ n ih =>
    intro k S hkn hk
    have hlt : k < 8 := by omega
    refine j_iload_n X dX6_abort_2 rfl rfl (q := 0) rfl ?_
    refine j_bipush X dX6_abort_3 rfl (v := 8) (by decide) ?_
    refine j_icmp_ge_f X dX6_abort_5 rfl (tgt := 48) (by decide) (nI_ge hlt (by decide)) ?_
    refine j_aload_n X dX6_abort_8 rfl rfl (q := 1) rfl ?_
    refine j_iload_n X dX6_abort_9 rfl rfl (q := 2) rfl ?_
    refine j_bipush X dX6_abort_10 rfl (v := 8) (by decide) ?_
    refine j_calli X (c_X6_of l Z S h a 8 (by omega)) (wm_ref (by decide)) ((fun _ => rfl) _) rfl lk_RX6_97 mi_X6_of ms_X6_of ini_RX6 mc_X6_of md_X6_of ⟨Nat.le_of_ble_eq_true rfl, Nat.le_of_ble_eq_true rfl⟩ ⟨Nat.le_of_ble_eq_true rfl, Nat.le_of_ble_eq_true rfl⟩ rfl (Nat.le_of_ble_eq_true rfl) (as := [.int (nI (a)), .int (8)]) (rest := []) rfl dX6_abort_12 rfl ?_
    refine j_iload_n X dX6_abort_15 rfl rfl (q := 0) rfl ?_
    refine j_callSi X (c_X6_hasLine l Z S h (rOf S a 8) (nI (k))) lk_RX6_110 mt_X6_hasLine ini_RX6 mc_X6_hasLine md_X6_hasLine ⟨Nat.le_of_ble_eq_true rfl, Nat.le_of_ble_eq_true rfl⟩ ⟨Nat.le_of_ble_eq_true rfl, Nat.le_of_ble_eq_true rfl⟩ rfl (Nat.le_of_ble_eq_true rfl) (as := [.int (rOf S a 8), .int (nI (k))]) (rest := []) rfl dX6_abort_16 rfl ?_
    refine j_ifb_eq X dX6_abort_19 rfl (tgt := 42) (by decide) (fun c_19 => ?_) (fun c_19 => ?_)
    · refine j_iinc X dX6_abort_42 rfl (q := 0) rfl (v := (nI (k + 1))) (nI_1 _) (by decide) (Ls2 := [(3, .int (nI (k + 1))), (0, .ref (zA Z (7) (0) (0))), (1, .int (nI (a))), (2, .int (nI (u)))]) rfl ?_
      refine j_goto X (tgt := 2) dX6_abort_45 (by decide) ?_
      have eB : (rAbF a) k S = S := by first | with_reducible rfl | (simp [rAbF, c_19]; done) | (simp_all [rAbF]; done) | rfl
      have eL : lp (rAbF a) (n + 1) k S = lp (rAbF a) n (k + 1) S := congrArg (lp (rAbF a) n (k + 1)) eB
      rw [eL] at hk
      exact ih (k + 1) S (by omega) hk
    · refine j_aload_n X dX6_abort_22 rfl rfl (q := 1) rfl ?_
      refine j_iload_n X dX6_abort_23 rfl rfl (q := 2) rfl ?_
      refine j_bipush X dX6_abort_24 rfl (v := 20) (by decide) ?_
      refine j_iload_n X dX6_abort_26 rfl rfl (q := 0) rfl ?_
      refine j_iadd X dX6_abort_27 rfl ?_
      refine j_topeq (y := nI (20 + k)) (nI_add 20 k) ?_
      refine j_iconst X dX6_abort_28 rfl (v := 0) (by decide) ?_
      refine j_callv X (c_X6_put l Z S h a (20 + k) (0) (by omega)) (wm_ref (by decide)) ((fun _ => rfl) _) rfl lk_RX6_60 mi_X6_put ms_X6_put ini_RX6 mc_X6_put md_X6_put ⟨Nat.le_of_ble_eq_true rfl, Nat.le_of_ble_eq_true rfl⟩ ⟨Nat.le_of_ble_eq_true rfl, Nat.le_of_ble_eq_true rfl⟩ rfl (Nat.le_of_ble_eq_true rfl) (as := [.int (nI (a)), .int (nI (20 + k)), .int (0)]) (rest := []) rfl dX6_abort_29 rfl ?_
      refine j_name (fun S1 eS1 => ?_)
      refine j_aload_n X dX6_abort_32 rfl rfl (q := 1) rfl ?_
      refine j_iload_n X dX6_abort_33 rfl rfl (q := 2) rfl ?_
      refine j_bipush X dX6_abort_34 rfl (v := 28) (by decide) ?_
      refine j_iload_n X dX6_abort_36 rfl rfl (q := 0) rfl ?_
      refine j_iadd X dX6_abort_37 rfl ?_
      refine j_topeq (y := nI (28 + k)) (nI_add 28 k) ?_
      refine j_iconst X dX6_abort_38 rfl (v := 0) (by decide) ?_
      refine j_callv X (c_X6_put l Z S1 h a (28 + k) (0) (by omega)) (wm_ref (by decide)) ((fun _ => rfl) _) rfl lk_RX6_60 mi_X6_put ms_X6_put ini_RX6 mc_X6_put md_X6_put ⟨Nat.le_of_ble_eq_true rfl, Nat.le_of_ble_eq_true rfl⟩ ⟨Nat.le_of_ble_eq_true rfl, Nat.le_of_ble_eq_true rfl⟩ rfl (Nat.le_of_ble_eq_true rfl) (as := [.int (nI (a)), .int (nI (28 + k)), .int (0)]) (rest := []) rfl dX6_abort_39 rfl ?_
      refine j_name (fun S2 eS2 => ?_)
      refine j_iinc X dX6_abort_42 rfl (q := 0) rfl (v := (nI (k + 1))) (nI_1 _) (by decide) (Ls2 := [(3, .int (nI (k + 1))), (0, .ref (zA Z (7) (0) (0))), (1, .int (nI (a))), (2, .int (nI (u)))]) rfl ?_
      refine j_goto X (tgt := 2) dX6_abort_45 (by decide) ?_
      have eB : (rAbF a) k S = S2 := by subst eS1; subst eS2; first | with_reducible rfl | (simp [rAbF, c_19]; done) | (simp_all [rAbF]; done) | rfl
      have eL : lp (rAbF a) (n + 1) k S = lp (rAbF a) n (k + 1) S2 := congrArg (lp (rAbF a) n (k + 1)) eB
      rw [eL] at hk
      exact ih (k + 1) S2 (by omega) hk
set_option maxRecDepth 100000 in
set_option maxHeartbeats 4000000 in
theorem c_X6_abort (l : Launch) (Z : wZ) (S : St) (h : Hl) (a : Nat) (ha : a < 4) (u : Nat) (hu : u < 8) : Cv l yX6_abort cX6_abort 4 2 44 Z [.ref (zA Z (7) (0) (0)), .int (nI (a)), .int (nI (u))] S h (rAbort S a u) (h) := by
  refine Cv.of rfl (Nat.le_of_ble_eq_true rfl) (fun p e s mi args below meth c A0 Q X K => ?_)
  refine j_at rfl rfl (Ls3 := [(0, .ref (zA Z (7) (0) (0))), (1, .int (nI (a))), (2, .int (nI (u)))]) rfl rfl ?_
  refine j_iconst X dX6_abort_0 rfl (v := 0) (by decide) ?_
  refine j_istore_n X dX6_abort_1 rfl rfl (by decide) (Ls2 := [(3, .int (0)), (0, .ref (zA Z (7) (0) (0))), (1, .int (nI (a))), (2, .int (nI (u)))]) rfl ?_
  refine j_sub [0, 1, 2, 3] (Ls2 := [(3, .int (0)), (0, .ref (zA Z (7) (0) (0))), (1, .int (nI (a))), (2, .int (nI (u)))]) rfl ?_
  refine L_ab l Z h a ha u X 8 0 S (by omega) ?_
  refine j_name (fun S1 eS1 => ?_)
  refine j_aload_n X dX6_abort_48 rfl rfl (q := 0) rfl ?_
  refine j_iload_n X dX6_abort_49 rfl rfl (q := 1) rfl ?_
  refine j_iconst X dX6_abort_50 rfl (v := 1) (by decide) ?_
  refine j_aload_n X dX6_abort_51 rfl rfl (q := 0) rfl ?_
  refine j_iload_n X dX6_abort_52 rfl rfl (q := 1) rfl ?_
  refine j_iconst X dX6_abort_53 rfl (v := 5) (by decide) ?_
  refine j_calli X (c_X6_of l Z S1 h a 5 (by omega)) (wm_ref (by decide)) ((fun _ => rfl) _) rfl lk_RX6_97 mi_X6_of ms_X6_of ini_RX6 mc_X6_of md_X6_of ⟨Nat.le_of_ble_eq_true rfl, Nat.le_of_ble_eq_true rfl⟩ ⟨Nat.le_of_ble_eq_true rfl, Nat.le_of_ble_eq_true rfl⟩ rfl (Nat.le_of_ble_eq_true rfl) (as := [.int (nI (a)), .int (5)]) (rest := [.int (1), .int (nI (a)), .ref (zA Z (7) (0) (0))]) rfl dX6_abort_54 rfl ?_
  refine j_callv X (c_X6_put l Z S1 h a 1 (rOf S1 a 5) (by omega)) (wm_ref (by decide)) ((fun _ => rfl) _) rfl lk_RX6_60 mi_X6_put ms_X6_put ini_RX6 mc_X6_put md_X6_put ⟨Nat.le_of_ble_eq_true rfl, Nat.le_of_ble_eq_true rfl⟩ ⟨Nat.le_of_ble_eq_true rfl, Nat.le_of_ble_eq_true rfl⟩ rfl (Nat.le_of_ble_eq_true rfl) (as := [.int (nI (a)), .int (1), .int (rOf S1 a 5)]) (rest := []) rfl dX6_abort_57 rfl ?_
  refine j_name (fun S2 eS2 => ?_)
  refine j_aload_n X dX6_abort_60 rfl rfl (q := 0) rfl ?_
  refine j_iload_n X dX6_abort_61 rfl rfl (q := 1) rfl ?_
  refine j_iconst X dX6_abort_62 rfl (v := 0) (by decide) ?_
  refine j_aload_n X dX6_abort_63 rfl rfl (q := 0) rfl ?_
  refine j_iload_n X dX6_abort_64 rfl rfl (q := 1) rfl ?_
  refine j_bipush X dX6_abort_65 rfl (v := 6) (by decide) ?_
  refine j_calli X (c_X6_of l Z S2 h a 6 (by omega)) (wm_ref (by decide)) ((fun _ => rfl) _) rfl lk_RX6_97 mi_X6_of ms_X6_of ini_RX6 mc_X6_of md_X6_of ⟨Nat.le_of_ble_eq_true rfl, Nat.le_of_ble_eq_true rfl⟩ ⟨Nat.le_of_ble_eq_true rfl, Nat.le_of_ble_eq_true rfl⟩ rfl (Nat.le_of_ble_eq_true rfl) (as := [.int (nI (a)), .int (6)]) (rest := [.int (0), .int (nI (a)), .ref (zA Z (7) (0) (0))]) rfl dX6_abort_67 rfl ?_
  refine j_callv X (c_X6_put l Z S2 h a 0 (rOf S2 a 6) (by omega)) (wm_ref (by decide)) ((fun _ => rfl) _) rfl lk_RX6_60 mi_X6_put ms_X6_put ini_RX6 mc_X6_put md_X6_put ⟨Nat.le_of_ble_eq_true rfl, Nat.le_of_ble_eq_true rfl⟩ ⟨Nat.le_of_ble_eq_true rfl, Nat.le_of_ble_eq_true rfl⟩ rfl (Nat.le_of_ble_eq_true rfl) (as := [.int (nI (a)), .int (0), .int (rOf S2 a 6)]) (rest := []) rfl dX6_abort_70 rfl ?_
  refine j_name (fun S3 eS3 => ?_)
  refine j_aload_n X dX6_abort_73 rfl rfl (q := 0) rfl ?_
  refine j_iload_n X dX6_abort_74 rfl rfl (q := 1) rfl ?_
  refine j_bipush X dX6_abort_75 rfl (v := 7) (by decide) ?_
  refine j_iconst X dX6_abort_77 rfl (v := 0) (by decide) ?_
  refine j_callv X (c_X6_put l Z S3 h a 7 (0) (by omega)) (wm_ref (by decide)) ((fun _ => rfl) _) rfl lk_RX6_60 mi_X6_put ms_X6_put ini_RX6 mc_X6_put md_X6_put ⟨Nat.le_of_ble_eq_true rfl, Nat.le_of_ble_eq_true rfl⟩ ⟨Nat.le_of_ble_eq_true rfl, Nat.le_of_ble_eq_true rfl⟩ rfl (Nat.le_of_ble_eq_true rfl) (as := [.int (nI (a)), .int (7), .int (0)]) (rest := []) rfl dX6_abort_78 rfl ?_
  refine j_name (fun S4 eS4 => ?_)
  refine j_aload_n X dX6_abort_81 rfl rfl (q := 0) rfl ?_
  refine j_iload_n X dX6_abort_82 rfl rfl (q := 1) rfl ?_
  refine j_bipush X dX6_abort_83 rfl (v := 8) (by decide) ?_
  refine j_iconst X dX6_abort_85 rfl (v := 0) (by decide) ?_
  refine j_callv X (c_X6_put l Z S4 h a 8 (0) (by omega)) (wm_ref (by decide)) ((fun _ => rfl) _) rfl lk_RX6_60 mi_X6_put ms_X6_put ini_RX6 mc_X6_put md_X6_put ⟨Nat.le_of_ble_eq_true rfl, Nat.le_of_ble_eq_true rfl⟩ ⟨Nat.le_of_ble_eq_true rfl, Nat.le_of_ble_eq_true rfl⟩ rfl (Nat.le_of_ble_eq_true rfl) (as := [.int (nI (a)), .int (8), .int (0)]) (rest := []) rfl dX6_abort_86 rfl ?_
  refine j_name (fun S5 eS5 => ?_)
  refine j_aload_n X dX6_abort_89 rfl rfl (q := 0) rfl ?_
  refine j_iload_n X dX6_abort_90 rfl rfl (q := 1) rfl ?_
  refine j_bipush X dX6_abort_91 rfl (v := 11) (by decide) ?_
  refine j_iconst X dX6_abort_93 rfl (v := 0) (by decide) ?_
  refine j_callv X (c_X6_put l Z S5 h a 11 (0) (by omega)) (wm_ref (by decide)) ((fun _ => rfl) _) rfl lk_RX6_60 mi_X6_put ms_X6_put ini_RX6 mc_X6_put md_X6_put ⟨Nat.le_of_ble_eq_true rfl, Nat.le_of_ble_eq_true rfl⟩ ⟨Nat.le_of_ble_eq_true rfl, Nat.le_of_ble_eq_true rfl⟩ rfl (Nat.le_of_ble_eq_true rfl) (as := [.int (nI (a)), .int (11), .int (0)]) (rest := []) rfl dX6_abort_94 rfl ?_
  refine j_name (fun S6 eS6 => ?_)
  refine j_aload_n X dX6_abort_97 rfl rfl (q := 0) rfl ?_
  refine j_iload_n X dX6_abort_98 rfl rfl (q := 1) rfl ?_
  refine j_iconst X dX6_abort_99 rfl (v := 3) (by decide) ?_
  refine j_iconst X dX6_abort_100 rfl (v := 0) (by decide) ?_
  refine j_callv X (c_X6_put l Z S6 h a 3 (0) (by omega)) (wm_ref (by decide)) ((fun _ => rfl) _) rfl lk_RX6_60 mi_X6_put ms_X6_put ini_RX6 mc_X6_put md_X6_put ⟨Nat.le_of_ble_eq_true rfl, Nat.le_of_ble_eq_true rfl⟩ ⟨Nat.le_of_ble_eq_true rfl, Nat.le_of_ble_eq_true rfl⟩ rfl (Nat.le_of_ble_eq_true rfl) (as := [.int (nI (a)), .int (3), .int (0)]) (rest := []) rfl dX6_abort_101 rfl ?_
  refine j_name (fun S7 eS7 => ?_)
  refine j_aload_n X dX6_abort_104 rfl rfl (q := 0) rfl ?_
  refine jg_model X 0 (by decide) lk_RX6_7 rfl rfl dX6_abort_105 rfl ?_
  refine j_iload_n X dX6_abort_108 rfl rfl (q := 1) rfl ?_
  refine j_bipush X dX6_abort_109 rfl (v := 10) (by decide) ?_
  refine j_callSi X (c_X6_at l Z S7 h a 10) lk_RX6_52 mt_X6_at ini_RX6 mc_X6_at md_X6_at ⟨Nat.le_of_ble_eq_true rfl, Nat.le_of_ble_eq_true rfl⟩ ⟨Nat.le_of_ble_eq_true rfl, Nat.le_of_ble_eq_true rfl⟩ rfl (Nat.le_of_ble_eq_true rfl) (as := [.int (nI (a)), .int (10)]) (rest := [.ref (zA Z (7) (0) (1))]) rfl dX6_abort_111 rfl ?_
  refine j_dup2 X dX6_abort_114 rfl rfl rfl ?_
  refine j_ialdN X (k := 22 + 96 * a + 10) (wm_ref (by decide)) ((fun _ => rfl) _) (by omega) (by decide) dX6_abort_115 rfl ?_
  refine j_iconst X dX6_abort_116 rfl (v := 1) (by decide) ?_
  refine j_iadd X dX6_abort_117 rfl ?_
  refine j_iastN X (k := 22 + 96 * a + 10) (wm_ref (by decide)) (fun r => (fun _ => rfl) r) (by omega) (by decide) dX6_abort_118 rfl ?_
  refine j_name (fun S8 eS8 => ?_)
  refine j_aload_n X dX6_abort_119 rfl rfl (q := 0) rfl ?_
  refine jg_model X 0 (by decide) lk_RX6_7 rfl rfl dX6_abort_120 rfl ?_
  refine j_bipush X dX6_abort_123 rfl (v := 13) (by decide) ?_
  refine j_iload_n X dX6_abort_125 rfl rfl (q := 2) rfl ?_
  refine j_iadd X dX6_abort_126 rfl ?_
  refine j_topeq (y := nI (13 + u)) (nI_add 13 u) ?_
  refine j_dup2 X dX6_abort_127 rfl rfl rfl ?_
  refine j_ialdN X (k := 13 + u) (wm_ref (by decide)) ((fun _ => rfl) _) (by omega) (by decide) dX6_abort_128 rfl ?_
  refine j_iconst X dX6_abort_129 rfl (v := 1) (by decide) ?_
  refine j_iadd X dX6_abort_130 rfl ?_
  refine j_iastN X (k := 13 + u) (wm_ref (by decide)) (fun r => (fun _ => rfl) r) (by omega) (by decide) dX6_abort_131 rfl ?_
  refine j_name (fun S9 eS9 => ?_)
  refine j_aload_n X dX6_abort_132 rfl rfl (q := 0) rfl ?_
  refine j_dup X dX6_abort_133 rfl rfl ?_
  refine jg_model X 13 (by decide) lk_RX6_114 rfl rfl dX6_abort_134 rfl ?_
  refine j_iconst X dX6_abort_137 rfl (v := 1) (by decide) ?_
  refine j_iadd X dX6_abort_138 rfl ?_
  refine jp_model X 13 (by decide) lk_RX6_114 rfl rfl rfl (vp_nar_int _) rfl rfl dX6_abort_139 rfl ?_
  refine j_name (fun S10 eS10 => ?_)
  exact j_at (by subst eS1; subst eS2; subst eS3; subst eS4; subst eS5; subst eS6; subst eS7; subst eS8; subst eS9; subst eS10; first | with_reducible rfl | (simp [rAbort, rBump]; done) | (simp_all [rAbort, rBump]; done) | rfl) rfl rfl rfl (K _ _ dX6_abort_142)
set_option maxRecDepth 100000 in
set_option maxHeartbeats 4000000 in
theorem c_X6_isInWay (l : Launch) (Z : wZ) (S : St) (h : Hl) (a : Nat) (ha : a < 4) (x : Int32) (w : Bool) : Ci l yX6_isInWay cX6_isInWay 5 .boolean 2 43 Z [.ref (zA Z (7) (0) (0)), .int (nI (a)), .int (x), .int (bI (w))] S h (bI (rWay S a x w)) (S) (h) := by
  refine Ci.of rfl (bI_nar _) (Nat.le_of_ble_eq_true rfl) (fun p e s mi args below meth c A0 Q X K => ?_)
  refine j_at rfl rfl (Ls3 := [(0, .ref (zA Z (7) (0) (0))), (1, .int (nI (a))), (2, .int (x)), (3, .int (bI (w)))]) rfl rfl ?_
  refine j_aload_n X dX6_isInWay_0 rfl rfl (q := 0) rfl ?_
  refine j_iload_n X dX6_isInWay_1 rfl rfl (q := 1) rfl ?_
  refine j_bipush X dX6_isInWay_2 rfl (v := 8) (by decide) ?_
  refine j_calli X (c_X6_of l Z S h a 8 (by omega)) (wm_ref (by decide)) ((fun _ => rfl) _) rfl lk_RX6_97 mi_X6_of ms_X6_of ini_RX6 mc_X6_of md_X6_of ⟨Nat.le_of_ble_eq_true rfl, Nat.le_of_ble_eq_true rfl⟩ ⟨Nat.le_of_ble_eq_true rfl, Nat.le_of_ble_eq_true rfl⟩ rfl (Nat.le_of_ble_eq_true rfl) (as := [.int (nI (a)), .int (8)]) (rest := []) rfl dX6_isInWay_4 rfl ?_
  refine j_iload_n X dX6_isInWay_7 rfl rfl (q := 3) rfl ?_
  refine j_ifb_eq X dX6_isInWay_8 rfl (tgt := 21) (by decide) (fun c_8 => ?_) (fun c_8 => ?_)
  · refine j_iconst X dX6_isInWay_21 rfl (v := 0) (by decide) ?_
    refine j_ior X dX6_isInWay_22 rfl ?_
    refine j_istore X dX6_isInWay_23 rfl (by decide) (Ls2 := [(4, .int ((rOf S a 8) ||| (0))), (0, .ref (zA Z (7) (0) (0))), (1, .int (nI (a))), (2, .int (x)), (3, .int (bI (w)))]) rfl ?_
    refine j_aload_n X dX6_isInWay_25 rfl rfl (q := 1) rfl ?_
    refine j_iload_n X dX6_isInWay_26 rfl rfl (q := 2) rfl ?_
    refine j_iconst X dX6_isInWay_27 rfl (v := 3) (by decide) ?_
    refine j_calli X (c_X6_of l Z S h a 3 (by omega)) (wm_ref (by decide)) ((fun _ => rfl) _) rfl lk_RX6_97 mi_X6_of ms_X6_of ini_RX6 mc_X6_of md_X6_of ⟨Nat.le_of_ble_eq_true rfl, Nat.le_of_ble_eq_true rfl⟩ ⟨Nat.le_of_ble_eq_true rfl, Nat.le_of_ble_eq_true rfl⟩ rfl (Nat.le_of_ble_eq_true rfl) (as := [.int (nI (a)), .int (3)]) (rest := []) rfl dX6_isInWay_28 rfl ?_
    refine j_iconst X dX6_isInWay_31 rfl (v := 1) (by decide) ?_
    refine j_icmp_ne X dX6_isInWay_32 rfl (tgt := 48) (by decide) (fun c_32 => ?_) (fun c_32 => ?_)
    · refine j_iconst X dX6_isInWay_48 rfl (v := 0) (by decide) ?_
      exact j_ret (by first | with_reducible rfl | (simp [rWay, bI, c_8, c_32]; done) | (simp_all [rWay, bI]; done) | rfl) (by first | with_reducible rfl | (simp [rWay, bI, c_8, c_32]; done) | (simp_all [rWay, bI]; done) | rfl) rfl (K _ _ dX6_isInWay_49)
    · refine j_iload X dX6_isInWay_35 rfl (q := 0) rfl ?_
      refine j_iload_n X dX6_isInWay_37 rfl rfl (q := 3) rfl ?_
      refine j_callSi X (c_X6_hasLine l Z S h ((rOf S a 8) ||| (0)) (x)) lk_RX6_110 mt_X6_hasLine ini_RX6 mc_X6_hasLine md_X6_hasLine ⟨Nat.le_of_ble_eq_true rfl, Nat.le_of_ble_eq_true rfl⟩ ⟨Nat.le_of_ble_eq_true rfl, Nat.le_of_ble_eq_true rfl⟩ rfl (Nat.le_of_ble_eq_true rfl) (as := [.int ((rOf S a 8) ||| (0)), .int (x)]) (rest := []) rfl dX6_isInWay_38 rfl ?_
      refine j_ifb_eq X dX6_isInWay_41 rfl (tgt := 48) (by decide) (fun c_41 => ?_) (fun c_41 => ?_)
      · refine j_iconst X dX6_isInWay_48 rfl (v := 0) (by decide) ?_
        exact j_ret (by first | with_reducible rfl | (simp [rWay, bI, c_8, c_32, c_41]; done) | (simp_all [rWay, bI]; done) | rfl) (by first | with_reducible rfl | (simp [rWay, bI, c_8, c_32, c_41]; done) | (simp_all [rWay, bI]; done) | rfl) rfl (K _ _ dX6_isInWay_49)
      · refine j_iconst X dX6_isInWay_44 rfl (v := 1) (by decide) ?_
        refine j_goto X (tgt := 49) dX6_isInWay_45 (by decide) ?_
        exact j_ret (by first | with_reducible rfl | (simp [rWay, bI, c_8, c_32, c_41]; done) | (simp_all [rWay, bI]; done) | rfl) (by first | with_reducible rfl | (simp [rWay, bI, c_8, c_32, c_41]; done) | (simp_all [rWay, bI]; done) | rfl) rfl (K _ _ dX6_isInWay_49)
  · refine j_aload_n X dX6_isInWay_11 rfl rfl (q := 0) rfl ?_
    refine j_iload_n X dX6_isInWay_12 rfl rfl (q := 1) rfl ?_
    refine j_bipush X dX6_isInWay_13 rfl (v := 7) (by decide) ?_
    refine j_calli X (c_X6_of l Z S h a 7 (by omega)) (wm_ref (by decide)) ((fun _ => rfl) _) rfl lk_RX6_97 mi_X6_of ms_X6_of ini_RX6 mc_X6_of md_X6_of ⟨Nat.le_of_ble_eq_true rfl, Nat.le_of_ble_eq_true rfl⟩ ⟨Nat.le_of_ble_eq_true rfl, Nat.le_of_ble_eq_true rfl⟩ rfl (Nat.le_of_ble_eq_true rfl) (as := [.int (nI (a)), .int (7)]) (rest := [.int (rOf S a 8)]) rfl dX6_isInWay_15 rfl ?_
    refine j_goto X (tgt := 22) dX6_isInWay_18 (by decide) ?_
    refine j_ior X dX6_isInWay_22 rfl ?_
    refine j_istore X dX6_isInWay_23 rfl (by decide) (Ls2 := [(4, .int ((rOf S a 8) ||| (rOf S a 7))), (0, .ref (zA Z (7) (0) (0))), (1, .int (nI (a))), (2, .int (x)), (3, .int (bI (w)))]) rfl ?_
    refine j_aload_n X dX6_isInWay_25 rfl rfl (q := 1) rfl ?_
    refine j_iload_n X dX6_isInWay_26 rfl rfl (q := 2) rfl ?_
    refine j_iconst X dX6_isInWay_27 rfl (v := 3) (by decide) ?_
    refine j_calli X (c_X6_of l Z S h a 3 (by omega)) (wm_ref (by decide)) ((fun _ => rfl) _) rfl lk_RX6_97 mi_X6_of ms_X6_of ini_RX6 mc_X6_of md_X6_of ⟨Nat.le_of_ble_eq_true rfl, Nat.le_of_ble_eq_true rfl⟩ ⟨Nat.le_of_ble_eq_true rfl, Nat.le_of_ble_eq_true rfl⟩ rfl (Nat.le_of_ble_eq_true rfl) (as := [.int (nI (a)), .int (3)]) (rest := []) rfl dX6_isInWay_28 rfl ?_
    refine j_iconst X dX6_isInWay_31 rfl (v := 1) (by decide) ?_
    refine j_icmp_ne X dX6_isInWay_32 rfl (tgt := 48) (by decide) (fun c_32_1 => ?_) (fun c_32_1 => ?_)
    · refine j_iconst X dX6_isInWay_48 rfl (v := 0) (by decide) ?_
      exact j_ret (by first | with_reducible rfl | (simp [rWay, bI, c_8, c_32_1]; done) | (simp_all [rWay, bI]; done) | rfl) (by first | with_reducible rfl | (simp [rWay, bI, c_8, c_32_1]; done) | (simp_all [rWay, bI]; done) | rfl) rfl (K _ _ dX6_isInWay_49)
    · refine j_iload X dX6_isInWay_35 rfl (q := 0) rfl ?_
      refine j_iload_n X dX6_isInWay_37 rfl rfl (q := 3) rfl ?_
      refine j_callSi X (c_X6_hasLine l Z S h ((rOf S a 8) ||| (rOf S a 7)) (x)) lk_RX6_110 mt_X6_hasLine ini_RX6 mc_X6_hasLine md_X6_hasLine ⟨Nat.le_of_ble_eq_true rfl, Nat.le_of_ble_eq_true rfl⟩ ⟨Nat.le_of_ble_eq_true rfl, Nat.le_of_ble_eq_true rfl⟩ rfl (Nat.le_of_ble_eq_true rfl) (as := [.int ((rOf S a 8) ||| (rOf S a 7)), .int (x)]) (rest := []) rfl dX6_isInWay_38 rfl ?_
      refine j_ifb_eq X dX6_isInWay_41 rfl (tgt := 48) (by decide) (fun c_41_2 => ?_) (fun c_41_2 => ?_)
      · refine j_iconst X dX6_isInWay_48 rfl (v := 0) (by decide) ?_
        exact j_ret (by first | with_reducible rfl | (simp [rWay, bI, c_8, c_32_1, c_41_2]; done) | (simp_all [rWay, bI]; done) | rfl) (by first | with_reducible rfl | (simp [rWay, bI, c_8, c_32_1, c_41_2]; done) | (simp_all [rWay, bI]; done) | rfl) rfl (K _ _ dX6_isInWay_49)
      · refine j_iconst X dX6_isInWay_44 rfl (v := 1) (by decide) ?_
        refine j_goto X (tgt := 49) dX6_isInWay_45 (by decide) ?_
        exact j_ret (by first | with_reducible rfl | (simp [rWay, bI, c_8, c_32_1, c_41_2]; done) | (simp_all [rWay, bI]; done) | rfl) (by first | with_reducible rfl | (simp [rWay, bI, c_8, c_32_1, c_41_2]; done) | (simp_all [rWay, bI]; done) | rfl) rfl (K _ _ dX6_isInWay_49)

/-! the reference -/
abbrev rOf (S : St) (a w : Nat) : Int32 := S 7 0 1 (22 + 96 * a + w)
abbrev rPut (S : St) (a w : Nat) (v : Int32) : St := setF S 7 0 1 (22 + 96 * a + w) v
abbrev rM (S : St) (k : Nat) : Int32 := S 7 0 1 k
abbrev rCC (S : St) : Nat := (S 7 0 1 0).toNatClampNeg
abbrev rQ (S : St) : Nat := (S 7 0 1 21).toNatClampNeg
def rIn (v a b : Int32) : Bool := !decide (v < a) && !decide (b < v)
def rCpF (i1 i2 : Nat) (k : Nat) (S : St) : St := setF S 7 0 i2 k (S 7 0 i1 k)
def rCp (S : St) (i1 i2 : Nat) : St := lp (rCpF i1 i2) 8006 0 S
def rKeep (S : St) : St :=
  let S4 := rCp (rCp (rCp (rCp S 4 5) 3 4) 2 3) 1 2
  setF S4 7 0 0 5 (S4 7 0 0 5 + (if 4 ≤ S4 7 0 0 5 then 0 else 1))
def rHas (a b : Int32) : Bool := decide (a >>> (b &&& 31) &&& 1 = 1)
def rSize (a : Int32) : Int32 := lp (fun k n => n + (a >>> (nI k &&& 31) &&& 1)) 8 0 0
def rClear (S : St) (a b d : Int32) : St :=
  let S1 := lp (pZeroF 7 0 1) 8006 0 S
  lp (fun k T => rPut T k 4 (-1)) 4 0 (setF (setF (setF (setF S1 7 0 1 0 a) 7 0 1 1 b) 7 0 1 2 d) 7 0 1 3 (S 7 0 1 3))
def rFin (S : St) (a : Nat) : Bool := decide (rOf S a 1 = rOf S a 2)
def rLogF (ev a : Nat) (x y : Int32) (k : Nat) (S : St) : St :=
  let S1 := setF S 7 0 1 (ev + 3 + k) (if rHas x (nI k) = true then rOf S a (12 + k) else 0)
  setF S1 7 0 1 (ev + 11 + k) (if rHas y (nI k) = true then rOf S1 a (28 + k) else 0)
def rLogO (ev : Nat) (k : Nat) (S : St) : St := setF (setF S 7 0 1 (ev + 3 + k) 0) 7 0 1 (ev + 11 + k) 0
def rLogH (S : St) (u t x y : Int32) : St :=
  setF (setF (setF S 7 0 1 (406 + 19 * rQ S) u) 7 0 1 (406 + 19 * rQ S + 1) t) 7 0 1 (406 + 19 * rQ S + 2) (x + 256 * y)
def rBump (S : St) (k : Nat) : St := setF S 7 0 1 k (S 7 0 1 k + 1)
def rLog (S : St) (a : Nat) (t x y : Int32) : St :=
  if S 7 0 0 8 = 0 then (if rQ S = 400 then S else rBump (lp (rLogF (406 + 19 * rQ S) a x y) 8 0 (rLogH S (nI a) t x y)) 21) else S
def rLogX (S : St) (y : Int32) : St :=
  if S 7 0 0 8 = 0 then (if rQ S = 400 then S else rBump (lp (rLogO (406 + 19 * rQ S)) 8 0 (rLogH S (-1) (-1) 0 y)) 21) else S
def rAbF (a : Nat) (k : Nat) (S : St) : St := if rHas (rOf S a 8) (nI k) = true then rPut (rPut S a (20 + k) 0) a (28 + k) 0 else S
def rAbort (S : St) (a u : Nat) : St :=
  let S1 := lp (rAbF a) 8 0 S
  let S2 := rPut S1 a 1 (rOf S1 a 5)
  let S3 := rPut S2 a 0 (rOf S2 a 6)
  let S4 := rBump (rPut (rPut (rPut (rPut S3 a 7 0) a 8 0) a 11 0) a 3 0) (22 + 96 * a + 10)
  let S5 := rBump S4 (13 + u)
  setF S5 7 0 0 13 (S5 7 0 0 13 + 1)
def rWay (S : St) (a : Nat) (l : Int32) (w : Bool) : Bool := decide (rOf S a 3 = 1) && rHas (rOf S a 8 ||| (if w = true then rOf S a 7 else 0)) l
def rWins (S : St) (a o : Nat) : Bool := decide (rOf S a 3 = 0) || (decide (S 7 0 1 1 = 0) || (decide (S 7 0 1 1 = 2) && !decide (rOf S o 4 ≤ rOf S a 4)))
def rResF (a j : Nat) (w : Bool) (k : Nat) (S : St) : Bool × St := if k = a then (true, S) else if rWay S k (nI j) w = true then (if rWins S a k = true then (true, rAbort S k 5) else (false, rAbort S a 5)) else (true, S)
def rRes (S : St) (a j : Nat) (w : Bool) : Bool × St := lpE (rResF a j w) (rCC S) 0 S
def rWB (S : St) (a j : Nat) : St := rBump (setF S 7 0 1 (5 + j) (rOf S a (28 + j))) 17
def rColF (a j : Nat) (k : Nat) (S : St) : St := if k = a then S else if rOf S k (20 + j) = 2 then rPut (rWB S k j) k (20 + j) 1 else S
def rCol (S : St) (a j : Nat) : St := lp (rColF a j) (rCC S) 0 S
def rMiss (S : St) (a j : Nat) : St := let S1 := rPut (rCol (rBump S 13) a j) a (20 + j) 1; rPut S1 a (28 + j) (S1 7 0 1 (5 + j))
def rNoteA (S : St) (a j : Nat) (v : Int32) : St := if rHas (rOf S a 8 ||| rOf S a 11) (nI j) = true then S else rPut (rPut S a 11 (rOf S a 11 ||| 1 <<< (nI j &&& 31))) a (12 + j) v
def rNote (S : St) (a j : Nat) (v : Int32) : St := if rOf S a 3 = 1 then (let S1 := rNoteA S a j v; rPut S1 a 7 (rOf S1 a 7 ||| 1 <<< (nI j &&& 31))) else S
def rGot (S : St) (a j : Nat) : St := rNote (rPut S a 0 (rOf S a (28 + j))) a j (rOf S a (28 + j))
def rLoad (S : St) (a j : Nat) : Bool × St :=
  if (rRes S a j false).1 = true then (true, rGot (if rOf (rRes S a j false).2 a (20 + j) = 0 then rMiss (rRes S a j false).2 a j else (rRes S a j false).2) a j) else (false, (rRes S a j false).2)
def rOwnF (a j : Nat) (k : Nat) (S : St) : St := if k = a then S else if rOf S k (20 + j) = 0 then S else rBump (rPut (rPut S k (20 + j) 0) k (28 + j) 0) 16
def rOwn (S : St) (a j : Nat) : St :=
  let S1 := if rOf S a (20 + j) = 0 then rBump S 14 else rBump S 15
  let S2 := rCol S1 a j
  let S3 := lp (rOwnF a j) (rCC S2) 0 S2
  rPut (if rOf S a (20 + j) = 0 then rPut S3 a (28 + j) (S3 7 0 1 (5 + j)) else S3) a (20 + j) 2
def rNew (S : St) (a j : Nat) : Bool := decide (rOf S a 3 = 1) && !rHas (rOf S a 8) (nI j)
def rHold (S : St) (a j : Nat) (w : Bool) : St := if rOf S a (20 + j) = 2 then (if w = true then rWB S a j else S) else rOwn S a j
def rPutV (S : St) (a j : Nat) (w : Bool) : St :=
  let S1 := rPut S a (28 + j) (rOf S a 0)
  let S2 := if w = true then rPut S1 a 8 (rOf S1 a 8 ||| 1 <<< (nI j &&& 31)) else S1
  if rOf S2 a 3 = 0 then rLog S2 a (-1) 0 (1 <<< (nI j &&& 31)) else S2
def rStB (S : St) (a j : Nat) : Bool × St :=
  if rNew S a j = true then (if rSize (rOf S a 8) = S 7 0 1 2 then (false, rAbort S a 6) else (true, rPutV (rHold S a j true) a j true)) else (true, rPutV (rHold S a j false) a j false)
def rStore (S : St) (a j : Nat) : Bool × St := if (rRes S a j true).1 = true then rStB (rRes S a j true).2 a j else (false, (rRes S a j true).2)
def rBeg (S : St) (a : Nat) : St :=
  if rOf S a 3 = 1 then S else
    let S1 := if rOf S a 4 = -1 then rBump (rPut S a 4 (S 7 0 1 4)) 4 else S
    let S2 := rPut S1 a 3 1
    let S3 := rPut S2 a 5 (rOf S2 a 1)
    let S4 := rPut S3 a 6 (rOf S3 a 0)
    rPut (rPut (rPut S4 a 7 0) a 8 0) a 11 0
def rEnd (S : St) (a : Nat) : St :=
  if rOf S a 3 = 0 then S else rBump (rPut (rPut (rPut (rPut (rPut (rLog S a (rOf S a 4) (rOf S a 11) (rOf S a 8)) a 3 0) a 4 (-1)) a 7 0) a 8 0) a 11 0) (22 + 96 * a + 9)
def rFinCF (S : St) (k : Nat) (n : Int32) : Int32 := if rFin S k = true then n + 1 else n + 0
def rFinC (S : St) : Int32 := lp (rFinCF S) (rCC S) 0 0
theorem nI_nm1 {c : Nat} (h : c < 2 ^ 31) : ¬ nI c = -1 := fun z => nI_pos h (by rw [z]; decide)
theorem rHas_0 (k : Nat) (hk : k < 8) : rHas 0 (nI k) = false := by
  have : ∀ k, k < 8 → rHas 0 (nI k) = false := by decide +kernel
  exact this k hk

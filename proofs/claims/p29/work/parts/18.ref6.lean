abbrev rCd (S : St) (k : Int32) : St := setF S 7 0 0 9 k
def rBegin (S : St) (x y z : Int32) : Int32 × St := if rIn x 2 4 = true then (if rIn y 0 2 = true then (if rIn z 1 8 = true then (rKeep (rCd S 0) 7 0 1 21, rClear (rKeep (rCd S 0)) x y z) else (0, rCd S 1)) else (0, rCd S 1)) else (0, rCd S 1)
def rSetPol (S : St) (x : Int32) : Int32 × St := if rIn x 0 2 = true then (rKeep (rCd S 0) 7 0 1 1, setF (rKeep (rCd S 0)) 7 0 1 1 x) else (0, rCd S 1)
def rSeed (S : St) (x : Int32) : Int32 × St := if rIn x 0 999999 = true then (rKeep (rCd S 0) 7 0 1 3, setF (rKeep (rCd S 0)) 7 0 1 3 x) else (0, rCd S 1)
def rAppS (S : St) (x : Int32) : St := setF (setF (rCd S 0) 7 0 6 (rTL S) x) 7 0 0 7 (nI (rTL S + 1))
def rAppend (S : St) (x : Int32) : Int32 × St := if rIn x 0 127 = true then (if rTL S = 120 then (0, rCd S 2) else (rAppS S x 7 0 0 7, rAppS S x)) else (0, rCd S 1)
def rClearT (S : St) : Int32 × St := (rCd S 0 7 0 0 7, setF (rCd S 0) 7 0 0 7 0)
abbrev rIsC (S : St) (x : Int32) : Bool := rIn x 0 (S 7 0 1 0 - 1)
def rState (S : St) (a j w : Nat) : Int32 × St := (rOf (rCd S 0) a (w + j), rCd S 0)
def rMemF (S : St) (j : Nat) (w : Bool) (k : Nat) (v : Int32) : Int32 := if rOf S k (20 + j) = 2 then (if rHas (rOf S k 8) (nI j) = true then v else if w = true then rOf S k (28 + j) else v) else v
def rMem (S : St) (j : Nat) (w : Bool) : Int32 := lp (rMemF S j w) (rCC S) 0 (S 7 0 1 (5 + j))
def rCoreO (S : St) (a k : Nat) : Int32 := if k = 3 then (if rOf S a 3 = 1 then rOf S a 4 else -1) else if k = 4 then rOf S a 9 else if k = 5 then rOf S a 10 else rOf S a k
def rValO (S : St) (k : Nat) : Int32 := if k < 3 then S 7 0 1 k else if k = 3 then rFinC S else S 7 0 1 4
def rTrF (k : Nat) (S : St) : St := setF S 7 0 9 k (S 7 0 1 k)
def rBegT (S : St) (x : Int32) : St := setF (setF (lp rTrF 406 0 S) 7 0 0 8 1) 7 0 1 1 x
def rEnF (k : Nat) (S : St) : St := setF S 7 0 1 k (S 7 0 9 k)
def rEndT (S : St) : St := lp rEnF 406 0 (setF S 7 0 0 8 0)
def rUndo (S : St) : Int32 × St := if S 7 0 0 5 = 0 then (0, rCd S 1) else
  let S1 := rCp (rCp (rCp (rCp (rCd S 0) 2 1) 3 2) 4 3) 5 4
  (setF S1 7 0 0 5 (S1 7 0 0 5 - 1) 7 0 0 5, setF S1 7 0 0 5 (S1 7 0 0 5 - 1))
def rAgain (S : St) (a : Nat) : Int32 × St := if rFin S a = true then (if rOf S a 3 = 1 then (0, rCd S 2) else (rOf (rPut (rKeep (rCd S 0)) a 1 0) a 2, rPut (rKeep (rCd S 0)) a 1 0)) else (0, rCd S 2)
def rCp_f : Nat → Nat → Prop := fun _ _ => True
theorem rCp_ne {S : St} {i1 i2 i : Nat} (hi : i ≠ i2) : rCp S i1 i2 7 0 i = S 7 0 i := by
  refine lp_ne (rCpF i1 i2) (fun T => T 7 0 i) (fun k T => ?_) 8006 0 S
  funext q
  rw [rCpF, setF_at, if_neg (by omega)]
theorem rKeep_f {S : St} {k : Nat} (hk : k ≠ 5) : rKeep S 7 0 0 k = S 7 0 0 k := by
  simp only [rKeep]
  rw [setF_at, if_neg (by omega), rCp_ne (by decide), rCp_ne (by decide), rCp_ne (by decide), rCp_ne (by decide)]
theorem rKeep_m {S : St} : rKeep S 7 0 1 = S 7 0 1 := by
  funext k
  simp only [rKeep]
  rw [setF_at, if_neg (by omega), rCp_ne (by decide), rCp_ne (by decide), rCp_ne (by decide), rCp_ne (by decide)]
theorem rCd_m {S : St} {v : Int32} {i : Nat} (hi : i ≠ 0) : rCd S v 7 0 i = S 7 0 i := by
  funext k
  show setF S 7 0 0 9 v 7 0 i k = _
  rw [setF_at, if_neg (by omega)]

/-! what stays: the places below the cores, and the log's count -/
theorem setM_ne {S : St} {k v k2 : _} (h : k2 ≠ k) : setF S 7 0 1 k v 7 0 1 k2 = S 7 0 1 k2 := by
  rw [setF_at, if_neg]; rintro ⟨-, -, -, h4⟩; exact h h4
theorem setO_M {S : St} {i k v k2 : _} (hi : i ≠ 1) : setF S 7 0 i k v 7 0 1 k2 = S 7 0 1 k2 := by
  rw [setF_at, if_neg]; rintro ⟨-, -, h3, -⟩; exact hi h3.symm
theorem rBump_ne {S : St} {k k2 : Nat} (h : k2 ≠ k) : rBump S k 7 0 1 k2 = S 7 0 1 k2 := setM_ne h
theorem rAbort_lo {S : St} {a u k : Nat} (hk : k < 13) : rAbort S a u 7 0 1 k = S 7 0 1 k := by
  have e : ∀ n k0 (T : St), lp (rAbF a) n k0 T 7 0 1 k = T 7 0 1 k := by
    intro n k0 T
    refine lp_ne (rAbF a) (fun T => T 7 0 1 k) (fun k1 T => ?_) n k0 T
    dsimp only [rAbF, rPut]
    split
    · rw [setM_ne (by omega), setM_ne (by omega)]
    · rfl
  simp only [rAbort, rPut]
  rw [setO_M (by omega), rBump_ne (by omega), rBump_ne (by omega), setM_ne (by omega), setM_ne (by omega), setM_ne (by omega), setM_ne (by omega), setM_ne (by omega), setM_ne (by omega), e]
theorem rAbort_21 {S : St} {a u : Nat} (hu : u < 8) : rAbort S a u 7 0 1 21 = S 7 0 1 21 := by
  have e : ∀ n k0 (T : St), lp (rAbF a) n k0 T 7 0 1 21 = T 7 0 1 21 := by
    intro n k0 T
    refine lp_ne (rAbF a) (fun T => T 7 0 1 21) (fun k1 T => ?_) n k0 T
    dsimp only [rAbF, rPut]
    split
    · rw [setM_ne (by omega), setM_ne (by omega)]
    · rfl
  simp only [rAbort, rPut]
  rw [setO_M (by omega), rBump_ne (by omega), rBump_ne (by omega), setM_ne (by omega), setM_ne (by omega), setM_ne (by omega), setM_ne (by omega), setM_ne (by omega), setM_ne (by omega), e]
/-- the places that no read or write of a line changes: below the memory, and the log's count -/
def loK (k : Nat) : Prop := k < 5 ∨ k = 21
theorem loK_ne {k n : Nat} (h : loK k) (hn : 5 ≤ n) (h2 : n ≠ 21) : k ≠ n := by unfold loK at h; omega
theorem rAbort_k {S : St} {a u k : Nat} (hu : u < 8) (hk : loK k) : rAbort S a u 7 0 1 k = S 7 0 1 k := by
  rcases hk with h | h
  · exact rAbort_lo (by omega)
  · subst h; exact rAbort_21 hu
theorem rResF_k {S : St} {a j k2 k : Nat} {w : Bool} (hk : loK k) : (rResF a j w k2 S).2 7 0 1 k = S 7 0 1 k := by
  unfold rResF
  split
  · rfl
  · split
    · split
      · exact rAbort_k (by omega) hk
      · exact rAbort_k (by omega) hk
    · rfl
theorem rRes_k {S : St} {a j k : Nat} {w : Bool} (hk : loK k) : (rRes S a j w).2 7 0 1 k = S 7 0 1 k :=
  lpE_ne (rResF a j w) (fun T => T 7 0 1 k) (fun k2 T => rResF_k hk) _ 0 S
theorem rWB_k {S : St} {a j k : Nat} (hj : j < 8) (hk : loK k) : rWB S a j 7 0 1 k = S 7 0 1 k := by
  rw [rWB, rBump_ne (loK_ne hk (by omega) (by omega)), setM_ne (loK_ne hk (by omega) (by omega))]
theorem rColF_k {S : St} {a j k2 k : Nat} (hj : j < 8) (hk : loK k) : rColF a j k2 S 7 0 1 k = S 7 0 1 k := by
  unfold rColF
  split
  · rfl
  · split
    · show setF (rWB S k2 j) 7 0 1 (22 + 96 * k2 + (20 + j)) 1 7 0 1 k = _
      rw [setM_ne (loK_ne hk (by omega) (by omega)), rWB_k hj hk]
    · rfl
theorem rCol_k {S : St} {a j k : Nat} (hj : j < 8) (hk : loK k) : rCol S a j 7 0 1 k = S 7 0 1 k :=
  lp_ne (rColF a j) (fun T => T 7 0 1 k) (fun k2 T => rColF_k hj hk) _ 0 S
theorem rOwnF_k {S : St} {a j k2 k : Nat} (hj : j < 8) (hk : loK k) : rOwnF a j k2 S 7 0 1 k = S 7 0 1 k := by
  unfold rOwnF
  split
  · rfl
  · split
    · rfl
    · unfold rPut
      rw [rBump_ne (loK_ne hk (by omega) (by omega)), setM_ne (loK_ne hk (by omega) (by omega)), setM_ne (loK_ne hk (by omega) (by omega))]
theorem rOwnL_k {S : St} {a j k n : Nat} (hj : j < 8) (hk : loK k) : lp (rOwnF a j) n 0 S 7 0 1 k = S 7 0 1 k :=
  lp_ne (rOwnF a j) (fun T => T 7 0 1 k) (fun k2 T => rOwnF_k hj hk) _ 0 S
theorem rPut_k {S : St} {a w k : Nat} {v : Int32} (hk : loK k) : rPut S a w v 7 0 1 k = S 7 0 1 k := setM_ne (loK_ne hk (by omega) (by omega))
theorem setM_k {S : St} {n k : Nat} {v : Int32} (hn : 5 ≤ n) (h2 : n ≠ 21) (hk : loK k) : setF S 7 0 1 n v 7 0 1 k = S 7 0 1 k := setM_ne (loK_ne hk hn h2)
theorem rOwn_k {S : St} {a j k : Nat} (hj : j < 8) (hk : loK k) : rOwn S a j 7 0 1 k = S 7 0 1 k := by
  simp only [rOwn]
  rw [rPut_k hk]
  split
  · rw [rPut_k hk, rOwnL_k hj hk, rCol_k hj hk, rBump_ne (loK_ne hk (by omega) (by omega))]
  · rw [rOwnL_k hj hk, rCol_k hj hk, rBump_ne (loK_ne hk (by omega) (by omega))]
theorem rHold_k {S : St} {a j k : Nat} {w : Bool} (hj : j < 8) (hk : loK k) : rHold S a j w 7 0 1 k = S 7 0 1 k := by
  unfold rHold
  split
  · split
    · exact rWB_k hj hk
    · rfl
  · exact rOwn_k hj hk
theorem lo0 : loK 0 := Or.inl (by omega)
theorem lo2 : loK 2 := Or.inl (by omega)
theorem lo21 : loK 21 := Or.inr rfl
/-! a step -/
def rExec (S : St) (a : Nat) (x op : Int32) (j : Nat) : Bool × St :=
  if x = 98 then (true, rBeg S a) else if x = 99 then (true, rEnd S a) else if x = 114 then rLoad S a j else if x = 119 then rStore S a j else (true, rPut S a 0 (rOf S a 0 + op))
abbrev rPs (S : St) (a : Nat) : Nat := (rOf S a 1).toNatClampNeg
abbrev rOp (S : St) (a : Nat) : Int32 := rOf S a (36 + 2 * rPs S a + 1)
def rExe (S : St) (a : Nat) : Bool × St := rExec S a (rOf S a (36 + 2 * rPs S a)) (rOp S a) (rOp S a).toNatClampNeg
def rGoB (S : St) (a : Nat) : Bool × St := rExe (rBump (setF S 7 0 0 13 0) 20) a
def rGo (S : St) (a : Nat) : Int32 × St :=
  if (rGoB S a).1 = true then (let S1 := rPut (rGoB S a).2 a 1 (rOf (rGoB S a).2 a 1 + 1); (S1 7 0 0 13 + 0, S1)) else ((rGoB S a).2 7 0 0 13 + 8, (rGoB S a).2)
def rRun (S : St) : Int32 := S 7 0 1 0 - rFinC S
def rSelF (S : St) (k : Nat) (q : Int32 × Int32) : Bool × Int32 × Int32 := if rFin S k = true then (true, q.1 - 0, q.2) else if q.1 ≤ 0 then (false, q.1, nI k) else (true, q.1 - 1, q.2)
def rTick (S : St) : St := setF S 7 0 1 3 (pNext (S 7 0 1 3))
def rSelL (S : St) : Bool × Int32 × Int32 := lpE (rSelF (rTick S)) (rCC S) 0 (pTurn (rTick S 7 0 1 3) (rRun S), 0)
def rSel (S : St) : Nat := (rSelL S).2.2.toNatClampNeg
def rSch (S : St) : Bool × St := if rRun S = 0 then (false, S) else (!decide ((rGo (rTick S) (rSel S)).1 < 0), (rGo (rTick S) (rSel S)).2)

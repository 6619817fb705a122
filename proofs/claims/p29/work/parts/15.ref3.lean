/-- what a step of the reference wants of the state -/
def wfE (S : St) (a : Nat) : Prop := okI (S 7 0 1 0) 4 ∧ okI (S 7 0 1 21) 400 ∧ okI (rOf S a 1) 29 ∧ ((rOf S a (36 + 2 * rPs S a) = 114 ∨ rOf S a (36 + 2 * rPs S a) = 119) → okI (rOp S a) 7)
theorem wfE_eq {S S2 : St} {a : Nat} (h : wfE S a) (e0 : S2 7 0 1 0 = S 7 0 1 0) (e21 : S2 7 0 1 21 = S 7 0 1 21) (e : ∀ w, rOf S2 a w = rOf S a w) : wfE S2 a := by
  have e1 : rPs S2 a = rPs S a := by show (rOf S2 a 1).toNatClampNeg = _; rw [e]
  have e2 : rOp S2 a = rOp S a := by show rOf S2 a (36 + 2 * rPs S2 a + 1) = _; rw [e, e1]
  unfold wfE
  rw [e0, e21, e, e1, e, e2]
  exact h
theorem go_ne {S : St} {k : Nat} (hk : k ≠ 20) : rBump (setF S 7 0 0 13 0) 20 7 0 1 k = S 7 0 1 k := by rw [rBump_ne hk, setO_M (by omega)]
theorem wfE_go {S : St} {a : Nat} (h : wfE S a) : wfE (rBump (setF S 7 0 0 13 0) 20) a := wfE_eq h (go_ne (by omega)) (go_ne (by omega)) (fun w => go_ne (by omega))
theorem tick_ne {S : St} {k : Nat} (hk : k ≠ 3) : rTick S 7 0 1 k = S 7 0 1 k := setM_ne hk
theorem wfE_tick {S : St} {a : Nat} (h : wfE S a) : wfE (rTick S) a := wfE_eq h (tick_ne (by omega)) (tick_ne (by omega)) (fun w => tick_ne (by omega))
theorem rFin_tick (S : St) (a : Nat) : rFin (rTick S) a = rFin S a := by
  have e1 : rOf (rTick S) a 1 = rOf S a 1 := tick_ne (by omega)
  have e2 : rOf (rTick S) a 2 = rOf S a 2 := tick_ne (by omega)
  unfold rFin
  rw [e1, e2]

/-! the law: its script, its loop's head, the choice of the command -/
theorem lg_cmp_self (x : Int64) : lg_cmp x x = 0 := by unfold lg_cmp; simp
theorem head_lt {i L : Nat} (hi : i ≤ L) (hL : L ≤ 2048) : (nI L - 4 < nI i) ↔ ¬ i + 4 ≤ L := by
  by_cases h4 : 4 ≤ L
  · rw [show (4 : Int32) = nI 4 from rfl, pk_sub h4, nI_ltI (by omega) (by omega)]
    omega
  · refine iff_of_true ?_ (by omega)
    refine Int32.lt_of_lt_of_le (b := 0) ?_ (nI_pos' (by omega))
    rcases (show L = 0 ∨ L = 1 ∨ L = 2 ∨ L = 3 by omega) with rfl | rfl | rfl | rfl
    all_goals decide
theorem sel_ex (x : Int32) : ∃ k, k < 32 ∧ x &&& 31 = nI k := by
  refine ⟨(x &&& 31).toBitVec.toNat, ?_, ?_⟩
  · rw [Int32.toBitVec_and]
    have : (x.toBitVec &&& (31 : Int32).toBitVec).toNat = x.toBitVec.toNat &&& 31 := BitVec.toNat_and ..
    rw [this]
    exact Nat.and_lt_two_pow (n := 5) _ (by decide)
  · apply Int32.toBitVec_inj.mp
    show (x &&& 31).toBitVec = BitVec.ofNat 32 (x &&& 31).toBitVec.toNat
    rw [BitVec.ofNat_toNat, BitVec.setWidth_eq]
/-- the law's script, which no run of the law writes -/
def LSc (s : State) (A0 : Nat → Prop) (b L : Nat) (xs : Nat → Int32) : Prop := va_X b L xs s s.heap ∧ b < s.heap.size ∧ ¬ A0 b ∧ L ≤ 2048
section JLR
variable {p : Program} {l : Launch} {e : Env} {R : Room} {s : State} {m : MethodId} {args : Array Value} {below : List Frame} {meth : Method} {c : Code} {n : Nat} {Z : wZ} {A0 : Nat → Prop} {cells slots : Nat} {Q : State → Prop} {cc : ByteArray} {own : String} {S : St} {h : Hl} {Ls : List (Nat × Value)} {pc pc2 : Nat} {st : List Value}
theorem j_sld (X : JX p s m args meth c cc n own Z A0) {b L k : Nat} {xs : Nat → Int32} (hX : LSc s A0 b L xs) (hk : k < L) (hdg : decode cc pc = .ok (.iaload, 1)) (hp : pc + 1 = pc2) (kk : J p l e R s m args below meth c n Z A0 cells slots Q S h Ls pc2 (.int (xs k) :: st)) : J p l e R s m args below meth c n Z A0 cells slots Q S h Ls pc (.int (nI k) :: .ref b :: st) := by
  subst hp
  intro H locs ls hP hS hl
  have hL := hX.2.2.2
  exact va_sld X.1 X.2.1 hX.1 hX.2.1 hX.2.2.1 hS (i := nI k) (vp_in_nI hk (by omega)) hdg (by rw [nI_clamp (by omega)]; exact kk H locs ls hP hS hl)
theorem j_slen (X : JX p s m args meth c cc n own Z A0) {b L : Nat} {xs : Nat → Int32} (hX : LSc s A0 b L xs) (hdg : decode cc pc = .ok (.arraylength, 1)) (hp : pc + 1 = pc2) (kk : J p l e R s m args below meth c n Z A0 cells slots Q S h Ls pc2 (.int (nI L) :: st)) : J p l e R s m args below meth c n Z A0 cells slots Q S h Ls pc (.ref b :: st) := by
  subst hp
  intro H locs ls hP hS hl
  exact va_slen X.1 X.2.1 hX.1 hX.2.1 hX.2.2.1 hS hdg (kk H locs ls hP hS hl)
theorem j_neB (X : JX p s m args meth c cc n own Z A0) {x : Int32} (d0 : decode cc pc = .ok (.ifCond .eq 7, 3)) (d3 : decode cc (pc + 3) = .ok (.iconst 1, 1)) (d4 : decode cc (pc + 4) = .ok (.goto 4, 3)) (d7 : decode cc (pc + 7) = .ok (.iconst 0, 1)) (hp : pc + 8 = pc2) (k : J p l e R s m args below meth c n Z A0 cells slots Q S h Ls pc2 (.int (bI (decide (x ≠ 0))) :: st)) : J p l e R s m args below meth c n Z A0 cells slots Q S h Ls pc (.int x :: st) := by
  subst hp
  refine j_if_eq X (tgt := pc + 7) d0 rfl (by omega) (fun hx => ?_) (fun hx => ?_)
  · refine j_iconst X d7 rfl (v := 0) (by decide) ?_
    rw [show decide (x ≠ 0) = false by simp [hx]] at k
    exact k
  · refine j_iconst X d3 rfl (v := 1) (by decide) ?_
    refine j_goto X (tgt := pc + 8) d4 (by omega) ?_
    rw [show decide (x ≠ 0) = true by simp [hx]] at k
    exact k
end JLR

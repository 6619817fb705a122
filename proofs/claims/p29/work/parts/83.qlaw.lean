/-! the calls of the law itself -/
theorem fin_iff {S : St} {n N P k a : Nat} (h : LI S n N P k) (ha : a < n) : pFin S 0 a = true ↔ S 0 a 0 3 = S 0 a 3 2 := by
  obtain ⟨⟨h1, T, A, h2⟩, -⟩ := id h
  have h4 := h1.n4
  have hc := h2.2.2.1 a (by omega)
  obtain ⟨-, f2, f3⟩ := fin_eq hc
  obtain ⟨-, -, -, -, -, ⟨p1, p2, p3, -⟩, -⟩ := hc
  constructor
  · intro z
    exact p2.1.trans ((congrArg nI (f3 z)).trans p1.1.symm)
  · intro z
    by_cases hf : pFin S 0 a = true
    · exact hf
    · exfalso
      have h5 := f2 (by simpa using hf)
      have h6 : pPs S 0 a = pLn S 0 a := by show (S 0 a 0 3).toNatClampNeg = _; rw [z]
      omega
theorem mf_4 (T : St) : pMFact T 0 4 = T 0 4 0 8 := rfl
theorem undo_1 {S S' : St} {n N P k : Nat} (h : LI S n N P k) (hM : ∀ m, 2 ≤ m → m ≤ 5 → S' m = pSave S m) (h6 : S' 6 = pSave S 6) (e0 : pUndo S' 0 = pCopyM (setF S' 6 0 0 7 (nI (pNs S' - 1))) 0 (tq S' 0) 0) : pUndo S' 0 4 4 7 = S 0 4 4 7 ∧ pMFact (pUndo S') 0 4 = pMFact S 0 4 := by
  obtain ⟨hI, -, hc, hd, -⟩ := id h
  obtain ⟨-, -, -, v4, v5, -, -⟩ := sv_step (S := S) (S' := S') hc hd hM (fun q _ => by rw [h6])
  obtain ⟨-, c2, -, c4, -, -⟩ := copyM_at (S := S) (m := tq S' 0) (m2 := 0) (by omega)
  obtain ⟨-, d2, -, d4, -, -⟩ := copyM_at (S := setF S' 6 0 0 7 (nI (pNs S' - 1))) (m := 0) (m2 := tq S' 0) (by omega)
  have hq := h.q
  have hq2 := hq.2
  have k1 : pKept S (tq S' 0) 0 = pQ S 0 := by
    unfold pKept rmI
    rw [if_neg (show ¬ tq S' 0 = 1 by omega)]
    split <;> omega
  have e1 : S' (tq S' 0) 4 4 7 = S 0 4 4 7 := by rw [v5, c4, k1]; exact hq.1.symm
  have e2 : setF S' 6 0 0 7 (nI (pNs S' - 1)) (tq S' 0) = S' (tq S' 0) := setF_m (by omega)
  have k2 : pKept (setF S' 6 0 0 7 (nI (pNs S' - 1))) 0 (tq S' 0) = pQ S 0 := by
    have e3 : pQ (setF S' 6 0 0 7 (nI (pNs S' - 1))) (tq S' 0) = pQ S 0 := by
      show (setF S' 6 0 0 7 (nI (pNs S' - 1)) (tq S' 0) 4 4 7).toNatClampNeg = (S 0 4 4 7).toNatClampNeg
      rw [e2, e1]
    unfold pKept rmI
    rw [e3, if_neg (show ¬ (0 : Nat) = 1 by omega)]
    split <;> omega
  refine ⟨by rw [e0, d4, k2]; exact hq.1.symm, ?_⟩
  rw [mf_4, mf_4, e0, d2 8 (by omega) (by omega), e2, v5, c2 8 (by omega) (by omega)]
theorem apL_m {m : Nat} (hm : m ≠ 6) : ∀ (cs : List Int32) (S : St), apL cs S m = S m
  | [], _ => rfl
  | c :: cs, S => by
    show apL cs (pAppS S c) m = S m
    rw [apL_m hm cs (pAppS S c)]
    unfold pAppS
    rw [setF_m hm, setF_m hm]
section QM
variable {l : Launch} {Z : wZ} {S : St} {h : Hl} {n N P k : Nat}
theorem q_unstep {S' : St} {a : Nat} (hI : LI S n N P k) (hI' : LI S' n (N + 1) P (k + 1)) (hns : 1 ≤ pNs S') (e : S' = (pStep (pSave S) 0 a).2) : ∃ r, ¬ r < 0 ∧ LI (pUndo S') n (N + 1) P 0 ∧ pUndo S' 0 4 4 7 = S 0 4 4 7 ∧ pMFact (pUndo S') 0 4 = pMFact S 0 4 ∧ Cq l yL_undo (.codeWith yL_undo cL_undo 2 (some .int) [(0, 4, 5, 28)]) 0 0 5 102 Z [.ref (zA Z 6 0 0)] S' h r (pUndo S') h := by
  obtain ⟨u1, -, u3, u4, -⟩ := LI_undo hI' hns
  obtain ⟨w1, w2⟩ := undo_1 (S' := S') hI (fun m h2 h5 => by rw [e]; exact step_M m (by omega)) (by rw [e]; exact step_M 6 (by omega)) u4
  exact ⟨_, u3, LI_mono u1 (Nat.le_refl _) (Nat.le_refl _) (Nat.zero_le _), w1, w2, q_undo hI' hns⟩
theorem q_begin {n1 y z : Nat} (hI : LI S n N P 0) (h2 : 2 ≤ n1) (h4 : n1 ≤ 4) (hy : y < 3) (hz : 1 ≤ z) (hz8 : z ≤ 8) (e0 : S 0 4 4 7 = 0) (e1 : S 0 4 0 7 = 1) : ∃ S', LI S' n1 N P 0 ∧ (∀ a, a < 4 → S' 0 a 0 5 = -1) ∧ S' 0 4 0 7 = 1 ∧ Cq l yL_begin (.codeWith yL_begin cL_begin 5 (some .int) [(0, 7, 8, 15)]) 0 0 6 126 Z [.ref (zA Z 6 0 0), .int (nI n1), .int (nI y), .int (nI z)] S h 0 S' h := by
  obtain ⟨ho, hn, hq⟩ := hI.hs
  obtain ⟨s1, -, -, -, s7, -⟩ := start_at (pSave S) 0 (nI n1) (nI y) (nI z)
  have hL := LI_begin hI (okI_nI (k := n1) (b := 4) h4 (by omega)) (nI_clamp (n := n1) (by omega)) (okI_nI (k := y) (b := 2) (by omega) (by omega)) (okI_nI hz8 (by omega))
  have s8 : pStart (pSave S) 0 (nI n1) (nI y) (nI z) 0 4 0 7 = 1 := by rw [s7, pSave_0]; exact e1
  have hC : Cq l yL_begin (.codeWith yL_begin cL_begin 5 (some .int) [(0, 7, 8, 15)]) 0 0 6 126 Z [.ref (zA Z 6 0 0), .int (nI n1), .int (nI y), .int (nI z)] S h (pSave S 0 4 4 7) (pStart (pSave S) 0 (nI n1) (nI y) (nI z)) h := w_begin l Z S _ h (nI n1) (nI y) (nI z) _ (c_X5_begin l Z S h (nI n1) (nI y) (nI z) (nI_nlt (a := n1) (b := 2) h2 (by omega)) (nI_nlt (a := 4) h4 (by omega)) (pPolI y hy) (nI_nlt (a := z) (b := 1) hz (by omega)) (nI_le (b := 8) hz8 (by omega)) ho hn hq)
  have s9 : pSave S 0 4 4 7 = 0 := by rw [pSave_0]; exact e0
  exact ⟨pStart (pSave S) 0 (nI n1) (nI y) (nI z), hL, fun a ha => (s1 a ha).2.2.2.2.1, s8, hC.to s9 (fun _ _ => rfl)⟩
theorem q_seed {u : Nat} (hI : LI S n N P 0) (hu : u < 1000000) (e1 : S 0 4 0 7 = 1) : ∃ S', LI S' n N P 0 ∧ (∀ a, a < 4 → S' 0 a = S 0 a) ∧ Cq l yL_seed (.codeWith yL_seed cL_seed 3 (some .int) [(0, 5, 6, 15)]) 0 0 6 124 Z [.ref (zA Z 6 0 0), .int (nI u)] S h 1 S' h := by
  obtain ⟨ho, hn, hq⟩ := hI.hs
  refine ⟨(pSeed S (nI u)).2, LI_mono (LI_seed hI (okI_nI (by omega) (by omega))) (Nat.le_refl _) (Nat.le_refl _) (Nat.zero_le _), fun a ha => ?_, ?_⟩
  · show setF (pSave S) 0 4 0 7 (nI u) 0 a = S 0 a
    rw [setF_g ha, pSave_0]
  · exact (w_seed l Z S _ h (nI u) _ (c_X5_seed l Z S h (nI u) (nI_pos (by omega)) (nI_le (b := 999999) (by omega) (by omega)) ho hn hq)).to (by show pSave S 0 4 0 7 = 1; rw [pSave_0]; exact e1) (fun _ _ => rfl)
theorem q_load {a i tl : Nat} (hI : LI S n N P k) (ha : a < n) (ht : S 0 a 0 5 = -1) (hR : PR (S 6 0 1) i tl) (htl : S 6 0 0 1 = nI tl) (h120 : tl ≤ 120) (hi : i ≤ 9) : ∃ S', LI S' n N (P + 9) 0 ∧ (∀ b, b ≠ a → S' 0 b = S 0 b) ∧ Cq l yL_load (.codeWith yL_load cL_load 3 (some .int) [(0, 5, 6, 34), (0, 5, 10, 28)]) 0 0 6 129 Z [.ref (zA Z 6 0 0), .int (nI a)] S h (nI i) S' h := by
  obtain ⟨ho, hn, hq⟩ := hI.hs
  have h4 := hI.cc.2
  obtain ⟨r1, r2⟩ := PR_read hR htl h120
  obtain ⟨I1, i2⟩ := LI_load hI ha ht r1 r2 hi
  have e1 : pLoadQ S a = (pLdS (pRdT S (pTL S)).2 a 0 a 3 2, pLdS (pRdT S (pTL S)).2 a) := by unfold pLoadQ; rw [if_pos r1]
  refine ⟨pLdS (pRdT S (pTL S)).2 a, LI_mono I1 (Nat.le_refl _) (Nat.le_refl _) (Nat.zero_le _), fun b hb => ?_, ?_⟩
  · funext i' k'
    show pTake (pSave (pRdT S (pTL S)).2) 0 a 6 0 0 b i' k' = S 0 b i' k'
    simp (disch := omega) only [pTake, pCopyP, cR_ne, sF_ne]
    rw [pSave_0]
    exact pRdT_o (by unfold rdOut; omega)
  · have hC := w_load l Z S _ h (nI a) _ (c_X5_load l Z S h a (by omega) (hI.hC ha) (by unfold pInT; rw [ht]; decide) hI.2.1 ho hn hq)
    rw [e1] at hC
    exact hC.to i2 (fun _ _ => rfl)
end QM

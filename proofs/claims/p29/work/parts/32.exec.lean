/-! begin and commit, side by side; an instruction; a step -/
theorem rel_mono {S T : St} {m N N' : Nat} {A : Int32} (h : rel S m T N A) (hN : N ≤ N') : rel S m T N' A := by
  obtain ⟨a1, a2, a3, a4, a5, a6, a7, a8, a9⟩ := h.1
  exact rel_mach h (fun _ _ _ _ => rfl) (fun _ _ _ => rfl) (fun _ _ => rfl) rfl rfl rfl (Nat.le_refl _) hN ⟨a1, a2, a3, a4, a5, a6, a7, ⟨a8.1, Nat.le_trans a8.2 hN⟩, a9⟩
theorem rel_ab0 {S T : St} {m N : Nat} {A : Int32} (h : rel S m T N A) : rel S m (setF T 7 0 0 13 0) N (pAborts S m) := by
  obtain ⟨a1, a2, a3, a4, a5, a6, a7, a8, a9, a10, a11⟩ := h.1
  refine rel_mach h (fun _ _ _ _ => rfl) (fun _ _ _ => rfl) (fun q hq => by simp (disch := omega) only [sF_eq, sF_ne]) (by simp (disch := omega) only [sF_eq, sF_ne]) (by simp (disch := omega) only [sF_eq, sF_ne]) rfl (Nat.le_refl _) (Nat.le_refl _) ?_
  unfold rG
  refine ⟨fun q hq => ?_, fun j hj => ?_, fun j hj => ?_, ?_⟩
  · simp (disch := omega) only [sF_eq, sF_ne]; exact a1 q hq
  · simp (disch := omega) only [sF_eq, sF_ne]; exact a2 j hj
  · simp (disch := omega) only [sF_eq, sF_ne]; exact a3 j hj
  · simp (disch := omega) only [sF_eq, sF_ne]
    exact ⟨a4, a5, a6, a7, a8, a9, a10, by unfold pAborts; rw [Int32.add_zero]⟩
/-- a core and the number of the next transaction have changed -/
theorem rel_cm {S S' T T' : St} {m N N' : Nat} {A : Int32} {g : Nat} (h : rel S m T N A) (hg : g < 4) (hS : ∀ b i k, b ≠ g → ¬ (b = 4 ∧ i = 0 ∧ k = 8) → S' m b i k = S m b i k) (hT : ∀ k, k < 22 + 96 * g ∨ 22 + 96 * g + 96 ≤ k → k ≠ 4 → T' 7 0 1 k = T 7 0 1 k) (h0 : ∀ k, T' 7 0 0 k = T 7 0 0 k) (h8 : S' m 4 0 8 = T' 7 0 1 4) (ho : okI (S' m 4 0 8) N') (hN : N ≤ N') (hU : rU S' m) (hC : rCr S' m T' N' g) : rel S' m T' N' A := by
  obtain ⟨hG, -, hR, hL⟩ := h
  refine ⟨?_, hU, fun b hb => ?_, ?_⟩
  · obtain ⟨a1, a2, a3, a4, a5, a6, a7, a8, a9⟩ := hG
    refine ⟨fun k hk => ?_, fun k hk => ?_, fun k hk => ?_, ?_, ?_, ?_, ?_, ho, ?_⟩
    · by_cases hk4 : k = 4
      · subst hk4; exact h8
      · rw [hS 4 0 _ (by omega) (by omega), hT k (by omega) hk4]; exact a1 k hk
    · rw [hS 4 2 _ (by omega) (by omega), hT (5 + k) (by omega) (by omega)]; exact a2 k hk
    · rw [hS 4 3 _ (by omega) (by omega), hT (13 + k) (by omega) (by omega)]; exact a3 k hk
    · rw [hS 4 0 4 (by omega) (by omega)]; exact a4
    · rw [hS 4 0 5 (by omega) (by omega)]; exact a5
    · rw [hS 4 0 6 (by omega) (by omega)]; exact a6
    · rw [hS 4 0 7 (by omega) (by omega)]; exact a7
    · rw [hS 4 4 7 (by omega) (by omega), hS 4 3 5 (by omega) (by omega), hS 4 3 6 (by omega) (by omega), hT 21 (by omega) (by omega), h0]; exact a9
  · by_cases hbg : b = g
    · subst hbg; exact hC
    · exact rCr_fr (hR b hb) (fun i k => hS b i k hbg (by omega)) (fun w hw => hT _ (by omega) (by omega)) (by rw [hS 4 0 6 (by omega) (by omega)]; exact Nat.le_refl _) hN
  · exact rL_fr hL (fun i k _ => hS 4 i k (by omega) (by omega)) (fun k hk => hT k (by omega) (by omega)) (hT 21 (by omega) (by omega)) (h0 8)
def rBegP (T : St) (a : Nat) : St :=
  rPut (rPut (rPut (rPut (rPut (rPut T a 3 1) a 5 (rOf (rPut T a 3 1) a 1)) a 6 (rOf (rPut (rPut T a 3 1) a 5 (rOf (rPut T a 3 1) a 1)) a 0)) a 7 0) a 8 0) a 11 0
theorem rBeg_1 (T : St) (a : Nat) (h : ¬ rOf T a 3 = 1) : rBeg T a = rBegP (if rOf T a 4 = -1 then rBump (rPut T a 4 (T 7 0 1 4)) 4 else T) a := by
  unfold rBeg
  rw [if_neg h]; rfl
theorem beg_core {S T U : St} {m N g : Nat} {A x y : Int32} (h : rel S m T N A) (hg : g < 4) (hi : S m g 0 5 = -1) (hN : N < 2 ^ 30) (hx : okI x N) (hy : okI y (N + 1)) (u1 : ∀ k, k ≠ 4 → k ≠ 22 + 96 * g + 4 → U 7 0 1 k = T 7 0 1 k) (u2 : U 7 0 1 (22 + 96 * g + 4) = x) (u3 : U 7 0 1 4 = y) (u4 : ∀ k, U 7 0 0 k = T 7 0 0 k) : rel (setF (pBegT S m g x) m 4 0 8 y) m (rBegP U g) (N + 1) A := by
  obtain ⟨hA, h1, h2, h3, hV, hP, hb⟩ := h.2.2.1 g hg
  obtain ⟨b9, b10, b11, o9, o10, o11⟩ := h2
  obtain ⟨c1, c2, c3, c4⟩ := h3
  obtain ⟨z9, z10, z11⟩ := c1 hi
  have hx1 : x ≠ -1 := by rw [hx.1]; exact nI_nm1 (by have := hx.2; omega)
  refine rel_cm (N' := N + 1) h hg (fun b i k hb hn => by simp (disch := omega) only [pBegT, sF_eq, sF_ne]) (fun k hk h4 => by simp (disch := omega) only [rBegP, rPut, rBump, rOf, sF_eq, sF_ne]; exact u1 k h4 (by omega)) (fun k => by simp (disch := omega) only [rBegP, rPut, rBump, rOf, sF_eq, sF_ne]; exact u4 k) (by simp (disch := omega) only [pBegT, rBegP, rPut, rBump, rOf, sF_eq, sF_ne]; exact u3.symm) (by simp (disch := omega) only [pBegT, sF_eq, sF_ne]; exact hy) (Nat.le_succ _) ?_ ⟨?_, ?_, ?_, ?_, ?_, ?_, ?_⟩
  · intro l hl c hcl d hdl hcd
    have hcc : pCC (setF (pBegT S m g x) m 4 0 8 y) m = pCC S m := by show (setF (pBegT S m g x) m 4 0 8 y m 4 0 4).toNatClampNeg = _; simp (disch := omega) only [pBegT, sF_eq, sF_ne]
    rw [hcc] at hcl hdl
    simp (disch := omega) only [pBegT, sF_eq, sF_ne]
    exact h.2.1 l hl c hcl d hdl hcd
  · unfold rA at *
    obtain ⟨q0, q1, q2, q3, q4⟩ := hA
    simp (disch := omega) only [pBegT, rBegP, rPut, rBump, rOf, sF_eq, sF_ne]
    rw [u1 _ (by omega) (by omega), u1 _ (by omega) (by omega), u1 _ (by omega) (by omega), u1 _ (by omega) (by omega), u1 _ (by omega) (by omega)]
    exact ⟨q0, q1, q2, q3, q4⟩
  · unfold rT1
    simp (disch := omega) only [pBegT, rBegP, rPut, rBump, rOf, sF_eq, sF_ne]
    rw [if_neg hx1, if_neg hx1, u2]
    exact ⟨rfl, rfl⟩
  · unfold rT2
    simp (disch := omega) only [pBegT, rBegP, rPut, rBump, rOf, sF_eq, sF_ne]
    rw [z9, z10, z11]
    exact ⟨rfl, rfl, rfl, ok8_0, ok8_0, ok8_0⟩
  · unfold rT3
    obtain ⟨q0, q1, q2, q3, q4⟩ := hA
    obtain ⟨p1, p2, p3, p4⟩ := hP
    simp (disch := omega) only [pBegT, rBegP, rPut, rBump, rOf, sF_eq, sF_ne]
    rw [u1 _ (by omega) (by omega), u1 _ (by omega) (by omega)]
    exact ⟨fun z => absurd z hx1, Or.inl trivial, Or.inr ⟨hx.1, Nat.le_succ_of_le hx.2⟩, fun _ => ⟨q1, q0, p2, p3, trivial⟩⟩
  · intro l hl
    obtain ⟨v1, v2, v3, v4, v5⟩ := hV l hl
    simp (disch := omega) only [pBegT, rBegP, rPut, rBump, rOf, sF_eq, sF_ne]
    rw [u1 _ (by omega) (by omega), u1 _ (by omega) (by omega), u1 _ (by omega) (by omega)]
    exact ⟨v1, v2, v3, v4, v5⟩
  · obtain ⟨p1, p2, p3, p4⟩ := hP
    unfold rP pPs pLn at *
    simp (disch := omega) only [pBegT, sF_eq, sF_ne]
    refine ⟨p1, p2, p3, fun k hk => ?_⟩
    have h30 := p1.2
    simp (disch := omega) only [pBegT, rBegP, rPut, rBump, rOf, sF_eq, sF_ne]
    rw [u1 _ (by omega) (by omega), u1 _ (by omega) (by omega)]
    exact p4 k hk
  · unfold rB at *; simp (disch := omega) only [pBegT, sF_eq, sF_ne]; exact hb
theorem inT_iff {S : St} {m g : Nat} : pInT S m g = true ↔ S m g 0 5 ≠ -1 := by
  unfold pInT
  by_cases z : S m g 0 5 = -1
  · rw [decide_eq_true z]; exact ⟨fun q => absurd q (by decide), fun q => absurd z q⟩
  · rw [decide_eq_false z]; exact ⟨fun _ => z, fun _ => rfl⟩
theorem beg_rel {S T : St} {m N g : Nat} {A : Int32} (h : rel S m T N A) (hg : g < 4) (hN : N < 2 ^ 30) : rel (pBegin S m g) m (rBeg T g) (N + 1) A ∧ pBegin S m g m g 0 14 = S m g 0 14 ∧ pBegin S m g m g 0 3 = S m g 0 3 ∧ pBegin S m g m g 3 2 = S m g 3 2 := by
  obtain ⟨hA, h1, h2, h3, hV, hP, hb⟩ := h.2.2.1 g hg
  have ha := act_iff h1
  have e8 : S m 4 0 8 = T 7 0 1 4 := h.1.1 4 (by omega)
  have o8 : okI (S m 4 0 8) N := h.1.2.2.2.2.2.2.2.1
  by_cases hi : S m g 0 5 = -1
  · have h30 : ¬ rOf T g 3 = 1 := by rw [ha.2.mpr hi]; decide
    have e4 : rOf T g 4 = S m g 0 6 := by rw [h1.2, if_pos hi]
    unfold pBegin
    rw [rBeg_1 T g h30, if_neg (show ¬ pInT S m g = true from fun z => inT_iff.mp z hi), e4]
    by_cases h6 : S m g 0 6 = -1
    · rw [if_pos h6, if_pos h6]
      have en : pBegT S m g (S m 4 0 8) m 4 0 8 = S m 4 0 8 := by simp (disch := omega) only [pBegT, sF_eq, sF_ne]
      dsimp only
      rw [en]
      refine ⟨beg_core h hg hi hN o8 (okI_inc o8 hN).1 (fun k h4 h5 => by simp (disch := omega) only [rPut, rBump, rOf, sF_eq, sF_ne]) (by simp (disch := omega) only [rPut, rBump, rOf, sF_eq, sF_ne]; exact e8.symm) (by simp (disch := omega) only [rPut, rBump, rOf, sF_eq, sF_ne]; rw [e8]) (fun k => by simp (disch := omega) only [rPut, rBump, rOf, sF_eq, sF_ne]), by simp (disch := omega) only [pBegT, sF_eq, sF_ne], by simp (disch := omega) only [pBegT, sF_eq, sF_ne], by simp (disch := omega) only [pBegT, sF_eq, sF_ne]⟩
    · rw [if_neg h6, if_neg h6]
      have o6 : okI (S m g 0 6) N := h3.2.1.resolve_left h6
      have := beg_core (U := T) (y := S m 4 0 8) h hg hi hN o6 ⟨o8.1, Nat.le_succ_of_le o8.2⟩ (fun k h4 h5 => rfl) e4 e8.symm (fun k => rfl)
      rw [setF_self (S := pBegT S m g (S m g 0 6)) (by simp (disch := omega) only [pBegT, sF_eq, sF_ne])] at this
      exact ⟨this, by simp (disch := omega) only [pBegT, sF_eq, sF_ne], by simp (disch := omega) only [pBegT, sF_eq, sF_ne], by simp (disch := omega) only [pBegT, sF_eq, sF_ne]⟩
  · unfold pBegin rBeg
    rw [if_pos (inT_iff.mpr hi), if_pos (ha.1.mpr hi)]
    exact ⟨rel_mono h (Nat.le_succ _), rfl, rfl, rfl⟩
theorem com_rel {S T : St} {m N g : Nat} {A : Int32} (h : rel S m T N A) (hg : g < 4) : rel (pCommit S m g) m (rEnd T g) N A ∧ pCommit S m g m g 0 14 = S m g 0 14 ∧ pCommit S m g m g 0 3 = S m g 0 3 ∧ pCommit S m g m g 3 2 = S m g 3 2 := by
  obtain ⟨hA, h1, h2, h3, hV, hP, hb⟩ := h.2.2.1 g hg
  have ha := act_iff h1
  unfold pCommit rEnd
  by_cases hi : S m g 0 5 = -1
  · rw [if_neg (show ¬ pInT S m g = true from fun z => inT_iff.mp z hi), if_pos (ha.2.mpr hi)]
    exact ⟨h, rfl, rfl, rfl⟩
  · rw [if_pos (inT_iff.mpr hi), if_neg (show ¬ rOf T g 3 = 0 by rw [ha.1.mpr hi]; decide)]
    obtain ⟨b9, b10, b11, o9, o10, o11⟩ := h2
    have e4 : rOf T g 4 = S m g 0 5 := by rw [h1.2, if_neg hi]
    have k6 : S m g 0 6 = -1 := (h3.2.2.2 hi).2.2.2.2
    rw [e4, ← b11, ← b10]
    obtain ⟨l1, l2, -⟩ := log_rel (t := S m g 0 5) (a := S m g 0 11) (b := S m g 0 10) (m1 := m) (g1 := g) (i1 := 6) (m2 := m) (g2 := g) (i2 := 2) h hg (by omega) (by omega) o11 o10 (fun l hl z => (hV l hl).2.2.2.2 z) (fun l hl z => by
      obtain ⟨v1, v2, v3, v4, v5⟩ := hV l hl
      rw [v3, if_neg (by rw [v4 z]; decide)])
    have eT : pAddT S m (nI g) m g = pAddE S m (nI g) (S m g 0 5) (S m g 0 11) m g 6 (S m g 0 10) m g 2 := rfl
    rw [eT]
    generalize hL : pAddE S m (nI g) (S m g 0 5) (S m g 0 11) m g 6 (S m g 0 10) m g 2 = L at *
    generalize hR : rLog T g (S m g 0 5) (S m g 0 11) (S m g 0 10) = V at *
    have fL : ∀ i k, L m g i k = S m g i k := fun i k => l2 m g i k (by omega)
    obtain ⟨hA', h1', h2', h3', hV', hP', hb'⟩ := l1.2.2.1 g hg
    dsimp only
    refine ⟨?_, ?_, ?_, ?_⟩
    · refine rel_core l1 hg (fun b i k hb => by simp (disch := omega) only [pEndT, sF_eq, sF_ne]) (fun k hk => by simp (disch := omega) only [rPut, rBump, rOf, sF_eq, sF_ne]) (fun k => by simp (disch := omega) only [rPut, rBump, rOf, sF_eq, sF_ne]) ?_ ⟨?_, ?_, ?_, ?_, ?_, ?_, ?_⟩
      · intro l hl c hcl d hdl hcd
        have hcc : pCC (setF (pEndT L m g) m g 0 13 (pEndT L m g m g 0 13 + 1)) m = pCC L m := by show (setF (pEndT L m g) m g 0 13 (pEndT L m g m g 0 13 + 1) m 4 0 4).toNatClampNeg = _; simp (disch := omega) only [pEndT, sF_eq, sF_ne]
        rw [hcc] at hcl hdl
        simp (disch := omega) only [pEndT, sF_eq, sF_ne]
        exact l1.2.1 l hl c hcl d hdl hcd
      · unfold rA at *
        obtain ⟨q0, q1, q2, q3, q4⟩ := hA'
        simp (disch := omega) only [pEndT, rPut, rBump, rOf, sF_eq, sF_ne]
        simp (disch := omega) only [rPut, rBump, rOf, sF_eq, sF_ne] at q3
        exact ⟨q0, q1, q2, by rw [q3], q4⟩
      · unfold rT1
        simp (disch := omega) only [pEndT, rPut, rBump, rOf, sF_eq, sF_ne]
        rw [if_pos trivial, if_pos trivial, fL, k6]
        exact ⟨rfl, rfl⟩
      · unfold rT2
        simp (disch := omega) only [pEndT, rPut, rBump, rOf, sF_eq, sF_ne]
        exact ⟨trivial, trivial, trivial, ok8_0, ok8_0, ok8_0⟩
      · unfold rT3
        simp (disch := omega) only [pEndT, rPut, rBump, rOf, sF_eq, sF_ne]
        exact ⟨fun _ => ⟨trivial, trivial, trivial⟩, h3'.2.1, Or.inl trivial, fun z => absurd rfl z⟩
      · intro l hl
        obtain ⟨v1, v2, v3, v4, v5⟩ := hV' l hl
        simp (disch := omega) only [pEndT, rPut, rBump, rOf, sF_eq, sF_ne]
        exact ⟨v1, v2, v3, fun z => absurd z (by rw [hasL_0 hl]; decide), fun z => absurd z (by rw [hasL_0 hl]; decide)⟩
      · obtain ⟨p1, p2, p3, p4⟩ := hP'
        unfold rP pPs pLn at *
        simp (disch := omega) only [pEndT, sF_eq, sF_ne]
        refine ⟨p1, p2, p3, fun k hk => ?_⟩
        have h30 := p1.2
        simp (disch := omega) only [pEndT, rPut, rBump, rOf, sF_eq, sF_ne]
        exact p4 k hk
      · unfold rB
        simp (disch := omega) only [pEndT, sF_eq, sF_ne]
        rw [rSize_0]; exact Nat.zero_le _
    · simp (disch := omega) only [pEndT, sF_eq, sF_ne]; exact fL _ _
    · simp (disch := omega) only [pEndT, sF_eq, sF_ne]; exact fL _ _
    · simp (disch := omega) only [pEndT, sF_eq, sF_ne]; exact fL _ _
/-- an instruction -/
theorem exec_rel {S T : St} {m N g c : Nat} {A op : Int32} (h : rel S m T N A) (hgc : g < pCC S m) (hN : N < 2 ^ 30) (hc : c ≤ 4) (hop : c = 2 ∨ c = 3 → okI op 7) :
    ((rExec T g (kd (nI c)) op op.toNatClampNeg).1 = true ∧ rel (pExec S m g c op.toNatClampNeg op) m (rExec T g (kd (nI c)) op op.toNatClampNeg).2 (N + 1) A ∧ pExec S m g c op.toNatClampNeg op m g 0 14 = S m g 0 14 ∧ pExec S m g c op.toNatClampNeg op m g 0 3 = S m g 0 3 ∧ pExec S m g c op.toNatClampNeg op m g 3 2 = S m g 3 2) ∨
    ((rExec T g (kd (nI c)) op op.toNatClampNeg).1 = false ∧ rel (pExec S m g c op.toNatClampNeg op) m (rExec T g (kd (nI c)) op op.toNatClampNeg).2 (N + 1) A ∧ pExec S m g c op.toNatClampNeg op m g 0 14 = S m g 0 14 + 1) := by
  have hg : g < 4 := by have := (cc_eq h).2; omega
  have hcs : c = 0 ∨ c = 1 ∨ c = 2 ∨ c = 3 ∨ c = 4 := by omega
  rcases hcs with rfl | rfl | rfl | rfl | rfl
  · obtain ⟨q1, q2, q3, q4⟩ := beg_rel h hg hN
    exact Or.inl ⟨rfl, q1, q2, q3, q4⟩
  · obtain ⟨q1, q2, q3, q4⟩ := com_rel h hg
    exact Or.inl ⟨rfl, rel_mono q1 (Nat.le_succ _), q2, q3, q4⟩
  · have hj := (hop (Or.inl rfl)).2
    rcases read_rel (j := op.toNatClampNeg) h hg (by omega) with ⟨q1, q2, q3, q4, q5⟩ | ⟨q1, q2, q3⟩
    · exact Or.inl ⟨q1, rel_mono q2 (Nat.le_succ _), q3, q4, q5⟩
    · exact Or.inr ⟨q1, rel_mono q2 (Nat.le_succ _), q3⟩
  · have hj := (hop (Or.inr rfl)).2
    rcases write_rel (j := op.toNatClampNeg) h hgc (by omega) with ⟨q1, q2, q3, q4, q5⟩ | ⟨q1, q2, q3⟩
    · exact Or.inl ⟨q1, rel_mono q2 (Nat.le_succ _), q3, q4, q5⟩
    · exact Or.inr ⟨q1, rel_mono q2 (Nat.le_succ _), q3⟩
  · have e : S m g 0 4 = rOf T g 0 := (h.2.2.1 g hg).1.1
    have := rel_mono (rel_acc h hg (S m g 0 4 + op)) (Nat.le_succ N)
    refine Or.inl ⟨rfl, ?_, ?_, ?_, ?_⟩
    · show rel (setF S m g 0 4 (S m g 0 4 + op)) m (rPut T g 0 (rOf T g 0 + op)) (N + 1) A
      rw [← e]; exact this
    · show setF S m g 0 4 (S m g 0 4 + op) m g 0 14 = _
      simp (disch := omega) only [sF_eq, sF_ne]
    · show setF S m g 0 4 (S m g 0 4 + op) m g 0 3 = _
      simp (disch := omega) only [sF_eq, sF_ne]
    · show setF S m g 0 4 (S m g 0 4 + op) m g 3 2 = _
      simp (disch := omega) only [sF_eq, sF_ne]
theorem i32_succ_ne (x : Int32) : x + 1 ≠ x := by
  intro z
  have e := congrArg (fun y => y - x) z
  simp only [Int32.add_comm x 1, Int32.add_sub_cancel, Int32.sub_self] at e
  exact absurd e (by decide)
theorem fin_eq {S T : St} {m N g : Nat} (h : rCr S m T N g) : pFin S m g = rFin T g ∧ (pFin S m g = false → pPs S m g < pLn S m g) ∧ (pFin S m g = true → pPs S m g = pLn S m g) := by
  obtain ⟨⟨-, q1, q2, -, -⟩, -, -, -, -, ⟨p1, p2, p3, -⟩, -⟩ := h
  unfold pFin rFin
  rw [← q1, ← q2]
  obtain ⟨x, hx, ex⟩ := okI_ex p2
  obtain ⟨y, hy, ey⟩ := okI_ex p1
  have ps : pPs S m g = x := by show (S m g 0 3).toNatClampNeg = x; rw [ex, nI_clamp (by omega)]
  have pl : pLn S m g = y := by show (S m g 3 2).toNatClampNeg = y; rw [ey, nI_clamp (by omega)]
  rw [ps, pl] at p3
  rw [ps, pl, ex, ey]
  rw [decide_eq_false (nI_pos (by omega)), Bool.false_or]
  by_cases hxy : x = y
  · subst hxy
    rw [decide_eq_false (nI_nlt (Nat.le_refl _) (by omega)), decide_eq_true rfl]
    exact ⟨rfl, fun z => absurd z (by decide), fun _ => rfl⟩
  · rw [decide_eq_true (nI_lt (by omega) (by omega)), decide_eq_false (fun z => hxy ((nI_eq (by omega) (by omega)).mp z))]
    exact ⟨rfl, fun _ => by omega, fun z => absurd z (by decide)⟩
/-- a step -/
theorem step_rel {S T : St} {m N g : Nat} {A : Int32} (h : rel S m T N A) (hgc : g < pCC S m) (hf : pFin S m g = false) (hN : N < 2 ^ 30) :
    (pStep S m g).1 = (rGo T g).1 ∧ rel (pStep S m g).2 m (rGo T g).2 (N + 1) (pAborts S m) := by
  have hg : g < 4 := by have := (cc_eq h).2; omega
  have H : rel (inc S m 7) m (rBump (setF T 7 0 0 13 0) 20) N (pAborts S m) := rel_inc (k := 7) (rel_ab0 h) (by omega) (by omega) (by omega)
  have hps : pPs S m g < pLn S m g := (fin_eq (h.2.2.1 g hg)).2.1 hf
  have ei : ∀ b i k, ¬ (b = 4 ∧ i = 3) → inc S m 7 m b i k = S m b i k := fun b i k hn => by simp (disch := omega) only [inc, sF_eq, sF_ne]
  have hcc : pCC (inc S m 7) m = pCC S m := by show (inc S m 7 m 4 0 4).toNatClampNeg = _; rw [ei 4 0 4 (by omega)]
  obtain ⟨hA, -, -, -, -, hP, -⟩ := H.2.2.1 g hg
  have hPs : pPs (inc S m 7) m g = pPs S m g := by show (inc S m 7 m g 0 3).toNatClampNeg = _; rw [ei g 0 3 (by omega)]
  have hLn : pLn (inc S m 7) m g = pLn S m g := by show (inc S m 7 m g 3 2).toNatClampNeg = _; rw [ei g 3 2 (by omega)]
  obtain ⟨p1, p2, p3, p4⟩ := hP
  obtain ⟨k1, k2, k3, k4⟩ := p4 (pPs S m g) (by rw [hLn]; exact hps)
  rw [ei g 4 _ (by omega)] at k1 k2 k4
  rw [ei g 5 _ (by omega)] at k3 k4
  have hr : rPs (rBump (setF T 7 0 0 13 0) 20) g = pPs S m g := by
    show (rOf (rBump (setF T 7 0 0 13 0) 20) g 1).toNatClampNeg = _
    rw [← hA.2.1, ei g 0 3 (by omega)]
  obtain ⟨c, hc, ec⟩ := okI_ex k2
  have eop : rOp (rBump (setF T 7 0 0 13 0) 20) g = S m g 5 (pPs S m g) := by
    show rOf (rBump (setF T 7 0 0 13 0) 20) g (36 + 2 * rPs (rBump (setF T 7 0 0 13 0) 20) g + 1) = _
    rw [hr, k3]
  have eB : rGoB T g = rExec (rBump (setF T 7 0 0 13 0) 20) g (kd (nI c)) (S m g 5 (pPs S m g)) (S m g 5 (pPs S m g)).toNatClampNeg := by
    unfold rGoB rExe
    rw [eop, hr, k1, ec]
  have eP : pStep S m g = pStepK S m g c (S m g 5 (pPs S m g)).toNatClampNeg := by
    unfold pStep
    rw [ec, nI_clamp (by omega)]
  have hop : c = 2 ∨ c = 3 → okI (S m g 5 (pPs S m g)) 7 := fun z => k4 (by
    rcases z with rfl | rfl
    · exact Or.inl ec
    · exact Or.inr ec)
  have e14 : inc S m 7 m g 0 14 = S m g 0 14 := ei g 0 14 (by omega)
  rw [eP]
  unfold pStepK rGo
  rw [eB]
  rcases exec_rel H (by rw [hcc]; exact hgc) hN hc hop with ⟨q1, q2, q3, q4, q5⟩ | ⟨q1, q2, q3⟩
  · generalize pExec (inc S m 7) m g c (S m g 5 (pPs S m g)).toNatClampNeg (S m g 5 (pPs S m g)) = U at *
    generalize rExec (rBump (setF T 7 0 0 13 0) 20) g (kd (nI c)) (S m g 5 (pPs S m g)) (S m g 5 (pPs S m g)).toNatClampNeg = V at *
    rw [if_pos q1]
    dsimp only
    rw [if_pos (q3.trans e14)]
    have hUp : pPs U m g = pPs S m g := by show (U m g 0 3).toNatClampNeg = _; rw [q4, ei g 0 3 (by omega)]
    have hUl : pLn U m g = pLn S m g := by show (U m g 3 2).toNatClampNeg = _; rw [q5, ei g 3 2 (by omega)]
    refine ⟨?_, rel_pos q2 hg (by rw [hUp, hUl]; exact hps)⟩
    have e11 := q2.1.2.2.2.2.2.2.2.2.2.2
    show (U m 4 3 5 + U m 4 3 6) - pAborts S m = rPut V.2 g 1 (rOf V.2 g 1 + 1) 7 0 0 13 + 0
    rw [e11, Int32.add_comm, Int32.add_sub_cancel, Int32.add_zero]
    simp (disch := omega) only [rPut, rBump, rOf, sF_eq, sF_ne]
  · generalize pExec (inc S m 7) m g c (S m g 5 (pPs S m g)).toNatClampNeg (S m g 5 (pPs S m g)) = U at *
    generalize rExec (rBump (setF T 7 0 0 13 0) 20) g (kd (nI c)) (S m g 5 (pPs S m g)) (S m g 5 (pPs S m g)).toNatClampNeg = V at *
    rw [if_neg (nt q1)]
    dsimp only
    rw [if_neg (show ¬ U m g 0 14 = S m g 0 14 by rw [q3, e14]; exact i32_succ_ne _)]
    refine ⟨?_, q2⟩
    have e11 := q2.1.2.2.2.2.2.2.2.2.2.2
    show (U m 4 3 5 + U m 4 3 6) - pAborts S m + 8 = V.2 7 0 0 13 + 8
    rw [e11, Int32.add_comm (pAborts S m), Int32.add_sub_cancel]

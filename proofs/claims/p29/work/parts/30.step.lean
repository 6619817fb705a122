/-! reads -/
theorem nt {b : Bool} (h : b = false) : ¬ b = true := by rw [h]; decide
theorem rel_acc {S T : St} {m N g : Nat} {A : Int32} (h : rel S m T N A) (hg : g < 4) (v : Int32) : rel (setF S m g 0 4 v) m (rPut T g 0 v) N A := by
  obtain ⟨hA, h1, h2, h3, hV, hP, hb⟩ := h.2.2.1 g hg
  refine rel_core h hg (fun b i k hb => by simp (disch := omega) only [sF_eq, sF_ne]) (fun k hk => by simp (disch := omega) only [rPut, rBump, rOf, sF_eq, sF_ne]) (fun k => by simp (disch := omega) only [rPut, rBump, rOf, sF_eq, sF_ne]) ?_ ⟨?_, ?_, ?_, ?_, ?_, ?_, ?_⟩
  · intro l hl c hcl d hdl hcd
    have hcc : pCC (setF S m g 0 4 v) m = pCC S m := by show ((setF S m g 0 4 v) m 4 0 4).toNatClampNeg = _; simp (disch := omega) only [sF_eq, sF_ne]
    rw [hcc] at hcl hdl
    simp (disch := omega) only [sF_eq, sF_ne]
    exact h.2.1 l hl c hcl d hdl hcd
  · unfold rA at *; simp (disch := omega) only [rPut, rBump, rOf, sF_eq, sF_ne]; exact ⟨trivial, hA.2⟩
  · unfold rT1 at *; simp (disch := omega) only [rPut, rBump, rOf, sF_eq, sF_ne]; exact h1
  · unfold rT2 at *; simp (disch := omega) only [rPut, rBump, rOf, sF_eq, sF_ne]; exact h2
  · unfold rT3 at *; simp (disch := omega) only [rPut, rBump, rOf, sF_eq, sF_ne]; exact h3
  · intro l hl
    obtain ⟨v1, v2, v3, v4, v5⟩ := hV l hl
    simp (disch := omega) only [rPut, rBump, rOf, sF_eq, sF_ne]
    exact ⟨v1, v2, v3, v4, v5⟩
  · obtain ⟨p1, p2, p3, p4⟩ := hP
    unfold rP pPs pLn at *
    simp (disch := omega) only [sF_eq, sF_ne]
    exact ⟨p1, p2, p3, fun k hk => p4 k hk⟩
  · unfold rB at *; simp (disch := omega) only [sF_eq, sF_ne]; exact hb

theorem rel_rd {S T : St} {m N g : Nat} {A : Int32} (h : rel S m T N A) (hg : g < 4) {j : Nat} (hj : j < 8) (ha : S m g 0 5 ≠ -1) : rel (setF S m g 0 9 (S m g 0 9 ||| 1 <<< (nI j &&& 31))) m (rPut T g 7 (rOf T g 7 ||| 1 <<< (nI j &&& 31))) N A := by
  obtain ⟨hA, h1, h2, h3, hV, hP, hb⟩ := h.2.2.1 g hg
  refine rel_core h hg (fun b i k hb => by simp (disch := omega) only [sF_eq, sF_ne]) (fun k hk => by simp (disch := omega) only [rPut, rBump, rOf, sF_eq, sF_ne]) (fun k => by simp (disch := omega) only [rPut, rBump, rOf, sF_eq, sF_ne]) ?_ ⟨?_, ?_, ?_, ?_, ?_, ?_, ?_⟩
  · intro l hl c hcl d hdl hcd
    have hcc : pCC (setF S m g 0 9 (S m g 0 9 ||| 1 <<< (nI j &&& 31))) m = pCC S m := by show ((setF S m g 0 9 (S m g 0 9 ||| 1 <<< (nI j &&& 31))) m 4 0 4).toNatClampNeg = _; simp (disch := omega) only [sF_eq, sF_ne]
    rw [hcc] at hcl hdl
    simp (disch := omega) only [sF_eq, sF_ne]
    exact h.2.1 l hl c hcl d hdl hcd
  · unfold rA at *; simp (disch := omega) only [rPut, rBump, rOf, sF_eq, sF_ne]; exact hA
  · unfold rT1 at *; simp (disch := omega) only [rPut, rBump, rOf, sF_eq, sF_ne]; exact h1
  · obtain ⟨b9, b10, b11, o9, o10, o11⟩ := h2
    unfold rT2; simp (disch := omega) only [rPut, rBump, rOf, sF_eq, sF_ne]
    exact ⟨by rw [b9], b10, b11, ok8_or o9 (ok8_1 hj), o10, o11⟩
  · obtain ⟨c1, c2, c3, c4⟩ := h3
    unfold rT3; simp (disch := omega) only [rPut, rBump, rOf, sF_eq, sF_ne]
    exact ⟨fun z => absurd z ha, c2, c3, c4⟩
  · intro l hl
    obtain ⟨v1, v2, v3, v4, v5⟩ := hV l hl
    simp (disch := omega) only [rPut, rBump, rOf, sF_eq, sF_ne]
    exact ⟨v1, v2, v3, v4, v5⟩
  · obtain ⟨p1, p2, p3, p4⟩ := hP
    unfold rP pPs pLn at *
    simp (disch := omega) only [sF_eq, sF_ne]
    exact ⟨p1, p2, p3, fun k hk => p4 k hk⟩
  · unfold rB at *; simp (disch := omega) only [sF_eq, sF_ne]; exact hb

theorem rel_fst {S T : St} {m N g : Nat} {A : Int32} (h : rel S m T N A) (hg : g < 4) {j : Nat} (hj : j < 8) (ha : S m g 0 5 ≠ -1) (v : Int32) : rel (setF (setF S m g 0 11 (S m g 0 11 ||| 1 <<< (nI j &&& 31))) m g 6 j v) m (rPut (rPut T g 11 (rOf T g 11 ||| 1 <<< (nI j &&& 31))) g (12 + j) v) N A := by
  obtain ⟨hA, h1, h2, h3, hV, hP, hb⟩ := h.2.2.1 g hg
  refine rel_core h hg (fun b i k hb => by simp (disch := omega) only [sF_eq, sF_ne]) (fun k hk => by simp (disch := omega) only [rPut, rBump, rOf, sF_eq, sF_ne]) (fun k => by simp (disch := omega) only [rPut, rBump, rOf, sF_eq, sF_ne]) ?_ ⟨?_, ?_, ?_, ?_, ?_, ?_, ?_⟩
  · intro l hl c hcl d hdl hcd
    have hcc : pCC (setF (setF S m g 0 11 (S m g 0 11 ||| 1 <<< (nI j &&& 31))) m g 6 j v) m = pCC S m := by show ((setF (setF S m g 0 11 (S m g 0 11 ||| 1 <<< (nI j &&& 31))) m g 6 j v) m 4 0 4).toNatClampNeg = _; simp (disch := omega) only [sF_eq, sF_ne]
    rw [hcc] at hcl hdl
    simp (disch := omega) only [sF_eq, sF_ne]
    exact h.2.1 l hl c hcl d hdl hcd
  · unfold rA at *; simp (disch := omega) only [rPut, rBump, rOf, sF_eq, sF_ne]; exact hA
  · unfold rT1 at *; simp (disch := omega) only [rPut, rBump, rOf, sF_eq, sF_ne]; exact h1
  · obtain ⟨b9, b10, b11, o9, o10, o11⟩ := h2
    unfold rT2; simp (disch := omega) only [rPut, rBump, rOf, sF_eq, sF_ne]
    exact ⟨b9, b10, by rw [b11], o9, o10, ok8_or o11 (ok8_1 hj)⟩
  · obtain ⟨c1, c2, c3, c4⟩ := h3
    unfold rT3; simp (disch := omega) only [rPut, rBump, rOf, sF_eq, sF_ne]
    exact ⟨fun z => absurd z ha, c2, c3, c4⟩
  · intro l hl
    obtain ⟨v1, v2, v3, v4, v5⟩ := hV l hl
    by_cases hlj : l = j
    · subst hlj
      simp (disch := omega) only [rPut, rBump, rOf, sF_eq, sF_ne]
      exact ⟨v1, v2, v3, v4, fun _ => trivial⟩
    · simp (disch := omega) only [rPut, rBump, rOf, sF_eq, sF_ne]
      refine ⟨v1, v2, v3, v4, fun z => v5 ?_⟩
      rw [hasL_or h2.2.2.2.2.2 (ok8_1 hj) hl, hasL_1 hj hl, decide_eq_false hlj, Bool.or_false] at z
      exact z
  · obtain ⟨p1, p2, p3, p4⟩ := hP
    unfold rP pPs pLn at *
    simp (disch := omega) only [sF_eq, sF_ne]
    exact ⟨p1, p2, p3, fun k hk => p4 k hk⟩
  · unfold rB at *; simp (disch := omega) only [sF_eq, sF_ne]; exact hb

theorem rel_pos {S T : St} {m N g : Nat} {A : Int32} (h : rel S m T N A) (hg : g < 4) (hp : pPs S m g < pLn S m g) : rel (setF S m g 0 3 (S m g 0 3 + 1)) m (rPut T g 1 (rOf T g 1 + 1)) N A := by
  obtain ⟨hA, h1, h2, h3, hV, hP, hb⟩ := h.2.2.1 g hg
  refine rel_core h hg (fun b i k hb => by simp (disch := omega) only [sF_eq, sF_ne]) (fun k hk => by simp (disch := omega) only [rPut, rBump, rOf, sF_eq, sF_ne]) (fun k => by simp (disch := omega) only [rPut, rBump, rOf, sF_eq, sF_ne]) ?_ ⟨?_, ?_, ?_, ?_, ?_, ?_, ?_⟩
  · intro l hl c hcl d hdl hcd
    have hcc : pCC (setF S m g 0 3 (S m g 0 3 + 1)) m = pCC S m := by show ((setF S m g 0 3 (S m g 0 3 + 1)) m 4 0 4).toNatClampNeg = _; simp (disch := omega) only [sF_eq, sF_ne]
    rw [hcc] at hcl hdl
    simp (disch := omega) only [sF_eq, sF_ne]
    exact h.2.1 l hl c hcl d hdl hcd
  · unfold rA at *; obtain ⟨q0, q1, q2⟩ := hA; simp (disch := omega) only [rPut, rBump, rOf, sF_eq, sF_ne]; exact ⟨q0, by rw [q1], q2⟩
  · unfold rT1 at *; simp (disch := omega) only [rPut, rBump, rOf, sF_eq, sF_ne]; exact h1
  · unfold rT2 at *; simp (disch := omega) only [rPut, rBump, rOf, sF_eq, sF_ne]; exact h2
  · unfold rT3 at *; simp (disch := omega) only [rPut, rBump, rOf, sF_eq, sF_ne]; exact h3
  · intro l hl
    obtain ⟨v1, v2, v3, v4, v5⟩ := hV l hl
    simp (disch := omega) only [rPut, rBump, rOf, sF_eq, sF_ne]
    exact ⟨v1, v2, v3, v4, v5⟩
  · obtain ⟨p1, p2, p3, p4⟩ := hP
    have hl30 : pLn S m g ≤ 30 := p1.2
    have h29 : okI (S m g 0 3) 29 := ⟨p2.1, by show pPs S m g ≤ 29; omega⟩
    obtain ⟨i1, i2⟩ := okI_inc h29 (by decide)
    unfold rP pPs pLn at *
    simp (disch := omega) only [sF_eq, sF_ne]
    exact ⟨p1, i1, by omega, fun k hk => p4 k hk⟩
  · unfold rB at *; simp (disch := omega) only [sF_eq, sF_ne]; exact hb

/-! a read -/
theorem note_acc {S : St} {m g j : Nat} {v : Int32} : setF (pNote S m g j) m g 0 4 v = pNote (setF S m g 0 4 v) m g j := by
  have e5 : pInT (setF S m g 0 4 v) m g = pInT S m g := by unfold pInT; simp (disch := omega) only [sF_eq, sF_ne]
  have eA : pNoteA (setF S m g 0 4 v) m g j = setF (pNoteA S m g j) m g 0 4 v := by
    unfold pNoteA
    simp (disch := omega) only [sF_eq, sF_ne]
    split
    · rfl
    · funext a b c d
      simp only [setF_at]
      repeat' split
      all_goals first | rfl | omega
  unfold pNote
  rw [e5, eA]
  split
  · funext a b c d
    simp only [setF_at]
    repeat' split
    all_goals first | rfl | omega
  · rfl
theorem note_2 {S : St} {m g j i q : Nat} (h0 : i ≠ 0) (h6 : i ≠ 6) : pNote S m g j m g i q = S m g i q := by
  unfold pNote pNoteA
  split
  · split
    · simp (disch := omega) only [sF_eq, sF_ne]
    · simp (disch := omega) only [sF_eq, sF_ne]
  · rfl
theorem note_0 {S : St} {m g j q : Nat} (h9 : q ≠ 9) (h11 : q ≠ 11) : pNote S m g j m g 0 q = S m g 0 q := by
  unfold pNote pNoteA
  split
  · split
    · simp (disch := omega) only [sF_eq, sF_ne]
    · simp (disch := omega) only [sF_eq, sF_ne]
  · rfl
theorem note_rel {S T : St} {m N g : Nat} {A : Int32} (h : rel S m T N A) (hg : g < 4) {j : Nat} (hj : j < 8) {v : Int32} (hv : v = S m g 2 j) : rel (pNote S m g j) m (rNote T g j v) N A := by
  obtain ⟨hA, h1, h2, h3, hV, hP, hb⟩ := h.2.2.1 g hg
  have ha := act_iff h1
  obtain ⟨b9, b10, b11, o9, o10, o11⟩ := h2
  unfold pNote rNote
  by_cases hi : S m g 0 5 = -1
  · rw [if_neg (by unfold pInT; rw [decide_eq_true hi]; decide), if_neg (by rw [ha.2.mpr hi]; decide)]
    exact h
  · rw [if_pos (by unfold pInT; rw [decide_eq_false hi]; rfl), if_pos (ha.1.mpr hi)]
    unfold pNoteA rNoteA
    rw [← b10, ← b11, rH_C (ok8_or o10 o11) hj]
    by_cases hc : hasL (S m g 0 10 ||| S m g 0 11) j = true
    · rw [if_pos hc, if_pos hc]
      exact rel_rd h hg hj hi
    · rw [if_neg hc, if_neg hc]
      rw [hv]
      have hf := rel_fst h hg hj hi (S m g 2 j)
      have e2 : setF S m g 0 11 (S m g 0 11 ||| 1 <<< (nI j &&& 31)) m g 2 j = S m g 2 j := by simp (disch := omega) only [sF_eq, sF_ne]
      simp only [e2]
      rw [← b11] at hf
      exact rel_rd hf hg hj (by simp (disch := omega) only [sF_eq, sF_ne]; exact hi)
theorem got_rel {S T : St} {m N g : Nat} {A : Int32} (h : rel S m T N A) (hg : g < 4) {j : Nat} (hj : j < 8) (hs : S m g 1 j ≠ 0) : rel (pGot S m g j) m (rGot T g j) N A := by
  obtain ⟨hA, h1, h2, h3, hV, hP, hb⟩ := h.2.2.1 g hg
  obtain ⟨v1, v2, v3, v4, v5⟩ := hV j hj
  rw [if_neg hs] at v3
  have e : pGot S m g j = pNote (setF S m g 0 4 (S m g 2 j)) m g j := by
    show setF (pNote S m g j) m g 0 4 (pNote S m g j m g 2 j) = _
    rw [note_2 (by omega) (by omega), note_acc]
  rw [e, rGot, v3]
  exact note_rel (rel_acc h hg _) hg hj (by simp (disch := omega) only [sF_eq, sF_ne])
theorem hurt_w {S : St} {m o j : Nat} {w : Bool} {T : St} {N : Nat} (h : rCr S m T N o) (hj : j < 8) (hh : pHurt S m o (nI j) w = false) : hasL (S m o 0 10) j = false := by
  obtain ⟨-, -, ⟨-, -, -, o9, o10, -⟩, -⟩ := h
  unfold pHurt at hh
  cases w
  · rw [if_neg (by decide)] at hh; exact hh
  · rw [if_pos rfl] at hh
    have := hasL_or o9 o10 hj
    rw [hasL] at this
    rw [this, Bool.or_eq_false_iff] at hh
    exact hh.2
theorem miss_rel {S T : St} {m N g j : Nat} {A : Int32} (h : rel S m T N A) (hg : g < 4) (hj : j < 8) (hno : ∀ o, o < pCC S m → o ≠ g → hasL (S m o 0 10) j = false) (hs : S m g 1 j = 0) : rel (pMiss S m g j) m (rMiss T g j) N A ∧ pMiss S m g j m g 1 j = 1 ∧ ∀ i q, i ≠ 1 → i ≠ 2 → pMiss S m g j m g i q = S m g i q := by
  have hcc : pCC (inc S m 0) m = pCC S m := by show (inc S m 0 m 4 0 4).toNatClampNeg = _; simp (disch := omega) only [inc, sF_eq, sF_ne]
  obtain ⟨w1, w2, w3, w4, w5⟩ := wbe_rel (g := g) (j := j) (rel_inc (k := 0) h (by omega) (by omega) (by omega)) hj (fun o ho hog => by simp (disch := omega) only [inc, sF_eq, sF_ne]; exact hno o (by omega) hog)
  have hw : hasL (S m g 0 10) j = false := by
    obtain ⟨-, -, -, -, hV, -, -⟩ := h.2.2.1 g hg
    obtain ⟨-, -, -, v4, -⟩ := hV j hj
    cases hh : hasL (S m g 0 10) j
    · rfl
    · have := v4 hh; rw [hs] at this; exact absurd this (by decide)
  have em : pWbe (inc S m 0) m g j m 4 2 j = rCol (rBump T 13) g j 7 0 1 (5 + j) := w1.1.2.1 j hj
  have e1 : setF (pWbe (inc S m 0) m g j) m g 1 j 1 m 4 2 j = pWbe (inc S m 0) m g j m 4 2 j := by simp (disch := omega) only [sF_eq, sF_ne]
  have e2 : rPut (rCol (rBump T 13) g j) g (20 + j) 1 7 0 1 (5 + j) = rCol (rBump T 13) g j 7 0 1 (5 + j) := by simp (disch := omega) only [rPut, rBump, rOf, sF_eq, sF_ne]
  refine ⟨?_, ?_, fun i q h1 h2 => ?_⟩
  · simp only [pMiss, rMiss]
    rw [e1, e2]
    exact rel_line w1 hg hj (okI_lit (k := 1) (by omega) (by omega) 1 rfl) (by rw [if_neg (by decide), em]) rfl (Or.inr (by rw [w4 g 0 10 hg (by omega)]; simp (disch := omega) only [inc, sF_eq, sF_ne]; exact hw)) (fun z => absurd z (by decide))
  · simp only [pMiss]; simp (disch := omega) only [sF_eq, sF_ne]
  · simp only [pMiss]; simp (disch := omega) only [sF_eq, sF_ne]; rw [w4 g i q hg h1]; simp (disch := omega) only [inc, sF_eq, sF_ne]
theorem got_c {S : St} {m g j i q : Nat} (h0 : ¬ (i = 0 ∧ (q = 4 ∨ q = 9 ∨ q = 11))) (h6 : i ≠ 6) : pGot S m g j m g i q = S m g i q := by
  simp only [pGot]
  simp (disch := omega) only [sF_eq, sF_ne]
  by_cases hi : i = 0
  · subst hi; exact note_0 (by omega) (by omega)
  · exact note_2 hi h6
theorem read_rel {S T : St} {m N g j : Nat} {A : Int32} (h : rel S m T N A) (hg : g < 4) (hj : j < 8) :
    ((rLoad T g j).1 = true ∧ rel (pRead S m g j) m (rLoad T g j).2 N A ∧ pRead S m g j m g 0 14 = S m g 0 14 ∧ pRead S m g j m g 0 3 = S m g 0 3 ∧ pRead S m g j m g 3 2 = S m g 3 2) ∨ ((rLoad T g j).1 = false ∧ rel (pRead S m g j) m (rLoad T g j).2 N A ∧ pRead S m g j m g 0 14 = S m g 0 14 + 1) := by
  unfold pRead rLoad
  rcases wc_rel (w := false) h hg hj with ⟨p1, p2, p3, p4, p5, p6⟩ | ⟨p1, p2, p3, p4⟩
  · rw [if_pos p1, if_pos p2]
    have hcc : pCC (pWc S m g j false).2 m = pCC S m := by show ((pWc S m g j false).2 m 4 0 4).toNatClampNeg = _; rw [p6 0 4 (by omega)]
    have hno : ∀ o, o < pCC (pWc S m g j false).2 m → o ≠ g → hasL ((pWc S m g j false).2 m o 0 10) j = false := fun o ho hog => by
      have h4 := (cc_eq p3).2
      exact hurt_w (p3.2.2.1 o (by omega)) hj (p4 o (by omega) hog)
    rw [st_eq p3 hg hj]
    refine Or.inl ⟨rfl, ?_⟩
    dsimp only
    by_cases hs : (pWc S m g j false).2 m g 1 j = 0
    · rw [if_pos hs, if_pos hs]
      obtain ⟨m1, m2, m3⟩ := miss_rel p3 hg hj hno hs
      exact ⟨got_rel m1 hg hj (by rw [m2]; decide), by rw [got_c (by omega) (by omega), m3 0 14 (by omega) (by omega), p5], by rw [got_c (by omega) (by omega), m3 0 3 (by omega) (by omega), p5], by rw [got_c (by omega) (by omega), m3 3 2 (by omega) (by omega), p5]⟩
    · rw [if_neg hs, if_neg hs]
      exact ⟨got_rel p3 hg hj hs, by rw [got_c (by omega) (by omega), p5], by rw [got_c (by omega) (by omega), p5], by rw [got_c (by omega) (by omega), p5]⟩
  · rw [if_neg (nt p1), if_neg (nt p2)]
    exact Or.inr ⟨rfl, p3, p4⟩

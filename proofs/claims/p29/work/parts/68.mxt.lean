/-! a step, steps -/
theorem read_5 : True := trivial
theorem MX_step {S T : St} {m n P N g : Nat} {A : Int32} (h : MX S m n P) (hr : rel S m T N A) (hg : g < n) (hf : pFin S m g = false) (hm : m ≠ 1) (hP : P < 400) (hN : N < 2 ^ 30) : MX (pStep S m g).2 m n P := by
  have hn := h.n4
  have hg4 : g < 4 := by omega
  have hgc : g < pCC S m := by rw [h.cc]; exact hg
  have H : rel (inc S m 7) m (rBump (setF T 7 0 0 13 0) 20) N (pAborts S m) := rel_inc (k := 7) (rel_ab0 hr) (by omega) (by omega) (by omega)
  have hM : MX (inc S m 7) m n P := MX_inc h (by omega) (by omega)
  have hps : pPs S m g < pLn S m g := (fin_eq (hr.2.2.1 g hg4)).2.1 hf
  have ei : ∀ b i k, ¬ (b = 4 ∧ i = 3) → inc S m 7 m b i k = S m b i k := fun b i k hn => by simp (disch := omega) only [inc, sF_eq, sF_ne]
  have hcc : pCC (inc S m 7) m = pCC S m := by show (inc S m 7 m 4 0 4).toNatClampNeg = _; rw [ei 4 0 4 (by omega)]
  obtain ⟨hA, -, -, t3, -, hPr, -⟩ := H.2.2.1 g hg4
  have hPs : pPs (inc S m 7) m g = pPs S m g := by show (inc S m 7 m g 0 3).toNatClampNeg = _; rw [ei g 0 3 (by omega)]
  have hLn : pLn (inc S m 7) m g = pLn S m g := by show (inc S m 7 m g 3 2).toNatClampNeg = _; rw [ei g 3 2 (by omega)]
  obtain ⟨p1, p2, p3, p4⟩ := hPr
  obtain ⟨k1, k2, k3, k4⟩ := p4 (pPs S m g) (by rw [hLn]; exact hps)
  rw [ei g 4 _ (by omega)] at k1 k2 k4
  rw [ei g 5 _ (by omega)] at k3 k4
  obtain ⟨c, hc, ec⟩ := okI_ex k2
  have eP : pStep S m g = pStepK S m g c (S m g 5 (pPs S m g)).toNatClampNeg := by
    unfold pStep
    rw [ec, nI_clamp (by omega)]
  have hop : c = 2 ∨ c = 3 → okI (S m g 5 (pPs S m g)) 7 := fun z => k4 (by
    rcases z with rfl | rfl
    · exact Or.inl ec
    · exact Or.inr ec)
  have e14 : inc S m 7 m g 0 14 = S m g 0 14 := ei g 0 14 (by omega)
  -- what the instruction does
  have key : ∃ d, d ≤ 1 ∧ MX (pExec (inc S m 7) m g c (S m g 5 (pPs S m g)).toNatClampNeg (S m g 5 (pPs S m g))) m n (P + d) ∧ (d = 1 → pExec (inc S m 7) m g c (S m g 5 (pPs S m g)).toNatClampNeg (S m g 5 (pPs S m g)) m g 0 5 = -1 ∧ (pExec (inc S m 7) m g c (S m g 5 (pPs S m g)).toNatClampNeg (S m g 5 (pPs S m g)) m g 0 14 = inc S m 7 m g 0 14)) := by
    have hcs : c = 0 ∨ c = 1 ∨ c = 2 ∨ c = 3 ∨ c = 4 := by omega
    rcases hcs with rfl | rfl | rfl | rfl | rfl
    · refine ⟨0, by omega, ?_, fun z => absurd z (by omega)⟩
      show MX (pBegin (inc S m 7) m g) m n P
      exact MX_beg hM hg hN H.1.2.2.2.2.2.2.2.1 t3.2.1
    · show ∃ d, d ≤ 1 ∧ MX (pCommit (inc S m 7) m g) m n (P + d) ∧ (d = 1 → pCommit (inc S m 7) m g m g 0 5 = -1 ∧ pCommit (inc S m 7) m g m g 0 14 = inc S m 7 m g 0 14)
      by_cases ht : inc S m 7 m g 0 5 = -1
      · have e : pCommit (inc S m 7) m g = inc S m 7 := by unfold pCommit; rw [if_neg (fun z => inT_iff.mp z ht)]
        rw [e]
        exact ⟨0, by omega, hM, fun z => absurd z (by omega)⟩
      · obtain ⟨c1, c2⟩ := MX_commit hM hg hm (by have := hM.q; omega) ht (by rcases t3.2.2.1 with z | z; exact absurd z ht; exact ⟨z.1, by have := z.2; omega⟩) (t3.2.2.2 ht).2.2.2.2 ((hM.2.2.1 g hg).2.2.2.2 ht)
        exact ⟨1, by omega, c1, fun _ => ⟨c2, (com_rel H hg4).2.1⟩⟩
    · have hj := (hop (Or.inl rfl)).2
      refine ⟨0, by omega, ?_, fun z => absurd z (by omega)⟩
      show MX (pRead (inc S m 7) m g (S m g 5 (pPs S m g)).toNatClampNeg) m n P
      exact MX_read hM hg (by omega)
    · have hj := (hop (Or.inr rfl)).2
      show ∃ d, d ≤ 1 ∧ MX (pWrite (inc S m 7) m g (S m g 5 (pPs S m g)).toNatClampNeg) m n (P + d) ∧ (d = 1 → pWrite (inc S m 7) m g (S m g 5 (pPs S m g)).toNatClampNeg m g 0 5 = -1 ∧ pWrite (inc S m 7) m g (S m g 5 (pPs S m g)).toNatClampNeg m g 0 14 = inc S m 7 m g 0 14)
      obtain ⟨d, d1, d2, d3⟩ := MX_write (j := (S m g 5 (pPs S m g)).toNatClampNeg) hM hg (by omega) hm hP
      refine ⟨d, d1, d2, fun z => ?_⟩
      obtain ⟨z1, z2, z3⟩ := d3 z
      refine ⟨z1, ?_⟩
      rw [z3]
      rcases wc_rel (j := (S m g 5 (pPs S m g)).toNatClampNeg) (w := true) H hg4 (by omega) with ⟨-, -, -, -, q5, -⟩ | ⟨q1, -⟩
      · exact q5 0 14
      · rw [q1] at z2; cases z2
    · refine ⟨0, by omega, ?_, fun z => absurd z (by omega)⟩
      exact MX_acc hM hg
  obtain ⟨d, d1, d2, d3⟩ := key
  rw [eP]
  unfold pStepK
  rcases exec_rel H (by rw [hcc]; exact hgc) hN hc hop with ⟨q1, q2, q3, q4, q5⟩ | ⟨q1, q2, q3⟩
  · generalize pExec (inc S m 7) m g c (S m g 5 (pPs S m g)).toNatClampNeg (S m g 5 (pPs S m g)) = U at *
    dsimp only
    rw [if_pos (q3.trans e14)]
    have hUp : pPs U m g = pPs S m g := by show (U m g 0 3).toNatClampNeg = _; rw [q4, ei g 0 3 (by omega)]
    have hUl : pLn U m g = pLn S m g := by show (U m g 3 2).toNatClampNeg = _; rw [q5, ei g 3 2 (by omega)]
    refine MX_pos d2 hg d1 (fun z => (d3 z).1) ?_ (by show pPs U m g < pLn U m g; rw [hUp, hUl]; exact hps)
    rw [q4]; exact p2
  · generalize pExec (inc S m 7) m g c (S m g 5 (pPs S m g)).toNatClampNeg (S m g 5 (pPs S m g)) = U at *
    dsimp only
    rw [if_neg (show ¬ U m g 0 14 = S m g 0 14 by rw [q3, e14]; exact i32_succ_ne _)]
    have hd : d = 0 := by
      rcases Nat.lt_or_ge d 1 with z | z
      · omega
      · have := (d3 (by omega)).2
        rw [q3] at this; exact absurd this (i32_succ_ne _)
    subst hd
    exact d2
theorem MX_drawS {S : St} {m n P : Nat} (h : MX S m n P) : MX (pDrawS S m) m n P := by
  have hn := h.n4
  refine MX_gen h (fun g i hg _ => by simp (disch := omega) only [pDrawS, sF_eq, sF_ne]) (fun g hg => by simp (disch := omega) only [pDrawS, sF_eq, sF_ne]) (by simp (disch := omega) only [pDrawS, sF_eq, sF_ne]) (by simp (disch := omega) only [pDrawS, sF_eq, sF_ne]) (fun i hi => by simp (disch := omega) only [pDrawS, sF_eq, sF_ne]) (fun i k hi => by simp (disch := omega) only [pDrawS, sF_eq, sF_ne]) (fun g hg => seS_cg (h.2.2.1 g hg) (fun i _ => by simp (disch := omega) only [pDrawS, sF_eq, sF_ne])) (fun l hl => lnS_cg (h.2.1 l hl) (fun g i hg _ => by simp (disch := omega) only [pDrawS, sF_eq, sF_ne]) (fun g i hg _ => by simp (disch := omega) only [pDrawS, sF_eq, sF_ne]) (by simp (disch := omega) only [pDrawS, sF_eq, sF_ne]) rfl)
/-- any number of steps -/
theorem MX_oft {S T : St} {m n P N b : Nat} {A : Int32} (h : MX S m n P) (hr : rel S m T N A) (hm : m ≠ 1) (hP : P < 400) (hN : N + b < 2 ^ 30) : MX (pOft S m b) m n P := by
  have key := lpE_rel (pOftF m) rRunF (fun k U V => MX U m n P ∧ ∃ A', rel U m V (N + k) A') (fun U _ => MX U m n P) b (fun k U V hk ⟨p1, A', q⟩ => by
    unfold pOftF rRunF
    rcases sch_rel q (by omega) with ⟨d1, d2, d3, -⟩ | ⟨d1, d2, d3, A2, d4⟩
    · rw [if_pos d1, d3, if_neg (show ¬ (false, V).1 = true from nt rfl), d2]
      exact Or.inr ⟨rfl, rfl, p1⟩
    · rw [if_neg d1, if_pos d2]
      refine Or.inl ⟨rfl, rfl, ?_, A2, d4⟩
      rcases draw_rel q with ⟨i, i1, i2, i3, -⟩ | ⟨i1, -⟩
      · rw [i3]
        have hi4 : i < 2 ^ 31 := by have := (cc_eq q).2; omega
        rw [nI_clamp hi4]
        exact MX_step (MX_drawS p1) (tick_rel q) (by rw [← p1.cc]; exact i1) i2 hm hP (by omega)
      · rw [i1] at d1; exact absurd rfl d1) b 0 S T (by omega) ⟨h, A, hr⟩
  unfold pOft
  rcases key with ⟨-, -, k, -⟩ | ⟨-, -, k⟩
  · exact k
  · exact k

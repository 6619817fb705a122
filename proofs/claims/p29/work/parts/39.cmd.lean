/-! the answers' ranges -/
theorem in_ix (x : Int32) {n : Nat} (hn : n < 2 ^ 30) : (∃ j, j < n ∧ x = nI j ∧ ¬ x < 0 ∧ ¬ nI n ≤ x ∧ rIn x 0 (nI n - 1) = true) ∨ ((x < 0 ∨ (¬ x < 0 ∧ nI n ≤ x)) ∧ rIn x 0 (nI n - 1) = false) := by
  by_cases h0 : x < 0
  · exact Or.inr ⟨Or.inl h0, by unfold rIn; rw [decide_eq_true h0]; rfl⟩
  · rcases pk_ix x (n := n) (by omega) with h | h | ⟨j, hj, rfl⟩
    · exact absurd h h0
    · refine Or.inr ⟨Or.inr ⟨h0, h⟩, ?_⟩
      have hlt : nI n - 1 < x := by
        by_cases hz : n = 0
        · subst hz
          exact Int32.lt_of_lt_of_le (show nI 0 - 1 < 0 by decide) (Int32.not_lt.mp h0)
        · rw [show (1 : Int32) = nI 1 from rfl, pk_sub (by omega)]
          exact Int32.lt_of_lt_of_le (nI_lt (by omega) (by omega)) h
      unfold rIn
      rw [decide_eq_false h0, decide_eq_true hlt]; rfl
    · refine Or.inl ⟨j, hj, rfl, h0, nI_ge hj (by omega), ?_⟩
      have hlt : ¬ nI n - 1 < nI j := by
        rw [show (1 : Int32) = nI 1 from rfl, pk_sub (by omega)]
        exact nI_nlt (by omega) (by omega)
      unfold rIn
      rw [decide_eq_false h0, decide_eq_false hlt]; rfl
theorem line_in (x : Int32) : (∃ j, j < 8 ∧ x = nI j ∧ pIsLine x = true ∧ rIn x 0 7 = true) ∨ (pIsLine x = false ∧ rIn x 0 7 = false) := by
  rcases in_ix x (n := 8) (by omega) with ⟨j, h1, h2, h3, h4, h5⟩ | ⟨h1, h2⟩
  · exact Or.inl ⟨j, h1, h2, by unfold pIsLine; rw [decide_eq_false h3, show decide (8 ≤ x) = false from decide_eq_false h4]; rfl, h5⟩
  · refine Or.inr ⟨?_, h2⟩
    unfold pIsLine
    rcases h1 with h | ⟨h, h'⟩
    · rw [decide_eq_true h]; rfl
    · rw [decide_eq_false h, show decide (8 ≤ x) = true from decide_eq_true h']; rfl
theorem pol_in (x : Int32) : (okI x 2 ∧ pIsPol x = true ∧ rIn x 0 2 = true) ∨ (pIsPol x = false ∧ rIn x 0 2 = false) := by
  rcases in_ix x (n := 3) (by omega) with ⟨j, h1, h2, h3, h4, h5⟩ | ⟨h1, h2⟩
  · exact Or.inl ⟨by rw [h2]; exact okI_nI (by omega) (by omega), by unfold pIsPol; rw [decide_eq_false h3, show decide (3 ≤ x) = false from decide_eq_false h4]; rfl, h5⟩
  · refine Or.inr ⟨?_, h2⟩
    unfold pIsPol
    rcases h1 with h | ⟨h, h'⟩
    · rw [decide_eq_true h]; rfl
    · rw [decide_eq_false h, show decide (3 ≤ x) = true from decide_eq_true h']; rfl
theorem run_in (x : Int32) : (∃ b, b ≤ 1000 ∧ x = nI b ∧ pIsRun x = true ∧ rIn x 0 1000 = true) ∨ (pIsRun x = false ∧ rIn x 0 1000 = false) := by
  have e : pIsRun x = rIn x 0 1000 := rfl
  rcases in_ix x (n := 1001) (by omega) with ⟨j, h1, h2, h3, h4, h5⟩ | ⟨h1, h2⟩
  · exact Or.inl ⟨j, by omega, h2, by rw [e]; exact h5, h5⟩
  · exact Or.inr ⟨by rw [e]; exact h2, h2⟩
theorem core_in {S T : St} {N : Nat} {A : Int32} (h : rel S 0 T N A) (x : Int32) : (∃ a, a < pCC S 0 ∧ a < 4 ∧ x = nI a ∧ pHasC S 0 x = true ∧ rIsC T x = true) ∨ (pHasC S 0 x = false ∧ rIsC T x = false) := by
  obtain ⟨hc, hc4⟩ := cc_eq h
  have e0 : S 0 4 0 4 = T 7 0 1 0 := h.1.1 0 (by omega)
  have ecc : S 0 4 0 4 = nI (pCC S 0) := h.1.2.2.2.1.1
  have eC : rIsC T x = rIn x 0 (nI (pCC S 0) - 1) := by show rIn x 0 (T 7 0 1 0 - 1) = _; rw [← e0, ecc]
  rcases in_ix x (n := pCC S 0) (by omega) with ⟨j, h1, h2, h3, h4, h5⟩ | ⟨h1, h2⟩
  · refine Or.inl ⟨j, h1, by omega, h2, ?_, by rw [eC]; exact h5⟩
    unfold pHasC
    rw [ecc, decide_eq_false h3, decide_eq_false h4, show decide (4 ≤ x) = false from decide_eq_false (by rw [h2]; exact nI_ge (b := 4) (by omega) (by omega))]; rfl
  · refine Or.inr ⟨?_, by rw [eC]; exact h2⟩
    unfold pHasC
    rcases h1 with h | ⟨h, h'⟩
    · rw [decide_eq_true h]; rfl
    · rw [ecc, decide_eq_false h, decide_eq_true h']; rfl
theorem ent_in {S T : St} {N : Nat} {A : Int32} (h : rel S 0 T N A) (x : Int32) : (∃ q, q < pQ S 0 ∧ q < 400 ∧ x = nI q ∧ pHasE S 0 x = true ∧ rIsE T x = true) ∨ (pHasE S 0 x = false ∧ rIsE T x = false) := by
  obtain ⟨-, -, hqq, hq4, hqS, hqT⟩ := (rel_q h).resolve_left (fun z => absurd z.1 (by decide))
  have e0 : S 0 4 4 7 = T 7 0 1 21 := by rw [hqS, hqT, hqq]
  have eC : rIsE T x = rIn x 0 (nI (pQ S 0) - 1) := by show rIn x 0 (T 7 0 1 21 - 1) = _; rw [← e0, hqS]
  rcases in_ix x (n := pQ S 0) (by omega) with ⟨j, h1, h2, h3, h4, h5⟩ | ⟨h1, h2⟩
  · refine Or.inl ⟨j, h1, by omega, h2, ?_, by rw [eC]; exact h5⟩
    unfold pHasE
    rw [hqS, decide_eq_false h3, decide_eq_false h4, show decide (nI (rmI 0) ≤ x) = false from decide_eq_false (by rw [h2]; exact nI_ge (b := 400) (by omega) (by omega))]; rfl
  · refine Or.inr ⟨?_, by rw [eC]; exact h2⟩
    unfold pHasE
    rcases h1 with h | ⟨h, h'⟩
    · rw [decide_eq_true h]; rfl
    · rw [hqS, decide_eq_false h, decide_eq_true h']; rfl
/-! the settings -/
theorem rel_pol {S T : St} {m N : Nat} {A x : Int32} (h : rel S m T N A) (hx : okI x 2) : rel (setF S m 4 0 5 x) m (setF T 7 0 1 1 x) N A := by
  obtain ⟨a1, a2, a3, a4, a5, a6, a7, a8, a9⟩ := h.1
  refine rel_mach h (fun g i q hg => by simp (disch := omega) only [sF_eq, sF_ne]) (fun i q hi => by simp (disch := omega) only [sF_eq, sF_ne]) (fun q hq => by simp (disch := omega) only [sF_eq, sF_ne]) (by simp (disch := omega) only [sF_eq, sF_ne]) (by simp (disch := omega) only [sF_eq, sF_ne]) (by simp (disch := omega) only [sF_eq, sF_ne]) (by simp (disch := omega) only [sF_eq, sF_ne]; exact Nat.le_refl _) (Nat.le_refl _) ?_
  unfold rG
  refine ⟨fun q hq => ?_, fun j hj => ?_, fun j hj => ?_, ?_⟩
  · by_cases hq1 : q = 1
    · subst hq1; simp (disch := omega) only [sF_eq, sF_ne]
    · simp (disch := omega) only [sF_eq, sF_ne]; exact a1 q hq
  · simp (disch := omega) only [sF_eq, sF_ne]; exact a2 j hj
  · simp (disch := omega) only [sF_eq, sF_ne]; exact a3 j hj
  · simp (disch := omega) only [sF_eq, sF_ne]
    exact ⟨a4, hx, a6, a7, a8, a9⟩
theorem rel_seed {S T : St} {m N : Nat} {A x : Int32} (h : rel S m T N A) (hx : okI x (2 ^ 31 - 1)) : rel (setF S m 4 0 7 x) m (setF T 7 0 1 3 x) N A := by
  obtain ⟨a1, a2, a3, a4, a5, a6, a7, a8, a9⟩ := h.1
  refine rel_mach h (fun g i q hg => by simp (disch := omega) only [sF_eq, sF_ne]) (fun i q hi => by simp (disch := omega) only [sF_eq, sF_ne]) (fun q hq => by simp (disch := omega) only [sF_eq, sF_ne]) (by simp (disch := omega) only [sF_eq, sF_ne]) (by simp (disch := omega) only [sF_eq, sF_ne]) (by simp (disch := omega) only [sF_eq, sF_ne]) (by simp (disch := omega) only [sF_eq, sF_ne]; exact Nat.le_refl _) (Nat.le_refl _) ?_
  unfold rG
  refine ⟨fun q hq => ?_, fun j hj => ?_, fun j hj => ?_, ?_⟩
  · by_cases hq1 : q = 3
    · subst hq1; simp (disch := omega) only [sF_eq, sF_ne]
    · simp (disch := omega) only [sF_eq, sF_ne]; exact a1 q hq
  · simp (disch := omega) only [sF_eq, sF_ne]; exact a2 j hj
  · simp (disch := omega) only [sF_eq, sF_ne]; exact a3 j hj
  · simp (disch := omega) only [sF_eq, sF_ne]
    exact ⟨a4, a5, a6, hx, a8, a9⟩
/-! a call that saves -/
theorem keep_U (S : St) (v : Int32) : (∀ i k, 1 ≤ i → i ≤ 4 → k < 8006 → rKeep (rCd S v) 7 0 (i + 1) k = S 7 0 i k) ∧ (∀ m g i, ¬ (m = 7 ∧ g = 0 ∧ (i = 0 ∨ (2 ≤ i ∧ i ≤ 5))) → rKeep (rCd S v) m g i = S m g i) ∧ (∀ k, k ≠ 5 → k ≠ 9 → rKeep (rCd S v) 7 0 0 k = S 7 0 0 k) ∧ rKeep (rCd S v) 7 0 0 5 = S 7 0 0 5 + (if 4 ≤ S 7 0 0 5 then 0 else 1) ∧ rKeep (rCd S v) 7 0 0 9 = v := by
  obtain ⟨k1, k2, k3, k4⟩ := rKeep_at (rCd S v)
  obtain ⟨c1, c2, c3⟩ := rCd_at S v
  exact ⟨fun i k h1 h4 hk => (k1 i k h1 h4 hk).trans (by rw [c1 7 0 i (by omega)]), fun m g i hn => (k2 m g i hn).trans (c1 m g i (by omega)), fun k h5 h9 => (k3 k h5).trans (c2 k h9), by rw [k4, c2 5 (by omega)], (k3 9 (by omega)).trans c3⟩
theorem save_7 (S : St) : pSave S 7 = S 7 := by
  unfold pSave
  split
  · rw [setF_m (by omega), pCopyM_m (by omega)]
  · rw [setF_m (by omega), pCopyM_m (by omega)]
theorem cmd_rel {S S1 : St} {N : Nat} (h : Inv S N) (hS1 : frM 0 (pSave S) S1) : ∃ A, rel (pSave S) 0 (rKeep (rCd S1 0)) N A := by
  obtain ⟨a1, a2, -, -⟩ := h
  obtain ⟨-, u2, u3, -⟩ := keep_U S1 0
  have e7 : S1 7 = S 7 := (hS1 7 (by omega)).trans (save_7 S)
  obtain ⟨A, hA⟩ := relE_to (T := rKeep (rCd S1 0)) a1 (by omega) (by rw [u3 8 (by omega) (by omega), e7]; exact a2) (fun k hk => by rw [u2 7 0 1 (by omega), e7])
  exact ⟨A, rel_fr hA (pSave_0 S)⟩
theorem Inv_cmdW {S S1 S2 : St} {N N' : Nat} {A : Int32} (h : Inv S N) (hS1 : frM 0 (pSave S) S1) (hU : ∀ m g i, ¬ (m = 7 ∧ g = 0 ∧ (i ≤ 1 ∨ 7 ≤ i)) → S2 m g i = rKeep (rCd S1 0) m g i) (h0 : ∀ k, k = 5 ∨ k = 7 ∨ k = 8 → S2 7 0 0 k = rKeep (rCd S1 0) 7 0 0 k) (hr : rel S1 0 S2 N' A) (hN : N ≤ N') : Inv S2 N' := by
  have hI := h
  obtain ⟨a1, a2, ⟨b1, b2, b3⟩, c1, c2, -⟩ := h
  obtain ⟨u1, u2, u3, u4, -⟩ := keep_U S1 0
  obtain ⟨s1, s2, s3, -⟩ := save_at S c1 c2
  have e7 : S1 7 = S 7 := (hS1 7 (by omega)).trans (save_7 S)
  have eM : ∀ m g i, m ≠ 7 → S2 m g i = S1 m g i := fun m g i hm => (hU m g i (by omega)).trans (u2 m g i (by omega))
  have e6 : ∀ g i k, ¬ (g = 0 ∧ i = 0 ∧ (k = 6 ∨ k = 7)) → S2 6 g i k = S 6 g i k := fun g i k hn => by
    rw [eM 6 g i (by omega), hS1 6 (by omega)]; exact s3 g i k hn
  have eT : pTL S2 = pTL S := by show (S2 6 0 0 1).toNatClampNeg = _; rw [e6 0 0 1 (by omega)]
  have ht : pTL S ≤ 120 := b1.2
  refine ⟨relE_fr (relE_of hr (by omega) (fun _ _ => rfl)) (by omega) (by funext g i; exact eM 0 g i (by omega)) (fun _ _ => rfl) (Nat.le_refl _), ?_, ⟨?_, ?_, fun k hk => ?_⟩, ?_⟩
  · rw [h0 8 (by omega), u3 8 (by omega) (by omega), e7]; exact a2
  · rw [e6 0 0 1 (by omega)]; exact b1
  · rw [h0 7 (by omega), u3 7 (by omega) (by omega), e7, e6 0 0 1 (by omega)]; exact b2
  · rw [eT] at hk
    rw [e6 0 1 k (by omega), hU 7 0 6 (by omega), u2 7 0 6 (by omega), e7]; exact b3 k hk
  · refine sv_keep hI (fun m h2 h5 => ?_) (fun k hk => ?_) (fun i k h2 h5 hk => ?_) ?_ hN
    · funext g i; rw [eM m g i (by omega), hS1 m (by omega)]
    · rw [eM 6 0 0 (by omega), hS1 6 (by omega)]
    · rw [hU 7 0 i (by omega)]
      have := u1 (i - 1) k (by omega) (by omega) hk
      rw [show i - 1 + 1 = i by omega] at this
      rw [this, e7]
    · rw [h0 5 (by omega), u4, e7]
theorem Inv_cmd {S S1 S2 : St} {N N' : Nat} {A : Int32} (h : Inv S N) (hS1 : frM 0 (pSave S) S1) (hU : ∀ m g i, ¬ (m = 7 ∧ g = 0 ∧ i ≤ 1) → S2 m g i = rKeep (rCd S1 0) m g i) (h0 : ∀ k, k = 5 ∨ k = 7 ∨ k = 8 → S2 7 0 0 k = rKeep (rCd S1 0) 7 0 0 k) (hr : rel S1 0 S2 N' A) (hN : N ≤ N') : Inv S2 N' :=
  Inv_cmdW h hS1 (fun m g i hn => hU m g i (by omega)) h0 hr hN
theorem setPol_ok {S : St} {N : Nat} {x : Int32} (h : Inv S N) (hx : okI x 2) (hi : rIn x 0 2 = true) : (rSetPol (pSetPol S x).2 x).1 = (pSetPol S x).1 ∧ (rSetPol (pSetPol S x).2 x).2 7 0 0 9 = 0 ∧ Inv (rSetPol (pSetPol S x).2 x).2 N := by
  have hM : frM 0 (pSave S) (pSetPol S x).2 := frM.set
  obtain ⟨A, hA⟩ := cmd_rel h hM
  obtain ⟨-, -, -, -, u5⟩ := keep_U (pSetPol S x).2 0
  have eA : (pSetPol S x).1 = pSave S 0 4 0 5 := rfl
  unfold rSetPol
  rw [if_pos hi, eA]
  dsimp only
  have e1 : pSave S 0 4 0 5 = rKeep (rCd (pSetPol S x).2 0) 7 0 1 1 := hA.1.1 1 (by omega)
  refine ⟨e1.symm, by simp (disch := omega) only [sF_eq, sF_ne]; exact u5, Inv_cmd (S2 := setF (rKeep (rCd (pSetPol S x).2 0)) 7 0 1 1 x) h hM (fun m g i hn => by funext q; simp (disch := omega) only [sF_eq, sF_ne]) (fun k hk => by simp (disch := omega) only [sF_eq, sF_ne]) (rel_pol hA hx) (Nat.le_refl _)⟩
theorem seed_ok {S : St} {N : Nat} {x : Int32} (h : Inv S N) (hx : okI x (2 ^ 31 - 1)) (hi : rIn x 0 999999 = true) : (rSeed (pSeed S x).2 x).1 = (pSeed S x).1 ∧ (rSeed (pSeed S x).2 x).2 7 0 0 9 = 0 ∧ Inv (rSeed (pSeed S x).2 x).2 N := by
  have hM : frM 0 (pSave S) (pSeed S x).2 := frM.set
  obtain ⟨A, hA⟩ := cmd_rel h hM
  obtain ⟨-, -, -, -, u5⟩ := keep_U (pSeed S x).2 0
  have eA : (pSeed S x).1 = pSave S 0 4 0 7 := rfl
  unfold rSeed
  rw [if_pos hi, eA]
  dsimp only
  have e1 : pSave S 0 4 0 7 = rKeep (rCd (pSeed S x).2 0) 7 0 1 3 := hA.1.1 3 (by omega)
  refine ⟨e1.symm, by simp (disch := omega) only [sF_eq, sF_ne]; exact u5, Inv_cmd (S2 := setF (rKeep (rCd (pSeed S x).2 0)) 7 0 1 3 x) h hM (fun m g i hn => by funext q; simp (disch := omega) only [sF_eq, sF_ne]) (fun k hk => by simp (disch := omega) only [sF_eq, sF_ne]) (rel_seed hA hx) (Nat.le_refl _)⟩
/-! again, a step, a run -/
theorem rel_pos0 {S T : St} {m N g : Nat} {A : Int32} (h : rel S m T N A) (hg : g < 4) : rel (setF S m g 0 3 0) m (rPut T g 1 0) N A := by
  obtain ⟨hA, h1, h2, h3, hV, hP, hb⟩ := h.2.2.1 g hg
  refine rel_core h hg (fun b i k hb => by simp (disch := omega) only [sF_eq, sF_ne]) (fun k hk => by simp (disch := omega) only [rPut, rBump, rOf, sF_eq, sF_ne]) (fun k => by simp (disch := omega) only [rPut, rBump, rOf, sF_eq, sF_ne]) ?_ ⟨?_, ?_, ?_, ?_, ?_, ?_, ?_⟩
  · intro l hl c hcl d hdl hcd
    have hcc : pCC (setF S m g 0 3 0) m = pCC S m := by show (setF S m g 0 3 0 m 4 0 4).toNatClampNeg = _; simp (disch := omega) only [sF_eq, sF_ne]
    rw [hcc] at hcl hdl
    simp (disch := omega) only [sF_eq, sF_ne]
    exact h.2.1 l hl c hcl d hdl hcd
  · unfold rA at *
    obtain ⟨q0, q1, q2⟩ := hA
    simp (disch := omega) only [rPut, rBump, rOf, sF_eq, sF_ne]; exact ⟨q0, trivial, q2⟩
  · unfold rT1 at *; simp (disch := omega) only [rPut, rBump, rOf, sF_eq, sF_ne]; exact h1
  · unfold rT2 at *; simp (disch := omega) only [rPut, rBump, rOf, sF_eq, sF_ne]; exact h2
  · unfold rT3 at *; simp (disch := omega) only [rPut, rBump, rOf, sF_eq, sF_ne]; exact h3
  · intro l hl
    obtain ⟨v1, v2, v3, v4, v5⟩ := hV l hl
    simp (disch := omega) only [rPut, rBump, rOf, sF_eq, sF_ne]
    exact ⟨v1, v2, v3, v4, v5⟩
  · obtain ⟨p1, p2, p3, p4⟩ := hP
    unfold rP pPs pLn at *
    simp (disch := omega) only [sF_eq, sF_ne]
    exact ⟨p1, okI_lit (k := 0) (by omega) (by omega) 0 rfl, by show (0 : Int32).toNatClampNeg ≤ _; exact Nat.zero_le _, fun k hk => p4 k hk⟩
  · unfold rB at *; simp (disch := omega) only [sF_eq, sF_ne]; exact hb
theorem again_ok {S : St} {N a : Nat} (h : Inv S N) (ha : a < 4) (hf : pFin S 0 a = true) (ht : pInT S 0 a = false) : (rAgain (pAgain S a) a).1 = pAgain S a 0 a 3 2 ∧ (rAgain (pAgain S a) a).2 7 0 0 9 = 0 ∧ Inv (rAgain (pAgain S a) a).2 N := by
  have hM : frM 0 (pSave S) (pAgain S a) := frM.set
  obtain ⟨A, hA⟩ := cmd_rel h hM
  obtain ⟨-, u2, u3, u4, u5⟩ := keep_U (pAgain S a) 0
  obtain ⟨hAa, h1, -⟩ := hA.2.2.1 a ha
  have eR : ∀ w, rOf (pAgain S a) a w = rOf (rKeep (rCd (pAgain S a) 0)) a w := fun w => by show _ = rKeep (rCd (pAgain S a) 0) 7 0 1 _; rw [u2 7 0 1 (by omega)]
  have ef : rFin (pAgain S a) a = true := by
    unfold rFin
    rw [eR, eR]
    have := (fin_eq (hA.2.2.1 a ha)).1
    have e0 : pFin (pSave S) 0 a = pFin S 0 a := by unfold pFin; rw [pSave_0]
    rw [e0, hf] at this
    exact this.symm
  have e3 : ¬ rOf (pAgain S a) a 3 = 1 := by
    rw [eR]
    intro z
    have z5 := (act_iff h1).1.mp z
    rw [pSave_0] at z5
    exact absurd (inT_iff.mpr z5) (nt ht)
  unfold rAgain
  rw [if_pos ef, if_neg e3]
  refine ⟨?_, by simp (disch := omega) only [rPut, rBump, rOf, sF_eq, sF_ne]; exact u5, Inv_cmd (S2 := rPut (rKeep (rCd (pAgain S a) 0)) a 1 0) h hM (fun m g i hn => by funext q; simp (disch := omega) only [rPut, rBump, rOf, sF_eq, sF_ne]) (fun k hk => by simp (disch := omega) only [rPut, rBump, rOf, sF_eq, sF_ne]) (rel_pos0 hA ha) (Nat.le_refl _)⟩
  show rOf (rPut (rKeep (rCd (pAgain S a) 0)) a 1 0) a 2 = setF (pSave S) 0 a 0 3 0 0 a 3 2
  simp (disch := omega) only [rPut, rBump, rOf, sF_eq, sF_ne]
  exact hAa.2.2.1.symm
theorem step_ok {S : St} {N a : Nat} (h : Inv S N) (hN : N < 2 ^ 30) (ha : a < pCC S 0) (hf : pFin S 0 a = false) : (rStepQ (pStep (pSave S) 0 a).2 a).1 = (pStep (pSave S) 0 a).1 ∧ (rStepQ (pStep (pSave S) 0 a).2 a).2 7 0 0 9 = 0 ∧ Inv (rStepQ (pStep (pSave S) 0 a).2 a).2 (N + 1) := by
  have hM : frM 0 (pSave S) (pStep (pSave S) 0 a).2 := step_M
  obtain ⟨A, hA⟩ := cmd_rel h hM
  obtain ⟨-, u2, u3, u4, u5⟩ := keep_U (pStep (pSave S) 0 a).2 0
  have ecc : pCC (pSave S) 0 = pCC S 0 := by show (pSave S 0 4 0 4).toNatClampNeg = _; rw [pSave_0]
  have hf' : pFin (pSave S) 0 a = false := by unfold pFin at *; rw [pSave_0]; exact hf
  have ha4 : a < 4 := by have := (cc_eq hA).2; omega
  obtain ⟨s1, s2⟩ := step_rel hA (by rw [ecc]; exact ha) hf' hN
  obtain ⟨⟨g1, g2, g3⟩, -⟩ := rGo_T (S := rKeep (rCd (pStep (pSave S) 0 a).2 0)) ha4 (wf_rel hA ha4 hf').2
  have eR : ∀ w, rOf (pStep (pSave S) 0 a).2 a w = rOf (rKeep (rCd (pStep (pSave S) 0 a).2 0)) a w := fun w => by show _ = rKeep (rCd (pStep (pSave S) 0 a).2 0) 7 0 1 _; rw [u2 7 0 1 (by omega)]
  have ef : rFin (pStep (pSave S) 0 a).2 a = false := by
    unfold rFin
    rw [eR, eR]
    have := (fin_eq (hA.2.2.1 a ha4)).1
    rw [hf'] at this
    exact this.symm
  unfold rStepQ
  rw [if_neg (nt ef)]
  exact ⟨s1.symm, by rw [g2 9 (by omega)]; exact u5, Inv_cmd h hM g1 (fun k hk => g2 k (by omega)) s2 (Nat.le_succ _)⟩
theorem run_ok {S : St} {N b : Nat} (h : Inv S N) (hN : N + b < 2 ^ 30) : okDs (pSave S) 0 b ∧ okRs (rKeep (rCd (pRunS S b) 0)) b ∧ okI (pRunS S b 0 4 0 4) 4 ∧ okI (rRunQ (pRunS S b) b 7 0 1 0) 4 ∧ rFinC (rRunQ (pRunS S b) b) = pFinC (pRunS S b) 0 ∧ rRunQ (pRunS S b) b 7 0 0 9 = 0 ∧ Inv (rRunQ (pRunS S b) b) (N + b) := by
  have hM : frM 0 (pSave S) (pRunS S b) := oft_M
  obtain ⟨A, hA⟩ := cmd_rel h hM
  obtain ⟨-, u2, u3, u4, u5⟩ := keep_U (pRunS S b) 0
  obtain ⟨r1, r2, ⟨g1, g2, g3⟩, A', r3⟩ := runs_rel (b := b) hA hN
  have e0 : pRunS S b 0 4 0 4 = rRunQ (pRunS S b) b 7 0 1 0 := r3.1.1 0 (by omega)
  refine ⟨r1, r2, r3.1.2.2.2.1, by rw [← e0]; exact r3.1.2.2.2.1, (finC_rel r3).1.symm, ?_, Inv_cmd h hM g1 (fun k hk => g2 k (by omega)) r3 (Nat.le_add_right _ _)⟩
  show rRuns (rKeep (rCd (pRunS S b) 0)) b 7 0 0 9 = 0
  rw [g2 9 (by omega)]; exact u5

/-! a read -/
theorem MX_fill {S : St} {m n P a j : Nat} (h : MX S m n P) (ha : a < n) (hj : j < 8) (hs : S m a 1 j = 0) (ho : ∀ b, b < n → b ≠ a → S m b 1 j ≠ 2) : MX (setF (setF S m a 1 j 1) m a 2 j (S m 4 2 j)) m n P := by
  have hn := h.n4
  refine MX_gen h (fun g i hg _ => by simp (disch := omega) only [sF_eq, sF_ne]) (fun g hg => by simp (disch := omega) only [sF_eq, sF_ne]) (by simp (disch := omega) only [sF_eq, sF_ne]) (by simp (disch := omega) only [sF_eq, sF_ne]) (fun i hi => by simp (disch := omega) only [sF_eq, sF_ne]) (fun i k hi => by simp (disch := omega) only [sF_eq, sF_ne]) (fun g hg => seS_cg (h.2.2.1 g hg) (fun i _ => by simp (disch := omega) only [sF_eq, sF_ne])) (fun l hl => ?_)
  by_cases hlj : l = j
  · subst hlj
    exact ln_miss (h.2.1 l hl) ha hs ho (fun g hg hne => by simp (disch := omega) only [sF_eq, sF_ne]) (by simp (disch := omega) only [sF_eq, sF_ne]) (fun g hg hne => by simp (disch := omega) only [sF_eq, sF_ne]) (by simp (disch := omega) only [sF_eq, sF_ne]) (fun g hg => by simp (disch := omega) only [sF_eq, sF_ne]) (fun g hg => by simp (disch := omega) only [sF_eq, sF_ne]) (fun g hg => by simp (disch := omega) only [sF_eq, sF_ne]) (fun g hg => by simp (disch := omega) only [sF_eq, sF_ne]) (by simp (disch := omega) only [sF_eq, sF_ne]) rfl
  · exact lnS_cg (h.2.1 l hl) (fun g i hg _ => by simp (disch := omega) only [sF_eq, sF_ne]) (fun g i hg _ => by simp (disch := omega) only [sF_eq, sF_ne]) (by simp (disch := omega) only [sF_eq, sF_ne]) rfl
theorem MX_miss {S : St} {m n P g j : Nat} (h : MX S m n P) (hg : g < n) (hj : j < 8) (hs : S m g 1 j = 0) (hno : ∀ b, b < n → b ≠ g → hasL (S m b 0 10) j = false) : MX (pMiss S m g j) m n P ∧ pMiss S m g j m g 1 j = 1 ∧ ∀ b q, b < n → pMiss S m g j m b 0 q = S m b 0 q := by
  have hn := h.n4
  obtain ⟨w1, w2, w3, -⟩ := MX_wbe (S := inc S m 0) (g := g) (MX_inc (k := 0) h (by omega) (by omega)) hj (fun b hb hbg => by rw [inc_ne (by omega)]; exact hno b hb hbg)
  have e1 : pWbe (inc S m 0) m g j m g 1 j = 0 := by rw [w3 g 1 j (by omega) (Or.inl rfl), inc_ne (by omega)]; exact hs
  have e : pMiss S m g j = setF (setF (pWbe (inc S m 0) m g j) m g 1 j 1) m g 2 j (pWbe (inc S m 0) m g j m 4 2 j) := by
    unfold pMiss; dsimp only; rw [sF_ne (show ¬ (m = m ∧ 4 = g ∧ 2 = 1 ∧ j = j) by omega)]
  rw [e]
  refine ⟨MX_fill w1 hg hj e1 w2, by simp (disch := omega) only [sF_eq, sF_ne], fun b q hb => ?_⟩
  simp (disch := omega) only [sF_eq, sF_ne]
  rw [w3 b 0 q (by omega) (Or.inr (by omega)), inc_ne (by omega)]
theorem hasL_o {x : Int32} (hx : ok8 x) {j k : Nat} (hj : j < 8) (hk : k < 8) : hasL (x ||| 1 <<< (nI j &&& 31)) k = (hasL x k || decide (k = j)) := by
  rw [hasL_or hx (ok8_1 hj) hk, hasL_1 hj hk]
theorem MX_note {S : St} {m n P a j : Nat} (h : MX S m n P) (ha : a < n) (hj : j < 8) (hs : S m a 1 j ≠ 0) (ho : ∀ b, b < n → b ≠ a → hasL (S m b 0 10) j = false) : MX (pNote S m a j) m n P := by
  have hn := h.n4
  unfold pNote
  by_cases ht : pInT S m a = true
  · rw [if_pos ht]
    have ht5 : S m a 0 5 ≠ -1 := inT_iff.mp ht
    obtain ⟨s1, s2, s3, s4, s5⟩ := h.2.2.1 a ha
    unfold pNoteA
    by_cases hc : pContains (S m a 0 10 ||| S m a 0 11) (nI j) = true
    · rw [if_pos hc]
      have hc' : (hasL (S m a 0 10) j || hasL (S m a 0 11) j) = true := by rw [← hasL_or s2 s3 hj]; exact hc
      refine MX_gen h (fun g i hg _ => by simp (disch := omega) only [sF_eq, sF_ne]) (fun g hg => by simp (disch := omega) only [sF_eq, sF_ne]) (by simp (disch := omega) only [sF_eq, sF_ne]) (by simp (disch := omega) only [sF_eq, sF_ne]) (fun i hi => by simp (disch := omega) only [sF_eq, sF_ne]) (fun i k hi => by simp (disch := omega) only [sF_eq, sF_ne]) (fun g hg => ?_) (fun l hl => ?_)
      · by_cases hga : g = a
        · subst hga; unfold seS; simp (disch := omega) only [sF_eq, sF_ne]
          exact ⟨ok8_or s1 (ok8_1 hj), s2, s3, fun z => absurd z ht5, s5⟩
        · exact seS_cg (h.2.2.1 g hg) (fun i _ => by simp (disch := omega) only [sF_eq, sF_ne])
      · by_cases hlj : l = j
        · subst hlj
          refine ln_note (h.2.1 l hl) ha hs ho (fun g hg => by simp (disch := omega) only [sF_eq, sF_ne]) (fun g hg => by simp (disch := omega) only [sF_eq, sF_ne]) (fun g hg hne => by simp (disch := omega) only [sF_eq, sF_ne]) (fun g hg => by simp (disch := omega) only [sF_eq, sF_ne]) (fun g hg hne => by simp (disch := omega) only [sF_eq, sF_ne]) (by simp (disch := omega) only [sF_eq, sF_ne]; rw [hasL_o s1 hj hl]; simp) (fun g hg hne => by simp (disch := omega) only [sF_eq, sF_ne]) ?_ ?_ (by simp (disch := omega) only [sF_eq, sF_ne]) rfl
          · simp (disch := omega) only [sF_eq, sF_ne]
            cases hw : hasL (S m a 0 10) l <;> cases hf : hasL (S m a 0 11) l <;> simp [hw, hf] at hc' ⊢
          · simp (disch := omega) only [sF_eq, sF_ne]; rw [if_pos hc']
        · refine ln_cg (h.2.1 l hl) (fun g hg => by simp (disch := omega) only [sF_eq, sF_ne]) (fun g hg => by simp (disch := omega) only [sF_eq, sF_ne]) (fun g hg => by simp (disch := omega) only [sF_eq, sF_ne]) (fun g hg => by simp (disch := omega) only [sF_eq, sF_ne]) (fun g hg => ?_) (fun g hg => by simp (disch := omega) only [sF_eq, sF_ne]) (by simp (disch := omega) only [sF_eq, sF_ne]) rfl
          by_cases hga : g = a
          · subst hga; simp (disch := omega) only [sF_eq, sF_ne]; rw [hasL_o s1 hj hl]; simp [hlj]
          · simp (disch := omega) only [sF_eq, sF_ne]
    · rw [if_neg hc]
      have hc' : (hasL (S m a 0 10) j || hasL (S m a 0 11) j) = false := by rw [← hasL_or s2 s3 hj]; simpa using hc
      have hw : hasL (S m a 0 10) j = false := by revert hc'; cases hasL (S m a 0 10) j <;> simp
      dsimp only
      refine MX_gen h (fun g i hg _ => by simp (disch := omega) only [sF_eq, sF_ne]) (fun g hg => by simp (disch := omega) only [sF_eq, sF_ne]) (by simp (disch := omega) only [sF_eq, sF_ne]) (by simp (disch := omega) only [sF_eq, sF_ne]) (fun i hi => by simp (disch := omega) only [sF_eq, sF_ne]) (fun i k hi => by simp (disch := omega) only [sF_eq, sF_ne]) (fun g hg => ?_) (fun l hl => ?_)
      · by_cases hga : g = a
        · subst hga; unfold seS; simp (disch := omega) only [sF_eq, sF_ne]
          exact ⟨ok8_or s1 (ok8_1 hj), s2, ok8_or s3 (ok8_1 hj), fun z => absurd z ht5, s5⟩
        · exact seS_cg (h.2.2.1 g hg) (fun i _ => by simp (disch := omega) only [sF_eq, sF_ne])
      · by_cases hlj : l = j
        · subst hlj
          refine ln_note (h.2.1 l hl) ha hs ho (fun g hg => by simp (disch := omega) only [sF_eq, sF_ne]) (fun g hg => by simp (disch := omega) only [sF_eq, sF_ne]) (fun g hg hne => by simp (disch := omega) only [sF_eq, sF_ne]) (fun g hg => by simp (disch := omega) only [sF_eq, sF_ne]) (fun g hg hne => by simp (disch := omega) only [sF_eq, sF_ne]) (by simp (disch := omega) only [sF_eq, sF_ne]; rw [hasL_o s1 hj hl]; simp) (fun g hg hne => by simp (disch := omega) only [sF_eq, sF_ne]) ?_ ?_ (by simp (disch := omega) only [sF_eq, sF_ne]) rfl
          · simp (disch := omega) only [sF_eq, sF_ne]; rw [hasL_o s3 hj hl, hw]; simp
          · simp (disch := omega) only [sF_eq, sF_ne]; rw [if_neg (by rw [hc']; decide)]
        · refine ln_cg (h.2.1 l hl) (fun g hg => by simp (disch := omega) only [sF_eq, sF_ne]) (fun g hg => by simp (disch := omega) only [sF_eq, sF_ne]) (fun g hg => by simp (disch := omega) only [sF_eq, sF_ne]) (fun g hg => by simp (disch := omega) only [sF_eq, sF_ne]) (fun g hg => ?_) (fun g hg => ?_) (by simp (disch := omega) only [sF_eq, sF_ne]) rfl
          · by_cases hga : g = a
            · subst hga; simp (disch := omega) only [sF_eq, sF_ne]; rw [hasL_o s1 hj hl]; simp [hlj]
            · simp (disch := omega) only [sF_eq, sF_ne]
          · by_cases hga : g = a
            · subst hga; simp (disch := omega) only [sF_eq, sF_ne]; rw [hasL_o s3 hj hl]; simp [hlj]
            · simp (disch := omega) only [sF_eq, sF_ne]
  · rw [if_neg ht]; exact h
theorem MX_read {S : St} {m n P g j : Nat} (h : MX S m n P) (hg : g < n) (hj : j < 8) : MX (pRead S m g j) m n P := by
  obtain ⟨w1, w2⟩ := MX_wc (w := false) h hg hj
  unfold pRead
  generalize pWc S m g j false = q at *
  by_cases h1 : q.1 = true
  · rw [if_pos h1]
    have hno : ∀ b, b < n → b ≠ g → hasL (q.2 m b 0 10) j = false := fun b hb hbg => (w2 h1 b hb hbg).1
    unfold pGot
    dsimp only
    refine MX_acc ?_ hg
    by_cases h0 : q.2 m g 1 j = 0
    · rw [if_pos h0]
      obtain ⟨m1, m2, m3⟩ := MX_miss w1 hg hj h0 hno
      exact MX_note m1 hg hj (by rw [m2]; decide) (fun b hb hbg => by rw [m3 b 10 hb]; exact hno b hb hbg)
    · rw [if_neg h0]
      exact MX_note w1 hg hj h0 hno
  · rw [if_neg h1]; exact w1

/-! a roll-back, the conflicts, a write-back elsewhere -/
theorem roll_at (S : St) (m g : Nat) : (∀ l, l < 8 → pRoll S m g m g 1 l = if hasL (S m g 0 10) l = true then 0 else S m g 1 l) ∧ (pRoll S m g m g 0 5 = -1 ∧ pRoll S m g m g 0 6 = S m g 0 5 ∧ pRoll S m g m g 0 9 = 0 ∧ pRoll S m g m g 0 10 = 0 ∧ pRoll S m g m g 0 11 = 0 ∧ pRoll S m g m g 0 3 = S m g 0 7 ∧ pRoll S m g m g 0 14 = S m g 0 14 + 1 ∧ pRoll S m g m g 0 7 = S m g 0 7 ∧ pRoll S m g m g 0 13 = S m g 0 13) ∧ (∀ i k, i ≠ 0 → i ≠ 1 → pRoll S m g m g i k = S m g i k) ∧ ∀ b i k, b ≠ g → pRoll S m g m b i k = S m b i k := by
  obtain ⟨h1, h2⟩ := rollL S m g
  have e : ∀ i k, i ≠ 1 → lp (pRollF m g) 8 0 S m g i k = S m g i k := fun i k hi => h2 m g i k (by omega)
  refine ⟨fun l hl => ?_, ⟨?_, ?_, ?_, ?_, ?_, ?_, ?_, ?_, ?_⟩, fun i k h0 h1 => ?_, fun b i k hb => roll_ne hb⟩
  · rw [← h1 l hl]; simp (disch := omega) only [pRoll, pEndT, sF_eq, sF_ne]
  all_goals simp (disch := omega) only [pRoll, pEndT, sF_eq, sF_ne]
  all_goals first | rfl | rw [e _ _ (by omega)]
theorem inc_ne {S : St} {m k g i q : Nat} (h : ¬ (g = 4 ∧ i = 3 ∧ q = k)) : inc S m k m g i q = S m g i q := by rw [inc, sF_ne (by omega)]
theorem MX_roll {S : St} {m n P a u : Nat} (h : MX S m n P) (ha : a < n) (ht : S m a 0 5 ≠ -1) (hu : u = 5 ∨ u = 6) : MX (inc (pRoll S m a) m u) m n P := by
  have hn := h.n4
  obtain ⟨⟨h1, h1q⟩, h2, h3, h4, h5, h6, h7, h8⟩ := h
  obtain ⟨r1, ⟨t5, t6, t9, t10, t11, t3, t14, t7, t13⟩, r0, rn⟩ := roll_at S m a
  have en : ∀ b i k, b ≠ a → b ≠ 4 → inc (pRoll S m a) m u m b i k = S m b i k := fun b i k hb h4 => by rw [inc_ne (by omega), rn b i k hb]
  have ea : ∀ i k, inc (pRoll S m a) m u m a i k = pRoll S m a m a i k := fun i k => inc_ne (by omega)
  have e4 : ∀ i k, i ≠ 3 → inc (pRoll S m a) m u m 4 i k = S m 4 i k := fun i k hi => by rw [inc_ne (by omega), rn 4 i k (by omega)]
  generalize hS : inc (pRoll S m a) m u = S' at *
  have eQ : pQ S' m = pQ S m := by show (S' m 4 4 7).toNatClampNeg = (S m 4 4 7).toNatClampNeg; rw [e4 4 7 (by omega)]
  have eV : ∀ l, l < 8 → lgV S' m (pQ S m) l = lgV S m (pQ S m) l := lgV_cg _ (fun e _ => e4 8 e (by omega)) (fun e l _ _ => e4 10 _ (by omega))
  have eT : ∀ e, tn S' m e = tn S m e := fun e => by unfold tn; rw [e4 6 e (by omega)]
  unfold MX
  rw [eQ, e4 0 8 (by omega), e4 4 7 (by omega)]
  refine ⟨⟨⟨by rw [← h1.1]; show (S' m 4 0 4).toNatClampNeg = _; rw [e4 0 4 (by omega)], h1.2⟩, h1q⟩, fun l hl => ?_, fun g hg => ?_, ?_, ?_, ?_, ⟨?_, fun g hg => ?_⟩, fun e he => ?_⟩
  · refine ln_roll (a := a) (h2 l hl) ha (fun g hg hne => en g 1 l hne (by omega)) ?_ (fun g hg => ?_) (fun g hg => ?_) (fun g hg hne => ?_) ?_ (fun g hg hne => ?_) ?_ (fun g hg hne => ?_) ?_ (e4 2 l (by omega)) (eV l hl)
    · show S' m a 1 l = _; rw [ea, r1 l hl]
    · by_cases hga : g = a
      · subst hga; show S' m g 2 l = _; rw [ea, r0 2 l (by omega) (by omega)]
      · exact en g 2 l hga (by omega)
    · by_cases hga : g = a
      · subst hga; show S' m g 6 l = _; rw [ea, r0 6 l (by omega) (by omega)]
      · exact en g 6 l hga (by omega)
    · show hasL (S' m g 0 10) l = _; rw [en g 0 10 hne (by omega)]
    · show hasL (S' m a 0 10) l = _; rw [ea, t10, hasL_0 hl]
    · show hasL (S' m g 0 9) l = _; rw [en g 0 9 hne (by omega)]
    · show hasL (S' m a 0 9) l = _; rw [ea, t9, hasL_0 hl]
    · show hasL (S' m g 0 11) l = _; rw [en g 0 11 hne (by omega)]
    · show hasL (S' m a 0 11) l = _; rw [ea, t11, hasL_0 hl]
  · by_cases hga : g = a
    · subst hga
      unfold seS
      rw [ea, ea, ea, ea, ea, ea, t5, t9, t10, t11]
      exact ⟨ok8_0, ok8_0, ok8_0, fun _ => ⟨rfl, rfl, rfl⟩, fun z => absurd rfl z⟩
    · exact seS_cg (h3 g hg) (fun k _ => en g 0 k hga (by omega))
  · refine nb_cg h4 (fun g hg => ?_) (fun e _ => eT e) rfl rfl
    by_cases hga : g = a
    · subst hga; unfold own; rw [ea, ea, t5, t6, if_pos rfl, if_neg ht]
    · unfold own; rw [en g 0 5 hga (by omega), en g 0 6 hga (by omega)]
  · rw [sI_up (f := fun g => S m g 0 14) (a := a) (d := 1) ha (fun g hg hne => en g 0 14 hne (by omega)) (by show S' m a 0 14 = _; rw [ea, t14]), ← h5, ← hS]
    rcases hu with rfl | rfl
    · rw [inc, sF_eq ⟨rfl, rfl, rfl, rfl⟩, sF_ne (by omega), rn 4 3 5 (by omega), rn 4 3 6 (by omega), Int32.add_assoc, Int32.add_comm 1, ← Int32.add_assoc]
    · rw [inc, sF_eq ⟨rfl, rfl, rfl, rfl⟩, sF_ne (by omega), rn 4 3 5 (by omega), rn 4 3 6 (by omega), ← Int32.add_assoc]
  · rw [cT_cg (fun e _ => eT e), ← h6]
    refine sI_cg (fun g hg => ?_)
    by_cases hga : g = a
    · subst hga; show S' m g 0 13 = _; rw [ea, t13]
    · exact en g 0 13 hga (by omega)
  · rw [sN_cg (f := pt S m) (f' := pt S' m) (fun g hg => ?_)]
    · exact h7.1
    · by_cases hga : g = a
      · subst hga; unfold pt bas; rw [ea, ea, ea, ea, t5, t3, if_pos rfl, if_neg ht, r0 3 2 (by omega) (by omega)]
      · unfold pt bas; rw [en g 0 5 hga (by omega), en g 0 3 hga (by omega), en g 0 7 hga (by omega), en g 3 2 hga (by omega)]
  · by_cases hga : g = a
    · subst hga; rw [ea, r0 3 2 (by omega) (by omega)]; exact h7.2 g hg
    · rw [en g 3 2 hga (by omega)]; exact h7.2 g hg
  · exact enOK_cg (h8 e he) (e4 6 e (by omega)) (e4 7 e (by omega)) (fun d _ => e4 8 d (by omega)) (fun l _ => e4 9 _ (by omega)) (fun d l _ _ => e4 10 _ (by omega))
theorem hurt_iff {S : St} {m g j : Nat} {w : Bool} (h : seS S m g) (hj : j < 8) : (pHurt S m g (nI j) w = (hasL (S m g 0 10) j || (w && hasL (S m g 0 9) j))) ∧ (pHurt S m g (nI j) w = true → S m g 0 5 ≠ -1) := by
  have e : pHurt S m g (nI j) w = (hasL (S m g 0 10) j || (w && hasL (S m g 0 9) j)) := by
    cases w
    · show hasL (S m g 0 10) j = _; simp
    · show hasL (S m g 0 9 ||| S m g 0 10) j = _
      rw [hasL_or h.1 h.2.1 hj]; simp [Bool.or_comm]
  refine ⟨e, fun q z => ?_⟩
  obtain ⟨z1, z2, -⟩ := h.2.2.2.1 z
  rw [e, z1, z2, hasL_0 hj] at q
  simp at q
/-- the conflicts of an access: who has won has nobody in its way -/
theorem MX_wc {S : St} {m n P g j : Nat} {w : Bool} (h : MX S m n P) (hg : g < n) (hj : j < 8) : MX (pWc S m g j w).2 m n P ∧ ((pWc S m g j w).1 = true → ∀ b, b < n → b ≠ g → hasL ((pWc S m g j w).2 m b 0 10) j = false ∧ (w = true → hasL ((pWc S m g j w).2 m b 0 9) j = false)) := by
  unfold pWc
  rw [h.cc]
  have key : ∀ (c k : Nat) (U : St), k + c = n → MX U m n P → (∀ b, b < k → b ≠ g → pHurt U m b (nI j) w = false) → MX (lpE (pWcF m g j w) c k U).2 m n P ∧ ((lpE (pWcF m g j w) c k U).1 = true → ∀ b, b < n → b ≠ g → pHurt (lpE (pWcF m g j w) c k U).2 m b (nI j) w = false) := by
    intro c
    induction c with
    | zero => intro k U hk hU hb; exact ⟨hU, fun _ b hbn hbg => hb b (by omega) hbg⟩
    | succ c ih =>
      intro k U hk hU hb
      have hkn : k < n := by omega
      have hn := hU.n4
      rw [lpE]
      by_cases hkg : k = g
      · have e : pWcF m g j w k U = (true, U) := by unfold pWcF; rw [if_pos hkg]
        rw [e, if_pos rfl]
        exact ih (k + 1) U (by omega) hU (fun b hbk hbg => hb b (by omega) hbg)
      · by_cases hh : pHurt U m k (nI j) w = true
        · by_cases hw : pWins U m g k = true
          · have e : pWcF m g j w k U = (true, inc (pRoll U m k) m 5) := by unfold pWcF; rw [if_neg hkg, if_pos hh, if_pos hw]
            rw [e, if_pos rfl]
            refine ih (k + 1) _ (by omega) (MX_roll hU hkn ((hurt_iff (hU.2.2.1 k hkn) hj).2 hh) (Or.inl rfl)) (fun b hbk hbg => ?_)
            by_cases hbk2 : b = k
            · subst hbk2; exact hurt_roll (by omega) hj
            · show pHurt (inc (pRoll U m k) m 5) m b (nI j) w = false
              rw [hurt_ne hbk2 (by omega)]; exact hb b (by omega) hbg
          · have e : pWcF m g j w k U = (false, inc (pRoll U m g) m 5) := by unfold pWcF; rw [if_neg hkg, if_pos hh, if_neg hw]
            rw [e, if_neg Bool.false_ne_true]
            refine ⟨MX_roll hU hg (fun z => hw ?_) (Or.inl rfl), fun z => absurd z Bool.false_ne_true⟩
            unfold pWins pInT; rw [z]; simp
        · have e : pWcF m g j w k U = (true, U) := by unfold pWcF; rw [if_neg hkg, if_neg hh]
          rw [e, if_pos rfl]
          refine ih (k + 1) U (by omega) hU (fun b hbk hbg => ?_)
          by_cases hbk2 : b = k
          · subst hbk2; simpa using hh
          · exact hb b (by omega) hbg
  obtain ⟨k1, k2⟩ := key n 0 S (by omega) h (fun b hb => absurd hb (by omega))
  refine ⟨k1, fun ht b hb hbg => ?_⟩
  have := k2 ht b hb hbg
  rw [(hurt_iff (k1.2.2.1 b hb) hj).1] at this
  simp only [Bool.or_eq_false_iff] at this
  refine ⟨this.1, fun hw => ?_⟩
  subst hw
  simpa using this.2
/-- the write-backs elsewhere -/
theorem MX_wbe {S : St} {m n P g j : Nat} (h : MX S m n P) (hj : j < 8) (hno : ∀ b, b < n → b ≠ g → hasL (S m b 0 10) j = false) : MX (pWbe S m g j) m n P ∧ (∀ b, b < n → b ≠ g → pWbe S m g j m b 1 j ≠ 2) ∧ (∀ b i q, b < 4 → b = g ∨ i ≠ 1 → pWbe S m g j m b i q = S m b i q) ∧ (∀ b i q, b < 4 → pWbe S m g j m b i q ≠ S m b i q → i = 1) := by
  unfold pWbe
  rw [h.cc]
  have hn := h.n4
  have key := lp_at (pWbeF m g j) (fun k U => MX U m n P ∧ (∀ b, b < k → b ≠ g → U m b 1 j ≠ 2) ∧ (∀ b i q, b < 4 → b = g ∨ i ≠ 1 → U m b i q = S m b i q)) n (fun k U hk ⟨p1, p2, p3⟩ => by
    unfold pWbeF
    by_cases hkg : k = g
    · rw [if_pos hkg]
      exact ⟨p1, fun b hb hbg => p2 b (by omega) hbg, p3⟩
    · rw [if_neg hkg]
      by_cases h2 : U m k 1 j = 2
      · rw [if_pos h2]
        have hw : hasL (U m k 0 10) j = false := by rw [p3 k 0 10 (by omega) (Or.inr (by omega))]; exact hno k hk hkg
        refine ⟨MX_wb p1 hk hj h2 hw, fun b hb hbg => ?_, fun b i q hb hbi => ?_⟩
        · by_cases hbk : b = k
          · subst hbk; simp (disch := omega) only [pWB, inc, sF_eq, sF_ne]; decide
          · simp (disch := omega) only [pWB, inc, sF_eq, sF_ne]; exact p2 b (by omega) hbg
        · rcases hbi with rfl | hi
          · simp (disch := omega) only [pWB, inc, sF_eq, sF_ne]; exact p3 b i q hb (Or.inl rfl)
          · simp (disch := omega) only [pWB, inc, sF_eq, sF_ne]; exact p3 b i q hb (Or.inr hi)
      · rw [if_neg h2]
        refine ⟨p1, fun b hb hbg => ?_, p3⟩
        by_cases hbk : b = k
        · subst hbk; exact h2
        · exact p2 b (by omega) hbg) n 0 S (by omega) ⟨h, fun b hb => absurd hb (by omega), fun _ _ _ _ _ => rfl⟩
  rw [Nat.zero_add] at key
  refine ⟨key.1, key.2.1, key.2.2, fun b i q hb hne => ?_⟩
  by_cases hi : i = 1
  · exact hi
  · exact absurd (key.2.2 b i q hb (Or.inr hi)) hne

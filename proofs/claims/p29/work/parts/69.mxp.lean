/-! a write from outside -/
/-- all but the line j -/
def MXj (S : St) (m n P j : Nat) : Prop :=
  ((pCC S m = n ∧ n ≤ 4) ∧ okI (S m 4 4 7) 400) ∧ (∀ l, l < 8 → l ≠ j → lnS S m n (lgV S m (pQ S m)) l) ∧ (∀ g, g < n → seS S m g) ∧
  nbOK n (own S m) (S m 4 0 8).toInt (pQ S m) (tn S m) ∧
  S m 4 3 5 + S m 4 3 6 = sI (fun g => S m g 0 14) n ∧ sI (fun g => S m g 0 13) n = nI (cT (tn S m) (pQ S m)) ∧
  (pQ S m + sN (pt S m) n ≤ P ∧ ∀ g, g < n → (S m g 3 2).toNatClampNeg ≤ 9) ∧ ∀ e, e < pQ S m → enOK S m e
theorem MXj.of {S : St} {m n P j : Nat} (h : MX S m n P) : MXj S m n P j := ⟨h.1, fun l hl _ => h.2.1 l hl, h.2.2⟩
theorem MXj_roll {S : St} {m n P a u j : Nat} (h : MXj S m n P j) (ha : a < n) (ht : S m a 0 5 ≠ -1) (hu : u = 5 ∨ u = 6) : MXj (inc (pRoll S m a) m u) m n P j := by
  have hn := h.1.1.2
  obtain ⟨⟨h1, h1q⟩, h2, h3, h4, h5, h6, h7, h8⟩ := h
  obtain ⟨r1, ⟨t5, t6, t9, t10, t11, t3, t14, t7, t13⟩, r0, rn⟩ := roll_at S m a
  have en : ∀ b i k, b ≠ a → b ≠ 4 → inc (pRoll S m a) m u m b i k = S m b i k := fun b i k hb h4 => by rw [inc_ne (by omega), rn b i k hb]
  have ea : ∀ i k, inc (pRoll S m a) m u m a i k = pRoll S m a m a i k := fun i k => inc_ne (by omega)
  have e4 : ∀ i k, i ≠ 3 → inc (pRoll S m a) m u m 4 i k = S m 4 i k := fun i k hi => by rw [inc_ne (by omega), rn 4 i k (by omega)]
  generalize hS : inc (pRoll S m a) m u = S' at *
  have eQ : pQ S' m = pQ S m := by show (S' m 4 4 7).toNatClampNeg = (S m 4 4 7).toNatClampNeg; rw [e4 4 7 (by omega)]
  have eV : ∀ l, l < 8 → lgV S' m (pQ S m) l = lgV S m (pQ S m) l := lgV_cg _ (fun e _ => e4 8 e (by omega)) (fun e l _ _ => e4 10 _ (by omega))
  have eT : ∀ e, tn S' m e = tn S m e := fun e => by unfold tn; rw [e4 6 e (by omega)]
  unfold MXj
  rw [eQ, e4 0 8 (by omega), e4 4 7 (by omega)]
  refine ⟨⟨⟨by rw [← h1.1]; show (S' m 4 0 4).toNatClampNeg = _; rw [e4 0 4 (by omega)], h1.2⟩, h1q⟩, fun l hl hlj => ?_, fun g hg => ?_, ?_, ?_, ?_, ⟨?_, fun g hg => ?_⟩, fun e he => ?_⟩
  · refine ln_roll (a := a) (h2 l hl hlj) ha (fun g hg hne => en g 1 l hne (by omega)) ?_ (fun g hg => ?_) (fun g hg => ?_) (fun g hg hne => ?_) ?_ (fun g hg hne => ?_) ?_ (fun g hg hne => ?_) ?_ (e4 2 l (by omega)) (eV l hl)
    · show S' m a 1 l = _; rw [ea, r1 l hl]
    · by_cases hga : g = a
      · subst hga; show S' m g 2 l = _; rw [ea, r0 2 l (by omega) (by omega)]
      · exact en g 2 l hga (by omega)
    · by_cases hga : g = a
      · subst hga; show S' m g 6 l = _; rw [ea, r0 6 l (by omega) (by omega)]
      · exact en g 6 l hga (by omega)
    · show hasL (S' m g 0 10) l = _; rw [en g 0 10 hne (by omega)]
    · show hasL (S' m a 0 10) l = _; rw [ea, t10, hasL_0 hl]
    · show hasL (S' m g 0 9) l = _; rw [en g 0 9 hne (by omega)]
    · show hasL (S' m a 0 9) l = _; rw [ea, t9, hasL_0 hl]
    · show hasL (S' m g 0 11) l = _; rw [en g 0 11 hne (by omega)]
    · show hasL (S' m a 0 11) l = _; rw [ea, t11, hasL_0 hl]
  · by_cases hga : g = a
    · subst hga
      unfold seS
      rw [ea, ea, ea, ea, ea, ea, t5, t9, t10, t11]
      exact ⟨ok8_0, ok8_0, ok8_0, fun _ => ⟨rfl, rfl, rfl⟩, fun z => absurd rfl z⟩
    · exact seS_cg (h3 g hg) (fun k _ => en g 0 k hga (by omega))
  · refine nb_cg h4 (fun g hg => ?_) (fun e _ => eT e) rfl rfl
    by_cases hga : g = a
    · subst hga; unfold own; rw [ea, ea, t5, t6, if_pos rfl, if_neg ht]
    · unfold own; rw [en g 0 5 hga (by omega), en g 0 6 hga (by omega)]
  · rw [sI_up (f := fun g => S m g 0 14) (a := a) (d := 1) ha (fun g hg hne => en g 0 14 hne (by omega)) (by show S' m a 0 14 = _; rw [ea, t14]), ← h5, ← hS]
    rcases hu with rfl | rfl
    · rw [inc, sF_eq ⟨rfl, rfl, rfl, rfl⟩, sF_ne (by omega), rn 4 3 5 (by omega), rn 4 3 6 (by omega), Int32.add_assoc, Int32.add_comm 1, ← Int32.add_assoc]
    · rw [inc, sF_eq ⟨rfl, rfl, rfl, rfl⟩, sF_ne (by omega), rn 4 3 5 (by omega), rn 4 3 6 (by omega), ← Int32.add_assoc]
  · rw [cT_cg (fun e _ => eT e), ← h6]
    refine sI_cg (fun g hg => ?_)
    by_cases hga : g = a
    · subst hga; show S' m g 0 13 = _; rw [ea, t13]
    · exact en g 0 13 hga (by omega)
  · rw [sN_cg (f := pt S m) (f' := pt S' m) (fun g hg => ?_)]
    · exact h7.1
    · by_cases hga : g = a
      · subst hga; unfold pt bas; rw [ea, ea, ea, ea, t5, t3, if_pos rfl, if_neg ht, r0 3 2 (by omega) (by omega)]
      · unfold pt bas; rw [en g 0 5 hga (by omega), en g 0 3 hga (by omega), en g 0 7 hga (by omega), en g 3 2 hga (by omega)]
  · by_cases hga : g = a
    · subst hga; rw [ea, r0 3 2 (by omega) (by omega)]; exact h7.2 g hg
    · rw [en g 3 2 hga (by omega)]; exact h7.2 g hg
  · exact enOK_cg (h8 e he) (e4 6 e (by omega)) (e4 7 e (by omega)) (fun d _ => e4 8 d (by omega)) (fun l _ => e4 9 _ (by omega)) (fun d l _ _ => e4 10 _ (by omega))
theorem MXj_add {S S' : St} {m n P j : Nat} (h : MXj S m n P j) (c4 : S' m 4 0 4 = S m 4 0 4) (hq : pQ S m < 400) (eq : S' m 4 4 7 = nI (pQ S m + 1)) (c5 : ∀ k, k = 5 ∨ k = 6 → S' m 4 3 k = S m 4 3 k) (r14 : ∀ g, g < n → S' m g 0 14 = S m g 0 14) (r3 : ∀ g, g < n → S' m g 3 2 = S m g 3 2) (old : ∀ i e, 5 ≤ i → i ≤ 8 → e < pQ S m → S' m 4 i e = S m 4 i e) (old2 : ∀ i k, i = 9 ∨ i = 10 → k < pQ S m * 8 → S' m 4 i k = S m 4 i k) (en : enOK S' m (pQ S m)) (se : ∀ g, g < n → seS S' m g) (nb : nbOK n (own S' m) (S' m 4 0 8).toInt (pQ S m + 1) (tn S' m)) (cm : sI (fun g => S' m g 0 13) n = sI (fun g => S m g 0 13) n + (if tn S' m (pQ S m) = -1 then 0 else 1)) (pts : ∀ g, g < n → pt S' m g ≤ pt S m g) (ln : ∀ l, l < 8 → lnS S' m n (fun l => if hasL (S' m 4 8 (pQ S m)) l = true then S' m 4 10 (pQ S m * 8 + l) else lgV S m (pQ S m) l) l) : MX S' m n (P + 1) := by
  obtain ⟨⟨h1, h1q⟩, h2, h3, h4, h5, h6, h7, h8⟩ := h
  have eQ : pQ S' m = pQ S m + 1 := by show (S' m 4 4 7).toNatClampNeg = _; rw [eq]; exact nI_clamp (by omega)
  have eV : ∀ e, e ≤ pQ S m → ∀ l, l < 8 → lgV S' m e l = lgV S m e l := fun e he => lgV_cg e (fun d hd => old 8 d (by omega) (by omega) (by omega)) (fun d l hd hl => old2 10 _ (by omega) (by omega))
  unfold MX
  rw [eQ, c5 5 (by omega), c5 6 (by omega)]
  refine ⟨⟨⟨by rw [← h1.1]; show (S' m 4 0 4).toNatClampNeg = _; rw [c4], h1.2⟩, by rw [eq]; exact okI_nI (by omega) (by omega)⟩, fun l hl => ?_, se, nb, ?_, ?_, ⟨?_, fun g hg => by rw [r3 g hg]; exact h7.2 g hg⟩, fun e he => ?_⟩
  · have := ln l hl
    unfold lnS at *
    rw [lgV, eV _ (Nat.le_refl _) l hl]; exact this
  · rw [h5]; exact (sI_cg (fun g hg => r14 g hg)).symm
  · rw [cm, h6, cT, cT_cg (t := tn S m) (t' := tn S' m) (fun e he => by unfold tn; rw [old 6 e (by omega) (by omega) he])]
    split
    · rw [Nat.add_zero, Int32.add_zero]
    · exact nI_1' _
  · have := sN_mo pts
    omega
  · by_cases he2 : e = pQ S m
    · subst he2; exact en
    · exact enOK_cg (h8 e (by omega)) (old 6 e (by omega) (by omega) (by omega)) (old 7 e (by omega) (by omega) (by omega)) (fun d hd => old 8 d (by omega) (by omega) (by omega)) (fun l hl => old2 9 _ (by omega) (by omega)) (fun d l hd hl => old2 10 _ (by omega) (by omega))
theorem MXj_st {S : St} {m n P a j : Nat} (h : MXj S m n P j) (ha : a < n) : MXj (setF S m a 1 j 0) m n P j := by
  have hn := h.1.1.2
  obtain ⟨⟨h1, h1q⟩, h2, h3, h4, h5, h6, h7, h8⟩ := h
  have eQ : pQ (setF S m a 1 j 0) m = pQ S m := by show (setF S m a 1 j 0 m 4 4 7).toNatClampNeg = _; simp (disch := omega) only [sF_eq, sF_ne]
  have eV : ∀ l, l < 8 → lgV (setF S m a 1 j 0) m (pQ S m) l = lgV S m (pQ S m) l := lgV_cg _ (fun e _ => by simp (disch := omega) only [sF_eq, sF_ne]) (fun e l _ _ => by simp (disch := omega) only [sF_eq, sF_ne])
  have eT : ∀ e, tn (setF S m a 1 j 0) m e = tn S m e := fun e => by unfold tn; simp (disch := omega) only [sF_eq, sF_ne]
  unfold MXj
  rw [eQ]
  refine ⟨⟨⟨by rw [← h1.1]; show (setF S m a 1 j 0 m 4 0 4).toNatClampNeg = _; simp (disch := omega) only [sF_eq, sF_ne], h1.2⟩, by simp (disch := omega) only [sF_eq, sF_ne]; exact h1q⟩, fun l hl hlj => ?_, fun g hg => seS_cg (h3 g hg) (fun k _ => by simp (disch := omega) only [sF_eq, sF_ne]), ?_, ?_, ?_, ⟨?_, fun g hg => ?_⟩, fun e he => ?_⟩
  · exact lnS_cg (h2 l hl hlj) (fun g i hg hi => by rcases hi with rfl | rfl | rfl <;> simp (disch := omega) only [sF_eq, sF_ne]) (fun g i hg hi => by simp (disch := omega) only [sF_eq, sF_ne]) (by simp (disch := omega) only [sF_eq, sF_ne]) (eV l hl)
  · rw [show setF S m a 1 j 0 m 4 0 8 = S m 4 0 8 by simp (disch := omega) only [sF_eq, sF_ne]]
    exact nb_cg h4 (fun g hg => by unfold own; simp (disch := omega) only [sF_eq, sF_ne]) (fun e _ => eT e) rfl rfl
  · rw [sI_cg (f := fun g => S m g 0 14) (fun g hg => by simp (disch := omega) only [sF_eq, sF_ne])]; simp (disch := omega) only [sF_eq, sF_ne]; exact h5
  · rw [sI_cg (f := fun g => S m g 0 13) (fun g hg => by simp (disch := omega) only [sF_eq, sF_ne]), cT_cg (t := tn S m) (fun e _ => eT e)]; exact h6
  · rw [sN_cg (f := pt S m) (f' := pt (setF S m a 1 j 0) m) (fun g hg => by unfold pt bas; simp (disch := omega) only [sF_eq, sF_ne])]; exact h7.1
  · simp (disch := omega) only [sF_eq, sF_ne]; exact h7.2 g hg
  · exact enOK_cg (h8 e he) (by simp (disch := omega) only [sF_eq, sF_ne]) (by simp (disch := omega) only [sF_eq, sF_ne]) (fun d _ => by simp (disch := omega) only [sF_eq, sF_ne]) (fun l _ => by simp (disch := omega) only [sF_eq, sF_ne]) (fun d l _ _ => by simp (disch := omega) only [sF_eq, sF_ne])
/-- one core after the other loses the line -/
theorem MX_outL {S : St} {m n P j : Nat} (h : MX S m n P) (hj : j < 8) : MXj (lp (pOutF m j) n 0 S) m n P j ∧ (∀ b, b < n → lp (pOutF m j) n 0 S m b 1 j = 0 ∧ hasL (lp (pOutF m j) n 0 S m b 0 9) j = false ∧ hasL (lp (pOutF m j) n 0 S m b 0 10) j = false ∧ hasL (lp (pOutF m j) n 0 S m b 0 11) j = false) := by
  have hn := h.n4
  have key := lp_at (pOutF m j) (fun k U => MXj U m n P j ∧ (∀ b, b < k → U m b 1 j = 0 ∧ hasL (U m b 0 9) j = false ∧ hasL (U m b 0 10) j = false ∧ hasL (U m b 0 11) j = false) ∧ (∀ b, b < n → hasL (U m b 0 11) j = true → hasL (U m b 0 9) j = true)) n (fun k U hk ⟨p1, p2, p3⟩ => by
    have hse := p1.2.2.1 k hk
    obtain ⟨i1, i2⟩ := hurt_iff (w := true) hse hj
    unfold pOutF
    by_cases hh : pHurt U m k (nI j) true = true
    · rw [if_pos hh]
      have hM := MXj_roll p1 hk (i2 hh) (u := 5) (Or.inl rfl)
      obtain ⟨r1, ⟨t5, t6, t9, t10, t11, t3, t14, t7, t13⟩, r0, rn⟩ := roll_at U m k
      have ek : ∀ q, inc (pRoll U m k) m 5 m k 0 q = pRoll U m k m k 0 q := fun q => inc_ne (by omega)
      have en : ∀ b i q, b ≠ k → b ≠ 4 → inc (pRoll U m k) m 5 m b i q = U m b i q := fun b i q hb h4 => by rw [inc_ne (by omega), rn b i q hb]
      refine ⟨MXj_st hM hk, fun b hb => ?_, fun b hb => ?_⟩
      · by_cases hbk : b = k
        · subst hbk; simp (disch := omega) only [sF_eq, sF_ne]; rw [ek, ek, ek, t9, t10, t11]; simp [hasL_0 hj]
        · simp (disch := omega) only [sF_eq, sF_ne]; rw [en b 1 j hbk (by omega), en b 0 9 hbk (by omega), en b 0 10 hbk (by omega), en b 0 11 hbk (by omega)]; exact p2 b (by omega)
      · by_cases hbk : b = k
        · subst hbk; simp (disch := omega) only [sF_eq, sF_ne]; rw [ek, ek, t9, t11]; simp
        · simp (disch := omega) only [sF_eq, sF_ne]; rw [en b 0 9 hbk (by omega), en b 0 11 hbk (by omega)]; exact p3 b hb
    · rw [if_neg hh]
      rw [i1] at hh
      simp only [Bool.true_and, Bool.or_eq_true, not_or, Bool.not_eq_true] at hh
      refine ⟨MXj_st p1 hk, fun b hb => ?_, fun b hb => ?_⟩
      · by_cases hbk : b = k
        · subst hbk; simp (disch := omega) only [sF_eq, sF_ne]
          refine ⟨trivial, hh.2, hh.1, ?_⟩
          cases hf : hasL (U m b 0 11) j
          · rfl
          · have := p3 b hk hf; rw [hh.2] at this; cases this
        · simp (disch := omega) only [sF_eq, sF_ne]; exact p2 b (by omega)
      · simp (disch := omega) only [sF_eq, sF_ne]; exact p3 b hb) n 0 S (by omega) ⟨MXj.of h, fun b hb => absurd hb (by omega), fun b hb hf => ((h.2.1 j hj).2.2.2.2.2.1 b hb hf).1⟩
  rw [Nat.zero_add] at key
  exact ⟨key.1, key.2.1⟩
theorem MX_out {S : St} {m n P j : Nat} {v : Int32} (h : MX S m n P) (hj : j < 8) (hm : m ≠ 1) (hP : P < 400) : MX (pOutS S m j v) m n (P + 1) := by
  have hn := h.n4
  obtain ⟨h1, h2⟩ := MX_outL h hj
  unfold pOutS pAddW
  rw [h.cc]
  generalize lp (pOutF m j) n 0 S = U at *
  have hq : pQ U m < 400 := by have := h1.2.2.2.2.2.2.1.1; omega
  have q0 : pQ (setF U m 4 2 j v) m = pQ U m := by show (setF U m 4 2 j v m 4 4 7).toNatClampNeg = _; simp (disch := omega) only [sF_eq, sF_ne]
  obtain ⟨⟨a1, a2, a3, a4⟩, a5, a6, a7, a8⟩ := addE_at (S := setF U m 4 2 j v) (m := m) (x := -1) (t := -1) (a := 0) (b := 1 <<< (nI j &&& 31)) (m1 := m) (g1 := 4) (i1 := 2) (m2 := m) (g2 := 4) (i2 := 2) hm (by rw [q0]; exact hq) (by omega) (by omega)
  rw [q0] at a1 a2 a3 a4 a5 a6 a7
  have b6 : ∀ i e, 5 ≤ i → i ≤ 8 → e < pQ U m → pAddE (setF U m 4 2 j v) m (-1) (-1) 0 m 4 2 (1 <<< (nI j &&& 31)) m 4 2 m 4 i e = U m 4 i e := fun i e h1 h2 h3 => by rw [a6 i e h1 h2 h3]; simp (disch := omega) only [sF_eq, sF_ne]
  have b7 : ∀ i k, i = 9 ∨ i = 10 → k < pQ U m * 8 → pAddE (setF U m 4 2 j v) m (-1) (-1) 0 m 4 2 (1 <<< (nI j &&& 31)) m 4 2 m 4 i k = U m 4 i k := fun i k h1 h2 => by rw [a7 i k h1 h2]; simp (disch := omega) only [sF_eq, sF_ne]
  have b5 : ∀ l, l < 8 → pAddE (setF U m 4 2 j v) m (-1) (-1) 0 m 4 2 (1 <<< (nI j &&& 31)) m 4 2 m 4 10 (pQ U m * 8 + l) = if l = j then v else 0 := fun l hl => by
    rw [(a5 l hl).2, hasL_1 hj hl]
    by_cases hlj : l = j
    · subst hlj; simp; simp (disch := omega) only [sF_eq, sF_ne]
    · simp [hlj]
  have b5' : ∀ l, l < 8 → pAddE (setF U m 4 2 j v) m (-1) (-1) 0 m 4 2 (1 <<< (nI j &&& 31)) m 4 2 m 4 9 (pQ U m * 8 + l) = 0 := fun l hl => by
    rw [(a5 l hl).1, hasL_0 hl]; rfl
  have b8 : ∀ c i k, c < 4 → pAddE (setF U m 4 2 j v) m (-1) (-1) 0 m 4 2 (1 <<< (nI j &&& 31)) m 4 2 m c i k = U m c i k := fun c i k hc => by rw [a8 _ _ _ _ (by omega)]; simp (disch := omega) only [sF_eq, sF_ne]
  have b10 : ∀ i k, i < 4 → i ≠ 2 → pAddE (setF U m 4 2 j v) m (-1) (-1) 0 m 4 2 (1 <<< (nI j &&& 31)) m 4 2 m 4 i k = U m 4 i k := fun i k h1 h2 => by rw [a8 _ _ _ _ (by omega)]; simp (disch := omega) only [sF_eq, sF_ne]
  have b11 : ∀ l, l ≠ j → pAddE (setF U m 4 2 j v) m (-1) (-1) 0 m 4 2 (1 <<< (nI j &&& 31)) m 4 2 m 4 2 l = U m 4 2 l := fun l h1 => by rw [a8 _ _ _ _ (by omega)]; simp (disch := omega) only [sF_eq, sF_ne]
  have b12 : pAddE (setF U m 4 2 j v) m (-1) (-1) 0 m 4 2 (1 <<< (nI j &&& 31)) m 4 2 m 4 2 j = v := by rw [a8 _ _ _ _ (by omega)]; simp (disch := omega) only [sF_eq, sF_ne]
  clear a5 a6 a7 a8
  generalize pAddE (setF U m 4 2 j v) m (-1) (-1) 0 m 4 2 (1 <<< (nI j &&& 31)) m 4 2 = W at *
  refine MXj_add h1 (b10 0 4 (by omega) (by omega)) hq a1 (fun k _ => b10 3 k (by omega) (by omega)) (fun g hg => b8 g 0 14 (by omega)) (fun g hg => b8 g 3 2 (by omega)) b6 b7 ?_ (fun g hg => seS_cg (h1.2.2.1 g hg) (fun i _ => b8 g 0 i (by omega))) ?_ ?_ (fun g hg => ?_) (fun l hl => ?_)
  · unfold enOK
    rw [a2, a3, a4]
    refine ⟨ok8_0, ok8_1 hj, fun l hl => ⟨?_, fun hw => ?_⟩, fun _ => ⟨rfl, j, hj, rfl⟩⟩
    · rw [b5' l hl, hasL_0 hl]; rfl
    · rw [hasL_1 hj hl] at hw
      rw [b5 l hl, if_neg (by simpa using hw)]
  · refine nb_out h1.2.2.2.1 (fun g hg => ?_) (fun e he => ?_) ?_ ?_ rfl
    · unfold own; rw [b8 g 0 5 (by omega), b8 g 0 6 (by omega)]
    · unfold tn; rw [b6 6 e (by omega) (by omega) he]
    · unfold tn; rw [a2]; rfl
    · rw [b10 0 8 (by omega) (by omega)]
  · rw [sI_cg (f := fun g => U m g 0 13) (f' := fun g => W m g 0 13) (fun g hg => b8 g 0 13 (by omega))]
    unfold tn
    rw [a2, if_pos (by rfl), Int32.add_zero]
  · unfold pt bas
    rw [b8 g 3 2 (by omega), b8 g 0 5 (by omega), b8 g 0 3 (by omega), b8 g 0 7 (by omega)]; exact Nat.le_refl _
  · by_cases hlj : l = j
    · subst hlj
      refine ln_poke (fun g hg => by show W m g 1 l = 0; rw [b8 g 1 l (by omega)]; exact (h2 g hg).1) (fun g hg => by show hasL (W m g 0 10) l = false; rw [b8 g 0 10 (by omega)]; exact (h2 g hg).2.2.1) (fun g hg => by show hasL (W m g 0 9) l = false; rw [b8 g 0 9 (by omega)]; exact (h2 g hg).2.1) (fun g hg => by show hasL (W m g 0 11) l = false; rw [b8 g 0 11 (by omega)]; exact (h2 g hg).2.2.2) ?_
      show W m 4 2 l = if hasL (W m 4 8 (pQ U m)) l = true then W m 4 10 (pQ U m * 8 + l) else lgV U m (pQ U m) l
      rw [b12, a4, hasL_1 hj hl, b5 l hl]; simp
    · refine lnS_cg (h1.2.1 l hl hlj) (fun g i hg hi => b8 g i l (by omega)) (fun g i hg _ => b8 g 0 i (by omega)) (b11 l hlj) ?_
      show (if hasL (W m 4 8 (pQ U m)) l = true then W m 4 10 (pQ U m * 8 + l) else lgV U m (pQ U m) l) = _
      rw [a4, hasL_1 hj hl]; simp [hlj]

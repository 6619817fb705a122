/-! an entry of the log comes -/
theorem sN_mo {f f' : Nat → Nat} : ∀ {n : Nat}, (∀ g, g < n → f' g ≤ f g) → sN f' n ≤ sN f n
  | 0, _ => Nat.le_refl _
  | n + 1, h => by
    have h1 := sN_mo (f := f) (f' := f') (n := n) (fun g hg => h g (by omega))
    have h2 := h n (by omega)
    rw [sN, sN]; omega
theorem nI_1' (k : Nat) : nI k + 1 = nI (k + 1) := nI_1 k
theorem MX_add {S S' : St} {m n P : Nat} (h : MX S m n P) (c4 : S' m 4 0 4 = S m 4 0 4) (hq : pQ S m < 400) (eq : S' m 4 4 7 = nI (pQ S m + 1)) (c5 : ∀ k, k = 5 ∨ k = 6 → S' m 4 3 k = S m 4 3 k) (r14 : ∀ g, g < n → S' m g 0 14 = S m g 0 14) (r3 : ∀ g, g < n → S' m g 3 2 = S m g 3 2) (old : ∀ i e, 5 ≤ i → i ≤ 8 → e < pQ S m → S' m 4 i e = S m 4 i e) (old2 : ∀ i k, i = 9 ∨ i = 10 → k < pQ S m * 8 → S' m 4 i k = S m 4 i k) (en : enOK S' m (pQ S m)) (se : ∀ g, g < n → seS S' m g) (nb : nbOK n (own S' m) (S' m 4 0 8).toInt (pQ S m + 1) (tn S' m)) (cm : sI (fun g => S' m g 0 13) n = sI (fun g => S m g 0 13) n + (if tn S' m (pQ S m) = -1 then 0 else 1)) (pts : ∀ g, g < n → pt S' m g ≤ pt S m g) (ln : ∀ l, l < 8 → lnS S' m n (fun l => if hasL (S' m 4 8 (pQ S m)) l = true then S' m 4 10 (pQ S m * 8 + l) else lgV S m (pQ S m) l) l) : MX S' m n (P + 1) := by
  obtain ⟨⟨h1, h1q⟩, h2, h3, h4, h5, h6, h7, h8⟩ := h
  have eQ : pQ S' m = pQ S m + 1 := by show (S' m 4 4 7).toNatClampNeg = _; rw [eq]; exact nI_clamp (by omega)
  have eV : ∀ e, e ≤ pQ S m → ∀ l, l < 8 → lgV S' m e l = lgV S m e l := fun e he => lgV_cg e (fun d hd => old 8 d (by omega) (by omega) (by omega)) (fun d l hd hl => old2 10 _ (by omega) (by omega))
  unfold MX
  rw [eQ, c5 5 (by omega), c5 6 (by omega)]
  refine ⟨⟨⟨by rw [← h1.1]; show (S' m 4 0 4).toNatClampNeg = _; rw [c4], h1.2⟩, by rw [eq]; exact okI_nI (by omega) (by omega)⟩, fun l hl => ?_, se, nb, ?_, ?_, ⟨?_, fun g hg => by rw [r3 g hg]; exact h7.2 g hg⟩, fun e he => ?_⟩
  · have := ln l hl
    unfold lnS at *
    rw [lgV, eV _ (Nat.le_refl _) l hl]; exact this
  · rw [h5]; exact (sI_cg (fun g hg => r14 g hg)).symm
  · rw [cm, h6, cT, cT_cg (t := tn S m) (t' := tn S' m) (fun e he => by unfold tn; rw [old 6 e (by omega) (by omega) he])]
    split
    · rw [Nat.add_zero, Int32.add_zero]
    · exact nI_1' _
  · have := sN_mo pts
    omega
  · by_cases he2 : e = pQ S m
    · subst he2; exact en
    · exact enOK_cg (h8 e (by omega)) (old 6 e (by omega) (by omega) (by omega)) (old 7 e (by omega) (by omega) (by omega)) (fun d hd => old 8 d (by omega) (by omega) (by omega)) (fun l hl => old2 9 _ (by omega) (by omega)) (fun d l hd hl => old2 10 _ (by omega) (by omega))
/-- what an entry writes -/
theorem addE_at {S : St} {m : Nat} {x t a b : Int32} {m1 g1 i1 m2 g2 i2 : Nat} (hm : m ≠ 1) (hq : pQ S m < 400) (n1 : ¬ (g1 = 4 ∧ 4 ≤ i1)) (n2 : ¬ (g2 = 4 ∧ 4 ≤ i2)) :
    (pAddE S m x t a m1 g1 i1 b m2 g2 i2 m 4 4 7 = nI (pQ S m + 1) ∧ pAddE S m x t a m1 g1 i1 b m2 g2 i2 m 4 6 (pQ S m) = t ∧ pAddE S m x t a m1 g1 i1 b m2 g2 i2 m 4 7 (pQ S m) = a ∧ pAddE S m x t a m1 g1 i1 b m2 g2 i2 m 4 8 (pQ S m) = b) ∧
    (∀ l, l < 8 → pAddE S m x t a m1 g1 i1 b m2 g2 i2 m 4 9 (pQ S m * 8 + l) = (if hasL a l = true then S m1 g1 i1 l else 0) ∧ pAddE S m x t a m1 g1 i1 b m2 g2 i2 m 4 10 (pQ S m * 8 + l) = (if hasL b l = true then S m2 g2 i2 l else 0)) ∧
    (∀ i e, 5 ≤ i → i ≤ 8 → e < pQ S m → pAddE S m x t a m1 g1 i1 b m2 g2 i2 m 4 i e = S m 4 i e) ∧ (∀ i k, i = 9 ∨ i = 10 → k < pQ S m * 8 → pAddE S m x t a m1 g1 i1 b m2 g2 i2 m 4 i k = S m 4 i k) ∧
    ∀ m' c i k, ¬ (c = 4 ∧ 4 ≤ i) → pAddE S m x t a m1 g1 i1 b m2 g2 i2 m' c i k = S m' c i k := by
  have hr : pQ S m < rmI m := by unfold rmI; rw [if_neg hm]; exact hq
  have e : pAddE S m x t a m1 g1 i1 b m2 g2 i2 = setF (lp (pLogF m (pQ S m) a m1 g1 i1 b m2 g2 i2) 8 0 (setF (setF (setF (setF S m 4 5 (pQ S m) x) m 4 6 (pQ S m) t) m 4 7 (pQ S m) a) m 4 8 (pQ S m) b)) m 4 4 7 (nI (pQ S m + 1)) := by unfold pAddE; rw [if_pos hr]
  rw [e]
  obtain ⟨l1, l2, l3⟩ := slogL (m := m) (q := pQ S m) (a := a) (b := b) (m1 := m1) (g1 := g1) (i1 := i1) (m2 := m2) (g2 := g2) (i2 := i2) n1 n2 (setF (setF (setF (setF S m 4 5 (pQ S m) x) m 4 6 (pQ S m) t) m 4 7 (pQ S m) a) m 4 8 (pQ S m) b)
  generalize lp (pLogF m (pQ S m) a m1 g1 i1 b m2 g2 i2) 8 0 (setF (setF (setF (setF S m 4 5 (pQ S m) x) m 4 6 (pQ S m) t) m 4 7 (pQ S m) a) m 4 8 (pQ S m) b) = U at *
  refine ⟨⟨by simp (disch := omega) only [sF_eq, sF_ne], ?_, ?_, ?_⟩, fun l hl => ⟨?_, ?_⟩, fun i e h5 h8 he => ?_, fun i k hi hk => ?_, fun m' c i k hn => ?_⟩
  · simp (disch := omega) only [sF_eq, sF_ne]; rw [l3 _ _ _ _ (by omega)]; simp (disch := omega) only [sF_eq, sF_ne]
  · simp (disch := omega) only [sF_eq, sF_ne]; rw [l3 _ _ _ _ (by omega)]; simp (disch := omega) only [sF_eq, sF_ne]
  · simp (disch := omega) only [sF_eq, sF_ne]; rw [l3 _ _ _ _ (by omega)]; simp (disch := omega) only [sF_eq, sF_ne]
  · simp (disch := omega) only [sF_eq, sF_ne]; rw [l1 l hl]; simp (disch := omega) only [sF_eq, sF_ne]
  · simp (disch := omega) only [sF_eq, sF_ne]; rw [l2 l hl]; simp (disch := omega) only [sF_eq, sF_ne]
  · simp (disch := omega) only [sF_eq, sF_ne]; rw [l3 _ _ _ _ (by omega)]; simp (disch := omega) only [sF_eq, sF_ne]
  · simp (disch := omega) only [sF_eq, sF_ne]; rw [l3 _ _ _ _ (by omega)]; simp (disch := omega) only [sF_eq, sF_ne]
  · simp (disch := omega) only [sF_eq, sF_ne]; rw [l3 _ _ _ _ (by omega)]; simp (disch := omega) only [sF_eq, sF_ne]
/-- a transaction ends -/
theorem MX_commit {S : St} {m n P a : Nat} (h : MX S m n P) (ha : a < n) (hm : m ≠ 1) (hq : pQ S m < 400) (ht : S m a 0 5 ≠ -1) (ht0 : okI (S m a 0 5) (2 ^ 30)) (hk : S m a 0 6 = -1) (hps : (S m a 0 7).toNatClampNeg ≤ (S m a 0 3).toNatClampNeg) : MX (pCommit S m a) m n (P + 1) ∧ pCommit S m a m a 0 5 = -1 := by
  have hn := h.n4
  have e : pCommit S m a = (let S1 := pEndT (pAddT S m (nI a) m a) m a; setF S1 m a 0 13 (S1 m a 0 13 + 1)) := by unfold pCommit; rw [if_pos (inT_iff.mpr ht)]
  rw [e]
  clear e
  unfold pAddT
  obtain ⟨⟨a1, a2, a3, a4⟩, a5, a6, a7, a8⟩ := addE_at (S := S) (m := m) (x := nI a) (t := S m a 0 5) (a := S m a 0 11) (b := S m a 0 10) (m1 := m) (g1 := a) (i1 := 6) (m2 := m) (g2 := a) (i2 := 2) hm hq (by omega) (by omega)
  generalize pAddE S m (nI a) (S m a 0 5) (S m a 0 11) m a 6 (S m a 0 10) m a 2 = U at *
  obtain ⟨s1, s2, s3, s4, s5⟩ := h.2.2.1 a ha
  have t1 : (S m a 0 5).toInt ≠ -1 := fun z => ht (Int32.toInt_inj.mp (by rw [z]; rfl))
  have eV : ∀ l, l < 8 → lgV (setF (pEndT U m a) m a 0 13 (pEndT U m a m a 0 13 + 1)) m (pQ S m) l = lgV S m (pQ S m) l := lgV_cg _ (fun d hd => by simp (disch := omega) only [pEndT, sF_eq, sF_ne]; exact a6 8 d (by omega) (by omega) hd) (fun d l hd hl => by simp (disch := omega) only [pEndT, sF_eq, sF_ne]; exact a7 10 _ (by omega) (by omega))
  dsimp only
  refine ⟨MX_add h (by simp (disch := omega) only [pEndT, sF_eq, sF_ne]; exact a8 _ _ _ _ (by omega)) hq (by simp (disch := omega) only [pEndT, sF_eq, sF_ne]; exact a1) (fun k _ => by simp (disch := omega) only [pEndT, sF_eq, sF_ne]; exact a8 _ _ _ _ (by omega)) (fun g hg => by simp (disch := omega) only [pEndT, sF_eq, sF_ne]; exact a8 _ _ _ _ (by omega)) (fun g hg => by simp (disch := omega) only [pEndT, sF_eq, sF_ne]; exact a8 _ _ _ _ (by omega)) (fun i e h5 h8 he => by simp (disch := omega) only [pEndT, sF_eq, sF_ne]; exact a6 i e h5 h8 he) (fun i k hi hk => by simp (disch := omega) only [pEndT, sF_eq, sF_ne]; exact a7 i k hi hk) ?_ (fun g hg => ?_) ?_ ?_ (fun g hg => ?_) (fun l hl => ?_), by simp (disch := omega) only [pEndT, sF_eq, sF_ne]⟩
  · unfold enOK
    simp (disch := omega) only [pEndT, sF_eq, sF_ne]
    rw [a2, a3, a4]
    refine ⟨s3, s2, fun l hl => ⟨?_, fun hw => ?_⟩, fun z => absurd z ht⟩
    · have := eV l hl
      simp (disch := omega) only [pEndT, sF_eq, sF_ne] at this
      rw [this, (a5 l hl).1]
      by_cases hf : hasL (S m a 0 11) l = true
      · rw [if_pos hf, if_pos hf]
        exact ((h.2.1 l hl).2.2.2.2.2.1 a ha hf).2
      · rw [if_neg hf, if_neg hf]
    · rw [(a5 l hl).2, hw]; rfl
  · by_cases hga : g = a
    · subst hga; unfold seS; simp (disch := omega) only [pEndT, sF_eq, sF_ne]
      exact ⟨ok8_0, ok8_0, ok8_0, by simp, by simp⟩
    · exact seS_cg (h.2.2.1 g hg) (fun i _ => by simp (disch := omega) only [pEndT, sF_eq, sF_ne]; exact a8 _ _ _ _ (by omega))
  · refine nb_done (a := a) h.2.2.2.1 ha (fun g hg hne => ?_) ?_ (fun e he => ?_) ?_ ?_ rfl
    · unfold own; simp (disch := omega) only [pEndT, sF_eq, sF_ne]; rw [a8 _ _ _ _ (by omega), a8 _ _ _ _ (by omega)]
    · unfold own; simp (disch := omega) only [pEndT, sF_eq, sF_ne]; rw [if_pos trivial, a8 _ _ _ _ (by omega), hk]; rfl
    · unfold tn; simp (disch := omega) only [pEndT, sF_eq, sF_ne]; rw [a6 6 e (by omega) (by omega) he]
    · unfold tn own; simp (disch := omega) only [pEndT, sF_eq, sF_ne]; rw [a2, if_neg ht]
    · simp (disch := omega) only [pEndT, sF_eq, sF_ne]; rw [a8 _ _ _ _ (by omega)]
  · refine sI_up (f := fun g => S m g 0 13) (a := a) ha (fun g hg hne => by simp (disch := omega) only [pEndT, sF_eq, sF_ne]; exact a8 _ _ _ _ (by omega)) ?_
    have e1 : tn (setF (pEndT U m a) m a 0 13 (pEndT U m a m a 0 13 + 1)) m (pQ S m) = (S m a 0 5).toInt := by unfold tn; simp (disch := omega) only [pEndT, sF_eq, sF_ne]; rw [a2]
    rw [e1, if_neg t1]
    simp (disch := omega) only [pEndT, sF_eq, sF_ne]
    rw [a8 _ _ _ _ (by omega)]
  · by_cases hga : g = a
    · subst hga; unfold pt bas; simp (disch := omega) only [pEndT, sF_eq, sF_ne]
      rw [if_pos trivial, if_neg ht, a8 _ _ _ _ (by omega), a8 _ _ _ _ (by omega)]; omega
    · unfold pt bas; simp (disch := omega) only [pEndT, sF_eq, sF_ne]
      rw [a8 _ _ _ _ (by omega), a8 _ _ _ _ (by omega), a8 _ _ _ _ (by omega), a8 _ _ _ _ (by omega)]; exact Nat.le_refl _
  · refine ln_commit (a := a) (h.2.1 l hl) ha (fun g hg => by simp (disch := omega) only [pEndT, sF_eq, sF_ne]; exact a8 _ _ _ _ (by omega)) (fun g hg => by simp (disch := omega) only [pEndT, sF_eq, sF_ne]; exact a8 _ _ _ _ (by omega)) (fun g hg => by simp (disch := omega) only [pEndT, sF_eq, sF_ne]; exact a8 _ _ _ _ (by omega)) (fun g hg hne => by simp (disch := omega) only [pEndT, sF_eq, sF_ne]; rw [a8 _ _ _ _ (by omega)]) (by simp (disch := omega) only [pEndT, sF_eq, sF_ne]; exact hasL_0 hl) (fun g hg hne => by simp (disch := omega) only [pEndT, sF_eq, sF_ne]; rw [a8 _ _ _ _ (by omega)]) (by simp (disch := omega) only [pEndT, sF_eq, sF_ne]; exact hasL_0 hl) (fun g hg hne => by simp (disch := omega) only [pEndT, sF_eq, sF_ne]; rw [a8 _ _ _ _ (by omega)]) (by simp (disch := omega) only [pEndT, sF_eq, sF_ne]; exact hasL_0 hl) (by simp (disch := omega) only [pEndT, sF_eq, sF_ne]; exact a8 _ _ _ _ (by omega)) ?_
    simp (disch := omega) only [pEndT, sF_eq, sF_ne]
    rw [a4]
    by_cases hw : hasL (S m a 0 10) l = true
    · rw [if_pos hw, if_pos hw, (a5 l hl).2, if_pos hw]
    · rw [if_neg hw, if_neg hw]

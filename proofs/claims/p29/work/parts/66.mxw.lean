/-! a write -/
theorem ln_mv {n : Nat} {st lv fv st' lv' fv' : Nat → Int32} {w r f w' r' f' : Nat → Bool} {mem v mem' v' : Int32} (h : lnOK n st lv fv w r f mem v) (e1 : sm n st st') (e2 : sm n lv lv') (e3 : sm n fv fv') (e4 : sm n w w') (e5 : sm n r r') (e6 : sm n f f') (em : mem' = v) (ev : v' = v) : lnOK n st' lv' fv' w' r' f' mem' v' := by
  unfold lnOK at *; grind
theorem MX_wbo {S : St} {m n P a j : Nat} (h : MX S m n P) (ha : a < n) (hj : j < 8) (hs : S m a 1 j = 2) (hw : hasL (S m a 0 10) j = false) : MX (pWB S m a j) m n P ∧ pWB S m a j m 4 2 j = lgV (pWB S m a j) m (pQ (pWB S m a j) m) j := by
  have hn := h.n4
  have hv : S m a 2 j = lgV S m (pQ S m) j := (h.2.1 j hj).2.2.1 a ha hs hw
  have hM : MX (pWB S m a j) m n P := by
    refine MX_gen h (fun g i hg _ => by simp (disch := omega) only [pWB, inc, sF_eq, sF_ne]) (fun g hg => by simp (disch := omega) only [pWB, inc, sF_eq, sF_ne]) (by simp (disch := omega) only [pWB, inc, sF_eq, sF_ne]) (by simp (disch := omega) only [pWB, inc, sF_eq, sF_ne]) (fun i hi => by simp (disch := omega) only [pWB, inc, sF_eq, sF_ne]) (fun i k hi => by simp (disch := omega) only [pWB, inc, sF_eq, sF_ne]) (fun g hg => seS_cg (h.2.2.1 g hg) (fun i _ => by simp (disch := omega) only [pWB, inc, sF_eq, sF_ne])) (fun l hl => ?_)
    by_cases hlj : l = j
    · subst hlj
      exact ln_mv (h.2.1 l hl) (fun g hg => by simp (disch := omega) only [pWB, inc, sF_eq, sF_ne]) (fun g hg => by simp (disch := omega) only [pWB, inc, sF_eq, sF_ne]) (fun g hg => by simp (disch := omega) only [pWB, inc, sF_eq, sF_ne]) (fun g hg => by simp (disch := omega) only [pWB, inc, sF_eq, sF_ne]) (fun g hg => by simp (disch := omega) only [pWB, inc, sF_eq, sF_ne]) (fun g hg => by simp (disch := omega) only [pWB, inc, sF_eq, sF_ne]) (by simp (disch := omega) only [pWB, inc, sF_eq, sF_ne]; exact hv) rfl
    · exact lnS_cg (h.2.1 l hl) (fun g i hg _ => by simp (disch := omega) only [pWB, inc, sF_eq, sF_ne]) (fun g i hg _ => by simp (disch := omega) only [pWB, inc, sF_eq, sF_ne]) (by simp (disch := omega) only [pWB, inc, sF_eq, sF_ne]) rfl
  refine ⟨hM, ?_⟩
  have eQ : pQ (pWB S m a j) m = pQ S m := by show (pWB S m a j m 4 4 7).toNatClampNeg = _; simp (disch := omega) only [pWB, inc, sF_eq, sF_ne]
  rw [eQ, lgV_cg (S := S) (m := m) (pQ S m) (fun e _ => by simp (disch := omega) only [pWB, inc, sF_eq, sF_ne]) (fun e l _ _ => by simp (disch := omega) only [pWB, inc, sF_eq, sF_ne]) j hj, ← hv]
  simp (disch := omega) only [pWB, inc, sF_eq, sF_ne]
theorem put_tx {U : St} {m n P a j : Nat} (h : MX U m n P) (ha : a < n) (hj : j < 8) (ht : U m a 0 5 ≠ -1) (hm : U m 4 2 j = lgV U m (pQ U m) j) (ho : ∀ b, b < n → b ≠ a → U m b 1 j = 0 ∧ hasL (U m b 0 9) j = false ∧ hasL (U m b 0 10) j = false) : MX (pPut (setF U m a 1 j 2) m a j) m n P := by
  have hn := h.n4
  obtain ⟨s1, s2, s3, s4, s5⟩ := h.2.2.1 a ha
  have e : pPut (setF U m a 1 j 2) m a j = setF (setF (setF U m a 1 j 2) m a 2 j (U m a 0 4)) m a 0 10 (U m a 0 10 ||| 1 <<< (nI j &&& 31)) := by
    unfold pPut; dsimp only; rw [if_pos (inT_iff.mpr (by simp (disch := omega) only [sF_eq, sF_ne]; exact ht))]; simp (disch := omega) only [sF_eq, sF_ne]
  rw [e]
  refine MX_gen h (fun g i hg _ => by simp (disch := omega) only [sF_eq, sF_ne]) (fun g hg => by simp (disch := omega) only [sF_eq, sF_ne]) (by simp (disch := omega) only [sF_eq, sF_ne]) (by simp (disch := omega) only [sF_eq, sF_ne]) (fun i hi => by simp (disch := omega) only [sF_eq, sF_ne]) (fun i k hi => by simp (disch := omega) only [sF_eq, sF_ne]) (fun g hg => ?_) (fun l hl => ?_)
  · by_cases hga : g = a
    · subst hga; unfold seS; simp (disch := omega) only [sF_eq, sF_ne]
      exact ⟨s1, ok8_or s2 (ok8_1 hj), s3, fun z => absurd z ht, s5⟩
    · exact seS_cg (h.2.2.1 g hg) (fun i _ => by simp (disch := omega) only [sF_eq, sF_ne])
  · by_cases hlj : l = j
    · subst hlj
      refine ln_putT (a := a) (h.2.1 l hl) ha (by simp (disch := omega) only [sF_eq, sF_ne]; exact hm) (fun b hb hba => ⟨by simp (disch := omega) only [sF_eq, sF_ne]; exact (ho b hb hba).1, (ho b hb hba).2.1, (ho b hb hba).2.2⟩) (fun b hb hba => by simp (disch := omega) only [sF_eq, sF_ne]; exact (ho b hb hba).1) (by simp (disch := omega) only [sF_eq, sF_ne]) (fun g hg hne => by simp (disch := omega) only [sF_eq, sF_ne]) (fun g hg => by simp (disch := omega) only [sF_eq, sF_ne]) (fun g hg hne => by simp (disch := omega) only [sF_eq, sF_ne]) (by simp (disch := omega) only [sF_eq, sF_ne]; rw [hasL_o s2 hj hl]; simp) (fun g hg => by simp (disch := omega) only [sF_eq, sF_ne]) (fun g hg => by simp (disch := omega) only [sF_eq, sF_ne]) rfl
    · refine ln_cg (h.2.1 l hl) (fun g hg => by simp (disch := omega) only [sF_eq, sF_ne]) (fun g hg => by simp (disch := omega) only [sF_eq, sF_ne]) (fun g hg => by simp (disch := omega) only [sF_eq, sF_ne]) (fun g hg => ?_) (fun g hg => by simp (disch := omega) only [sF_eq, sF_ne]) (fun g hg => by simp (disch := omega) only [sF_eq, sF_ne]) (by simp (disch := omega) only [sF_eq, sF_ne]) rfl
      by_cases hga : g = a
      · subst hga; simp (disch := omega) only [sF_eq, sF_ne]; rw [hasL_o s2 hj hl]; simp [hlj]
      · simp (disch := omega) only [sF_eq, sF_ne]
theorem put_no {U : St} {m n P a j : Nat} (h : MX U m n P) (ha : a < n) (hj : j < 8) (hm1 : m ≠ 1) (hq : pQ U m < 400) (ht : U m a 0 5 = -1) (ho : ∀ b, b < n → b ≠ a → U m b 1 j = 0 ∧ hasL (U m b 0 9) j = false ∧ hasL (U m b 0 10) j = false) : MX (pPut (setF U m a 1 j 2) m a j) m n (P + 1) ∧ pPut (setF U m a 1 j 2) m a j m a 0 5 = -1 := by
  have hn := h.n4
  obtain ⟨s1, s2, s3, s4, s5⟩ := h.2.2.1 a ha
  obtain ⟨z1, z2, z3⟩ := s4 ht
  have e : pPut (setF U m a 1 j 2) m a j = pAddE (setF (setF U m a 1 j 2) m a 2 j (U m a 0 4)) m (nI a) (-1) 0 m a 2 (1 <<< (nI j &&& 31)) m a 2 := by
    unfold pPut pAddW; dsimp only; rw [if_neg (fun z => inT_iff.mp z (by simp (disch := omega) only [sF_eq, sF_ne]; exact ht))]; simp (disch := omega) only [sF_eq, sF_ne]
  rw [e]
  clear e
  have q0 : pQ (setF (setF U m a 1 j 2) m a 2 j (U m a 0 4)) m = pQ U m := by show (setF (setF U m a 1 j 2) m a 2 j (U m a 0 4) m 4 4 7).toNatClampNeg = _; simp (disch := omega) only [sF_eq, sF_ne]
  obtain ⟨⟨a1, a2, a3, a4⟩, a5, a6, a7, a8⟩ := addE_at (S := setF (setF U m a 1 j 2) m a 2 j (U m a 0 4)) (m := m) (x := nI a) (t := -1) (a := 0) (b := 1 <<< (nI j &&& 31)) (m1 := m) (g1 := a) (i1 := 2) (m2 := m) (g2 := a) (i2 := 2) hm1 (by rw [q0]; exact hq) (by omega) (by omega)
  rw [q0] at a1 a2 a3 a4 a5 a6 a7
  have b6 : ∀ i e, 5 ≤ i → i ≤ 8 → e < pQ U m → pAddE (setF (setF U m a 1 j 2) m a 2 j (U m a 0 4)) m (nI a) (-1) 0 m a 2 (1 <<< (nI j &&& 31)) m a 2 m 4 i e = U m 4 i e := fun i e h1 h2 h3 => by rw [a6 i e h1 h2 h3]; simp (disch := omega) only [sF_eq, sF_ne]
  have b7 : ∀ i k, i = 9 ∨ i = 10 → k < pQ U m * 8 → pAddE (setF (setF U m a 1 j 2) m a 2 j (U m a 0 4)) m (nI a) (-1) 0 m a 2 (1 <<< (nI j &&& 31)) m a 2 m 4 i k = U m 4 i k := fun i k h1 h2 => by rw [a7 i k h1 h2]; simp (disch := omega) only [sF_eq, sF_ne]
  have b5 : ∀ l, l < 8 → pAddE (setF (setF U m a 1 j 2) m a 2 j (U m a 0 4)) m (nI a) (-1) 0 m a 2 (1 <<< (nI j &&& 31)) m a 2 m 4 10 (pQ U m * 8 + l) = if l = j then U m a 0 4 else 0 := fun l hl => by
    rw [(a5 l hl).2, hasL_1 hj hl]
    by_cases hlj : l = j
    · subst hlj; simp; simp (disch := omega) only [sF_eq, sF_ne]
    · simp [hlj]
  have b5' : ∀ l, l < 8 → pAddE (setF (setF U m a 1 j 2) m a 2 j (U m a 0 4)) m (nI a) (-1) 0 m a 2 (1 <<< (nI j &&& 31)) m a 2 m 4 9 (pQ U m * 8 + l) = 0 := fun l hl => by
    rw [(a5 l hl).1, hasL_0 hl]; rfl
  have b8 : ∀ c i k, c < 4 → i ≠ 1 → i ≠ 2 → pAddE (setF (setF U m a 1 j 2) m a 2 j (U m a 0 4)) m (nI a) (-1) 0 m a 2 (1 <<< (nI j &&& 31)) m a 2 m c i k = U m c i k := fun c i k hc h1 h2 => by rw [a8 _ _ _ _ (by omega)]; simp (disch := omega) only [sF_eq, sF_ne]
  have b9 : ∀ c i k, c < 4 → c ≠ a → pAddE (setF (setF U m a 1 j 2) m a 2 j (U m a 0 4)) m (nI a) (-1) 0 m a 2 (1 <<< (nI j &&& 31)) m a 2 m c i k = U m c i k := fun c i k hc h1 => by rw [a8 _ _ _ _ (by omega)]; simp (disch := omega) only [sF_eq, sF_ne]
  have b10 : ∀ i k, i < 4 → pAddE (setF (setF U m a 1 j 2) m a 2 j (U m a 0 4)) m (nI a) (-1) 0 m a 2 (1 <<< (nI j &&& 31)) m a 2 m 4 i k = U m 4 i k := fun i k h1 => by rw [a8 _ _ _ _ (by omega)]; simp (disch := omega) only [sF_eq, sF_ne]
  have b11 : ∀ i l, l ≠ j → i < 4 → pAddE (setF (setF U m a 1 j 2) m a 2 j (U m a 0 4)) m (nI a) (-1) 0 m a 2 (1 <<< (nI j &&& 31)) m a 2 m a i l = U m a i l := fun i l h1 h2 => by rw [a8 _ _ _ _ (by omega)]; simp (disch := omega) only [sF_eq, sF_ne]
  have b12 : pAddE (setF (setF U m a 1 j 2) m a 2 j (U m a 0 4)) m (nI a) (-1) 0 m a 2 (1 <<< (nI j &&& 31)) m a 2 m a 1 j = 2 := by rw [a8 _ _ _ _ (by omega)]; simp (disch := omega) only [sF_eq, sF_ne]
  have b13 : pAddE (setF (setF U m a 1 j 2) m a 2 j (U m a 0 4)) m (nI a) (-1) 0 m a 2 (1 <<< (nI j &&& 31)) m a 2 m a 2 j = U m a 0 4 := by rw [a8 _ _ _ _ (by omega)]; simp (disch := omega) only [sF_eq, sF_ne]
  clear a5 a6 a7 a8
  generalize pAddE (setF (setF U m a 1 j 2) m a 2 j (U m a 0 4)) m (nI a) (-1) 0 m a 2 (1 <<< (nI j &&& 31)) m a 2 = W at *
  have eV : ∀ l, l < 8 → lgV W m (pQ U m) l = lgV U m (pQ U m) l := lgV_cg _ (fun d hd => b6 8 d (by omega) (by omega) hd) (fun d l hd hl => b7 10 _ (by omega) (by omega))
  refine ⟨MX_add h (b10 0 4 (by omega)) hq a1 (fun k _ => b10 3 k (by omega)) (fun g hg => b8 g 0 14 (by omega) (by omega) (by omega)) (fun g hg => b8 g 3 2 (by omega) (by omega) (by omega)) b6 b7 ?_ (fun g hg => seS_cg (h.2.2.1 g hg) (fun i _ => b8 g 0 i (by omega) (by omega) (by omega))) ?_ ?_ (fun g hg => ?_) (fun l hl => ?_), by rw [b8 a 0 5 (by omega) (by omega) (by omega)]; exact ht⟩
  · unfold enOK
    rw [a2, a3, a4]
    refine ⟨ok8_0, ok8_1 hj, fun l hl => ⟨?_, fun hw => ?_⟩, fun _ => ⟨rfl, j, hj, rfl⟩⟩
    · rw [b5' l hl, hasL_0 hl]; rfl
    · rw [hasL_1 hj hl] at hw
      rw [b5 l hl, if_neg (by simpa using hw)]
  · refine nb_out h.2.2.2.1 (fun g hg => ?_) (fun e he => ?_) ?_ ?_ rfl
    · unfold own; rw [b8 g 0 5 (by omega) (by omega) (by omega), b8 g 0 6 (by omega) (by omega) (by omega)]
    · unfold tn; rw [b6 6 e (by omega) (by omega) he]
    · unfold tn; rw [a2]; rfl
    · rw [b10 0 8 (by omega)]
  · rw [sI_cg (f := fun g => U m g 0 13) (f' := fun g => W m g 0 13) (fun g hg => b8 g 0 13 (by omega) (by omega) (by omega))]
    unfold tn
    rw [a2, if_pos (by rfl), Int32.add_zero]
  · unfold pt bas
    rw [b8 g 3 2 (by omega) (by omega) (by omega), b8 g 0 5 (by omega) (by omega) (by omega), b8 g 0 3 (by omega) (by omega) (by omega), b8 g 0 7 (by omega) (by omega) (by omega)]; exact Nat.le_refl _
  · by_cases hlj : l = j
    · subst hlj
      refine ln_putN (a := a) (h.2.1 l hl) ha (fun b hb hba => (ho b hb hba).2) (by show hasL (U m a 0 10) l = false; rw [z2]; exact hasL_0 hl) (by show hasL (U m a 0 9) l = false; rw [z1]; exact hasL_0 hl) (fun b hb hba => by show W m b 1 l = 0; rw [b9 b 1 l (by omega) hba]; exact (ho b hb hba).1) b12 ?_ (fun g hg => b8 g 6 l (by omega) (by omega) (by omega)) (fun g hg => by show hasL (W m g 0 10) l = _; rw [b8 g 0 10 (by omega) (by omega) (by omega)]) (fun g hg => by show hasL (W m g 0 9) l = _; rw [b8 g 0 9 (by omega) (by omega) (by omega)]) (fun g hg => by show hasL (W m g 0 11) l = _; rw [b8 g 0 11 (by omega) (by omega) (by omega)])
      show W m a 2 l = if hasL (W m 4 8 (pQ U m)) l = true then W m 4 10 (pQ U m * 8 + l) else lgV U m (pQ U m) l
      rw [b13, a4, hasL_1 hj hl, b5 l hl]; simp
    · refine lnS_cg (h.2.1 l hl) (fun g i hg hi => ?_) (fun g i hg _ => b8 g 0 i (by omega) (by omega) (by omega)) (b10 2 l (by omega)) ?_
      · by_cases hga : g = a
        · subst hga
          rcases hi with rfl | rfl | rfl
          · exact b11 1 l hlj (by omega)
          · exact b11 2 l hlj (by omega)
          · exact b8 g 6 l (by omega) (by omega) (by omega)
        · exact b9 g i l (by omega) hga
      · rw [a4, hasL_1 hj hl]; simp [hlj]

/-! a line is taken over; a write whole -/
theorem MX_tak {U : St} {m n P g j : Nat} (h : MX U m n P) (hj : j < 8) (h2 : ∀ b, b < n → b ≠ g → U m b 1 j ≠ 2) : MX (lp (pTakF m g j) n 0 U) m n P ∧ (∀ b, b < n → b ≠ g → lp (pTakF m g j) n 0 U m b 1 j = 0) ∧ (∀ b i q, b < 4 → b = g ∨ i ≠ 1 → lp (pTakF m g j) n 0 U m b i q = U m b i q) := by
  have hn := h.n4
  have key := lp_at (pTakF m g j) (fun k W => MX W m n P ∧ (∀ b, b < k → b ≠ g → W m b 1 j = 0) ∧ (∀ b, b < n → b ≠ g → W m b 1 j ≠ 2) ∧ (∀ b i q, b < 4 → b = g ∨ i ≠ 1 → W m b i q = U m b i q)) n (fun k W hk ⟨p1, p2, p3, p4⟩ => by
    unfold pTakF
    by_cases hkg : k = g
    · rw [if_pos hkg]
      exact ⟨p1, fun b hb hbg => p2 b (by omega) hbg, p3, p4⟩
    · rw [if_neg hkg]
      by_cases h0 : W m k 1 j = 0
      · rw [if_pos h0]
        refine ⟨p1, fun b hb hbg => ?_, p3, p4⟩
        by_cases hbk : b = k
        · subst hbk; exact h0
        · exact p2 b (by omega) hbg
      · rw [if_neg h0]
        refine ⟨MX_inc (MX_inv p1 hk hj (p3 k hk hkg)) (by omega) (by omega), fun b hb hbg => ?_, fun b hb hbg => ?_, fun b i q hb hbi => ?_⟩
        · by_cases hbk : b = k
          · subst hbk; simp (disch := omega) only [inc, sF_eq, sF_ne]
          · simp (disch := omega) only [inc, sF_eq, sF_ne]; exact p2 b (by omega) hbg
        · by_cases hbk : b = k
          · subst hbk; simp (disch := omega) only [inc, sF_eq, sF_ne]; decide
          · simp (disch := omega) only [inc, sF_eq, sF_ne]; exact p3 b hb hbg
        · rcases hbi with rfl | hi
          · simp (disch := omega) only [inc, sF_eq, sF_ne]; exact p4 b i q hb (Or.inl rfl)
          · simp (disch := omega) only [inc, sF_eq, sF_ne]; exact p4 b i q hb (Or.inr hi)) n 0 U (by omega) ⟨h, fun b hb => absurd hb (by omega), h2, fun _ _ _ _ _ => rfl⟩
  rw [Nat.zero_add] at key
  exact ⟨key.1, key.2.1, key.2.2.2⟩
theorem MX.q {S : St} {m n P : Nat} (h : MX S m n P) : pQ S m ≤ P := by have := h.2.2.2.2.2.2.1.1; omega
theorem MX_own {U : St} {m n P g j : Nat} (h : MX U m n P) (hg : g < n) (hj : j < 8) (ho : ∀ b, b < n → b ≠ g → hasL (U m b 0 10) j = false) : ∃ W, MX W m n P ∧ pOwn U m g j = setF W m g 1 j 2 ∧ (U m g 0 5 ≠ -1 → W m 4 2 j = lgV W m (pQ W m) j) ∧ (∀ b, b < n → b ≠ g → W m b 1 j = 0) ∧ ∀ b k, b < n → W m b 0 k = U m b 0 k := by
  have hn := h.n4
  unfold pOwn
  by_cases hs : U m g 1 j = 2
  · rw [if_pos hs]
    have hx : ∀ b, b < n → b ≠ g → U m b 1 j = 0 := fun b hb hbg => (h.2.1 j hj).1 g b hg hb (fun z => hbg z.symm) hs
    by_cases ht : pInT U m g = true
    · rw [if_pos ht]
      by_cases hw : pContains (U m g 0 10) (nI j) = true
      · rw [if_pos hw]
        refine ⟨U, h, (setF_self hs).symm, fun _ => ln_mem (h.2.1 j hj) (fun b hb h2 => ?_), hx, fun _ _ _ => rfl⟩
        by_cases hbg : b = g
        · subst hbg; exact hw
        · have h2' : U m b 1 j = 2 := h2
          rw [hx b hb hbg] at h2'; exact absurd h2' (by decide)
      · rw [if_neg hw]
        obtain ⟨w1, w2⟩ := MX_wbo h hg hj hs (by simpa using hw)
        refine ⟨pWB U m g j, w1, (setF_self (by simp (disch := omega) only [pWB, inc, sF_eq, sF_ne]; exact hs)).symm, fun _ => w2, fun b hb hbg => ?_, fun b k hb => ?_⟩
        · simp (disch := omega) only [pWB, inc, sF_eq, sF_ne]; exact hx b hb hbg
        · simp (disch := omega) only [pWB, inc, sF_eq, sF_ne]
    · rw [if_neg ht]
      exact ⟨U, h, (setF_self hs).symm, fun z => absurd (inT_iff.mpr z) ht, hx, fun _ _ _ => rfl⟩
  · rw [if_neg hs]
    unfold pOver
    dsimp only
    obtain ⟨V, hV, hVM, hVe⟩ : ∃ V, V = (if U m g 1 j = 0 then inc U m 1 else inc U m 2) ∧ MX V m n P ∧ ∀ b i k, b < n → V m b i k = U m b i k := by
      refine ⟨_, rfl, ?_, fun b i k hb => ?_⟩
      · split
        · exact MX_inc h (by omega) (by omega)
        · exact MX_inc h (by omega) (by omega)
      · split
        · exact inc_ne (by omega)
        · exact inc_ne (by omega)
    rw [← hV]
    obtain ⟨w1, w2, w3, -⟩ := MX_wbe (g := g) hVM hj (fun b hb hbg => by rw [hVe b 0 10 hb]; exact ho b hb hbg)
    rw [w1.cc]
    obtain ⟨t1, t2, t3⟩ := MX_tak w1 hj w2
    refine ⟨_, t1, rfl, fun _ => ln_mem (t1.2.1 j hj) (fun b hb h2 => ?_), t2, fun b k hb => ?_⟩
    · by_cases hbg : b = g
      · subst hbg
        have h2' : lp (pTakF m b j) n 0 (pWbe V m b j) m b 1 j = 2 := h2
        rw [t3 b 1 j (by omega) (Or.inl rfl), w3 b 1 j (by omega) (Or.inl rfl), hVe b 1 j hb] at h2'
        exact absurd h2' hs
      · have h2' : lp (pTakF m g j) n 0 (pWbe V m g j) m b 1 j = 2 := h2
        rw [t2 b hb hbg] at h2'; exact absurd h2' (by decide)
    · rw [t3 b 0 k (by omega) (Or.inr (by omega)), w3 b 0 k (by omega) (Or.inr (by omega)), hVe b 0 k hb]
theorem pPut_14 {S : St} {m g j : Nat} (hg : g < 4) (hm : m ≠ 1) : pPut S m g j m g 0 14 = S m g 0 14 := by
  unfold pPut
  split
  · simp (disch := omega) only [sF_eq, sF_ne]
  · unfold pAddW pAddE
    split
    · rw [sF_ne (by omega), (slogL (by omega) (by omega) _).2.2 _ _ _ _ (by omega)]; simp (disch := omega) only [sF_eq, sF_ne]
    · simp (disch := omega) only [sF_eq, sF_ne]
theorem MX_write {S : St} {m n P g j : Nat} (h : MX S m n P) (hg : g < n) (hj : j < 8) (hm : m ≠ 1) (hP : P < 400) : ∃ d, d ≤ 1 ∧ MX (pWrite S m g j) m n (P + d) ∧ (d = 1 → pWrite S m g j m g 0 5 = -1 ∧ ((pWc S m g j true).1 = true ∧ pWrite S m g j m g 0 14 = (pWc S m g j true).2 m g 0 14)) := by
  have hn := h.n4
  obtain ⟨w1, w2⟩ := MX_wc (w := true) h hg hj
  unfold pWrite
  generalize pWc S m g j true = q at *
  by_cases h1 : q.1 = true
  · rw [if_pos h1]
    have hno := w2 h1
    unfold pWrB
    by_cases hr : pNoRoom q.2 m g (nI j) (q.2 m 4 0 6) = true
    · rw [if_pos hr]
      refine ⟨0, by omega, MX_roll w1 hg ?_ (Or.inr rfl), fun z => absurd z (by omega)⟩
      unfold pNoRoom at hr
      rw [Bool.and_eq_true] at hr
      exact inT_iff.mp hr.1
    · rw [if_neg hr]
      obtain ⟨W, o1, o2, o3, o4, o5⟩ := MX_own w1 hg hj (fun b hb hbg => (hno b hb hbg).1)
      have e14 : pPut (pOwn q.2 m g j) m g j m g 0 14 = q.2 m g 0 14 := by
        rw [pPut_14 (by omega) hm, o2]; simp (disch := omega) only [sF_eq, sF_ne]; exact o5 g 14 hg
      rw [o2] at e14 ⊢
      have hoW : ∀ b, b < n → b ≠ g → W m b 1 j = 0 ∧ hasL (W m b 0 9) j = false ∧ hasL (W m b 0 10) j = false := fun b hb hbg => ⟨o4 b hb hbg, by rw [o5 b 9 hb]; exact (hno b hb hbg).2 rfl, by rw [o5 b 10 hb]; exact (hno b hb hbg).1⟩
      by_cases ht : q.2 m g 0 5 = -1
      · have := put_no o1 hg hj hm (by have := o1.q; omega) (by rw [o5 g 5 hg]; exact ht) hoW
        exact ⟨1, by omega, this.1, fun _ => ⟨this.2, h1, e14⟩⟩
      · exact ⟨0, by omega, put_tx o1 hg hj (by rw [o5 g 5 hg]; exact ht) (o3 ht) hoW, fun z => absurd z (by omega)⟩
  · rw [if_neg h1]; exact ⟨0, by omega, w1, fun z => absurd z (by omega)⟩
/-! a transaction begins -/
theorem MX_begT {S : St} {m n P a : Nat} {x y : Int32} (h : MX S m n P) (ha : a < n) (ht : S m a 0 5 = -1) (hx : x ≠ -1) (hnb : nbOK n (fun g => if g = a then x.toInt else own S m g) y.toInt (pQ S m) (tn S m)) : MX (setF (pBegT S m a x) m 4 0 8 y) m n P := by
  have hn := h.n4
  obtain ⟨⟨h1, h1q⟩, h2, h3, h4, h5, h6, h7, h8⟩ := h
  have eQ : pQ (setF (pBegT S m a x) m 4 0 8 y) m = pQ S m := by show (setF (pBegT S m a x) m 4 0 8 y m 4 4 7).toNatClampNeg = _; simp (disch := omega) only [pBegT, sF_eq, sF_ne]
  have eV : ∀ l, l < 8 → lgV (setF (pBegT S m a x) m 4 0 8 y) m (pQ S m) l = lgV S m (pQ S m) l := lgV_cg _ (fun e _ => by simp (disch := omega) only [pBegT, sF_eq, sF_ne]) (fun e l _ _ => by simp (disch := omega) only [pBegT, sF_eq, sF_ne])
  have eT : ∀ e, tn (setF (pBegT S m a x) m 4 0 8 y) m e = tn S m e := fun e => by unfold tn; simp (disch := omega) only [pBegT, sF_eq, sF_ne]
  unfold MX
  rw [eQ]
  refine ⟨⟨⟨by rw [← h1.1]; show (setF (pBegT S m a x) m 4 0 8 y m 4 0 4).toNatClampNeg = _; simp (disch := omega) only [pBegT, sF_eq, sF_ne], h1.2⟩, by simp (disch := omega) only [pBegT, sF_eq, sF_ne]; exact h1q⟩, fun l hl => ?_, fun g hg => ?_, ?_, ?_, ?_, ⟨?_, fun g hg => ?_⟩, fun e he => ?_⟩
  · exact lnS_cg (h2 l hl) (fun g i hg hi => by rcases hi with rfl | rfl | rfl <;> simp (disch := omega) only [pBegT, sF_eq, sF_ne]) (fun g i hg hi => by rcases hi with rfl | rfl | rfl <;> simp (disch := omega) only [pBegT, sF_eq, sF_ne]) (by simp (disch := omega) only [pBegT, sF_eq, sF_ne]) (eV l hl)
  · by_cases hga : g = a
    · subst hga
      obtain ⟨s1, s2, s3, s4, s5⟩ := h3 g hg
      unfold seS; simp (disch := omega) only [pBegT, sF_eq, sF_ne]
      exact ⟨s1, s2, s3, fun z => absurd z hx, fun _ => Nat.le_refl _⟩
    · exact seS_cg (h3 g hg) (fun k _ => by simp (disch := omega) only [pBegT, sF_eq, sF_ne])
  · rw [show setF (pBegT S m a x) m 4 0 8 y m 4 0 8 = y by simp (disch := omega) only [pBegT, sF_eq, sF_ne]]
    refine nb_cg hnb (fun g hg => ?_) (fun e _ => eT e) rfl rfl
    by_cases hga : g = a
    · subst hga; unfold own; simp (disch := omega) only [pBegT, sF_eq, sF_ne]; rw [if_neg hx, if_pos trivial]
    · unfold own; simp (disch := omega) only [pBegT, sF_eq, sF_ne]; rw [if_neg hga]
  · rw [sI_cg (f := fun g => S m g 0 14) (fun g hg => by simp (disch := omega) only [pBegT, sF_eq, sF_ne])]; simp (disch := omega) only [pBegT, sF_eq, sF_ne]; exact h5
  · rw [sI_cg (f := fun g => S m g 0 13) (fun g hg => by simp (disch := omega) only [pBegT, sF_eq, sF_ne]), cT_cg (t := tn S m) (fun e _ => eT e)]; exact h6
  · rw [sN_cg (f := pt S m) (f' := pt (setF (pBegT S m a x) m 4 0 8 y) m) (fun g hg => ?_)]
    · exact h7.1
    · by_cases hga : g = a
      · subst hga; unfold pt bas; simp (disch := omega) only [pBegT, sF_eq, sF_ne]; rw [if_neg hx, if_pos ht]
      · unfold pt bas; simp (disch := omega) only [pBegT, sF_eq, sF_ne]
  · simp (disch := omega) only [pBegT, sF_eq, sF_ne]; exact h7.2 g hg
  · exact enOK_cg (h8 e he) (by simp (disch := omega) only [pBegT, sF_eq, sF_ne]) (by simp (disch := omega) only [pBegT, sF_eq, sF_ne]) (fun d _ => by simp (disch := omega) only [pBegT, sF_eq, sF_ne]) (fun l _ => by simp (disch := omega) only [pBegT, sF_eq, sF_ne]) (fun d l _ _ => by simp (disch := omega) only [pBegT, sF_eq, sF_ne])
theorem okI_toInt {x : Int32} {b : Nat} (h : okI x b) (hb : b < 2 ^ 31) : 0 ≤ x.toInt ∧ x.toInt ≤ b ∧ x ≠ -1 := by
  obtain ⟨k, hk, rfl⟩ := okI_ex h
  rw [nI_toInt (by omega)]
  exact ⟨by omega, by omega, nI_nm1 (by omega)⟩
theorem toInt_1 {x : Int32} {b : Nat} (h : okI x b) (hb : b < 2 ^ 30) : (x + 1).toInt = x.toInt + 1 := by
  obtain ⟨k, hk, rfl⟩ := okI_ex h
  rw [nI_1, nI_toInt (by omega), nI_toInt (by omega)]; omega
theorem MX_beg {S : St} {m n P a N : Nat} (h : MX S m n P) (ha : a < n) (hN : N < 2 ^ 30) (hb : okI (S m 4 0 8) N) (hk : S m a 0 6 = -1 ∨ okI (S m a 0 6) N) : MX (pBegin S m a) m n P := by
  have hn := h.n4
  unfold pBegin
  by_cases ht : pInT S m a = true
  · rw [if_pos ht]; exact h
  · rw [if_neg ht]
    have ht5 : S m a 0 5 = -1 := by
      by_cases z : S m a 0 5 = -1
      · exact z
      · exact absurd (inT_iff.mpr z) ht
    by_cases h6 : S m a 0 6 = -1
    · rw [if_pos h6]
      dsimp only
      have e8 : pBegT S m a (S m 4 0 8) m 4 0 8 = S m 4 0 8 := by simp (disch := omega) only [pBegT, sF_eq, sF_ne]
      rw [e8]
      refine MX_begT h ha ht5 (okI_toInt hb (by omega)).2.2 ?_
      refine nb_new (a := a) h.2.2.2.1 (fun g hg hne => if_neg hne) (if_pos rfl) (fun e _ => rfl) (toInt_1 hb hN) rfl
    · rw [if_neg h6]
      have e8 : setF (pBegT S m a (S m a 0 6)) m 4 0 8 (S m 4 0 8) = pBegT S m a (S m a 0 6) := setF_self (by simp (disch := omega) only [pBegT, sF_eq, sF_ne])
      rw [← e8]
      refine MX_begT h ha ht5 h6 ?_
      refine nb_cg h.2.2.2.1 (fun g hg => ?_) (fun e _ => rfl) rfl rfl
      by_cases hga : g = a
      · subst hga; unfold own; rw [if_pos rfl, if_pos ht5]
      · exact if_neg hga
/-! the next instruction -/
theorem MX_pos {S : St} {m n P d a : Nat} (h : MX S m n (P + d)) (ha : a < n) (hd : d ≤ 1) (h1 : d = 1 → S m a 0 5 = -1) (hp : okI (S m a 0 3) 30) (hl : (S m a 0 3).toNatClampNeg < (S m a 3 2).toNatClampNeg) : MX (setF S m a 0 3 (S m a 0 3 + 1)) m n P := by
  have hn := h.n4
  have ep := (okI_inc hp (by omega)).2
  obtain ⟨⟨h1', h1q⟩, h2, h3, h4, h5, h6, h7, h8⟩ := h
  have eQ : pQ (setF S m a 0 3 (S m a 0 3 + 1)) m = pQ S m := by show (setF S m a 0 3 (S m a 0 3 + 1) m 4 4 7).toNatClampNeg = _; simp (disch := omega) only [sF_eq, sF_ne]
  have eV : ∀ l, l < 8 → lgV (setF S m a 0 3 (S m a 0 3 + 1)) m (pQ S m) l = lgV S m (pQ S m) l := lgV_cg _ (fun e _ => by simp (disch := omega) only [sF_eq, sF_ne]) (fun e l _ _ => by simp (disch := omega) only [sF_eq, sF_ne])
  have eT : ∀ e, tn (setF S m a 0 3 (S m a 0 3 + 1)) m e = tn S m e := fun e => by unfold tn; simp (disch := omega) only [sF_eq, sF_ne]
  unfold MX
  rw [eQ]
  refine ⟨⟨⟨by rw [← h1'.1]; show (setF S m a 0 3 (S m a 0 3 + 1) m 4 0 4).toNatClampNeg = _; simp (disch := omega) only [sF_eq, sF_ne], h1'.2⟩, by simp (disch := omega) only [sF_eq, sF_ne]; exact h1q⟩, fun l hl => ?_, fun g hg => ?_, ?_, ?_, ?_, ⟨?_, fun g hg => ?_⟩, fun e he => ?_⟩
  · exact lnS_cg (h2 l hl) (fun g i hg hi => by rcases hi with rfl | rfl | rfl <;> simp (disch := omega) only [sF_eq, sF_ne]) (fun g i hg hi => by rcases hi with rfl | rfl | rfl <;> simp (disch := omega) only [sF_eq, sF_ne]) (by simp (disch := omega) only [sF_eq, sF_ne]) (eV l hl)
  · by_cases hga : g = a
    · subst hga
      obtain ⟨s1, s2, s3, s4, s5⟩ := h3 g hg
      unfold seS; simp (disch := omega) only [sF_eq, sF_ne]
      exact ⟨s1, s2, s3, s4, fun z => by rw [ep]; have := s5 z; omega⟩
    · exact seS_cg (h3 g hg) (fun k _ => by simp (disch := omega) only [sF_eq, sF_ne])
  · rw [show setF S m a 0 3 (S m a 0 3 + 1) m 4 0 8 = S m 4 0 8 by simp (disch := omega) only [sF_eq, sF_ne]]
    exact nb_cg h4 (fun g hg => by unfold own; simp (disch := omega) only [sF_eq, sF_ne]) (fun e _ => eT e) rfl rfl
  · rw [sI_cg (f := fun g => S m g 0 14) (fun g hg => by simp (disch := omega) only [sF_eq, sF_ne])]; simp (disch := omega) only [sF_eq, sF_ne]; exact h5
  · rw [sI_cg (f := fun g => S m g 0 13) (fun g hg => by simp (disch := omega) only [sF_eq, sF_ne]), cT_cg (t := tn S m) (fun e _ => eT e)]; exact h6
  · have hot : ot n a (pt S m) (pt (setF S m a 0 3 (S m a 0 3 + 1)) m) := fun g hg hne => by unfold pt bas; simp (disch := omega) only [sF_eq, sF_ne]
    by_cases ht : S m a 0 5 = -1
    · have := sN_up (f := pt S m) (f' := pt (setF S m a 0 3 (S m a 0 3 + 1)) m) (a := a) (d := 0) (d' := 1) ha hot (by
        unfold pt bas; simp (disch := omega) only [sF_eq, sF_ne]; rw [if_pos ht, if_pos ht, ep]; omega)
      omega
    · have := sN_up (f := pt S m) (f' := pt (setF S m a 0 3 (S m a 0 3 + 1)) m) (a := a) (d := 0) (d' := 0) ha hot (by
        unfold pt bas; simp (disch := omega) only [sF_eq, sF_ne]; rw [if_neg ht, if_neg ht])
      have hd0 : d = 0 := by
        rcases Nat.lt_or_ge d 1 with z | z
        · omega
        · exact absurd (h1 (by omega)) ht
      omega
  · simp (disch := omega) only [sF_eq, sF_ne]; exact h7.2 g hg
  · exact enOK_cg (h8 e he) (by simp (disch := omega) only [sF_eq, sF_ne]) (by simp (disch := omega) only [sF_eq, sF_ne]) (fun d _ => by simp (disch := omega) only [sF_eq, sF_ne]) (fun l _ => by simp (disch := omega) only [sF_eq, sF_ne]) (fun d l _ _ => by simp (disch := omega) only [sF_eq, sF_ne])

/-! copies of a machine -/
theorem cR_eq {S : St} {m1 g1 i1 m2 g2 i2 n m' g' i' k' : Nat} (h : m' = m2 ∧ g' = g2 ∧ i' = i2 ∧ k' < n) : cpR S m1 g1 i1 m2 g2 i2 n m' g' i' k' = S m1 g1 i1 k' := by rw [cpR_at, if_pos h]
theorem cR_ne {S : St} {m1 g1 i1 m2 g2 i2 n m' g' i' k' : Nat} (h : ¬ (m' = m2 ∧ g' = g2 ∧ i' = i2 ∧ k' < n)) : cpR S m1 g1 i1 m2 g2 i2 n m' g' i' k' = S m' g' i' k' := by rw [cpR_at, if_neg h]
theorem cpF_eq {S : St} {m g m2 g2 k m' g' i' k' : Nat} (h : m' = m ∧ g' = g ∧ i' = 0 ∧ k' = k) : cpF S m g m2 g2 k m' g' i' k' = S m2 g2 0 k := by rw [cpF, setF_at, if_pos h]
theorem cpF_ne {S : St} {m g m2 g2 k m' g' i' k' : Nat} (h : ¬ (m' = m ∧ g' = g ∧ i' = 0 ∧ k' = k)) : cpF S m g m2 g2 k m' g' i' k' = S m' g' i' k' := by rw [cpF, setF_at, if_neg h]
theorem cpG_eq {S : St} {m m2 k m' g' i' k' : Nat} (h : m' = m ∧ g' = 4 ∧ i' = 0 ∧ k' = k) : cpG S m m2 k m' g' i' k' = S m2 4 0 k := by rw [cpG, setF_at, if_pos h]
theorem cpG_ne {S : St} {m m2 k m' g' i' k' : Nat} (h : ¬ (m' = m ∧ g' = 4 ∧ i' = 0 ∧ k' = k)) : cpG S m m2 k m' g' i' k' = S m' g' i' k' := by rw [cpG, setF_at, if_neg h]
/-- a core is the other -/
def sameC (S' : St) (m' : Nat) (S : St) (m g : Nat) : Prop := (∀ k, (3 ≤ k ∧ k ≤ 11) ∨ k = 13 ∨ k = 14 → S' m' g 0 k = S m g 0 k) ∧ S' m' g 3 2 = S m g 3 2 ∧ (∀ i k, i = 1 ∨ i = 2 ∨ i = 6 → k < 8 → S' m' g i k = S m g i k) ∧ ∀ i k, i = 4 ∨ i = 5 → k < 30 → S' m' g i k = S m g i k
theorem copyP_at {S : St} {m g m2 : Nat} (hm : m ≠ m2) : (∀ b i k, ¬ (b = g ∧ (i = 3 ∨ i = 4 ∨ i = 5)) → pCopyP S m g m2 g m b i k = S m b i k) ∧ pCopyP S m g m2 g m g 3 2 = S m2 g 3 2 ∧ (∀ i k, i = 4 ∨ i = 5 → k < 30 → pCopyP S m g m2 g m g i k = S m2 g i k) := by
  refine ⟨fun b i k hn => ?_, ?_, fun i k hi hk => ?_⟩
  · simp (disch := omega) only [pCopyP, cR_ne, sF_eq, sF_ne]
  · simp (disch := omega) only [pCopyP, cR_ne, sF_eq, sF_ne]
  · rcases hi with rfl | rfl
    · simp (disch := omega) only [pCopyP, cR_eq, cR_ne, sF_eq, sF_ne]
    · simp (disch := omega) only [pCopyP, cR_eq, cR_ne, sF_eq, sF_ne]
theorem copyC_at {S : St} {m g m2 : Nat} (hm : m ≠ m2) : sameC (pCopyC S m g m2 g) m S m2 g ∧ ∀ b i k, b ≠ g → pCopyC S m g m2 g m b i k = S m b i k := by
  have fP : ∀ T : St, pCopyP T m g m2 g m2 = T m2 := fun T => pCopyP_m (Ne.symm hm)
  have aP : ∀ T : St, _ := fun T => copyP_at (S := T) (m := m) (g := g) (m2 := m2) hm
  unfold pCopyC
  generalize hU : cpR (cpR S m2 g 1 m g 1 8) m2 g 2 m g 2 8 = U
  have e2 : ∀ b i k, U m2 b i k = S m2 b i k := fun b i k => by rw [← hU]; simp (disch := omega) only [cR_ne, sF_eq, sF_ne]
  have e1 : ∀ i k, i = 1 ∨ i = 2 → k < 8 → U m g i k = S m2 g i k := fun i k hi hk => by
    rw [← hU]
    rcases hi with rfl | rfl
    · simp (disch := omega) only [cR_eq, cR_ne, sF_eq, sF_ne]
    · simp (disch := omega) only [cR_eq, cR_ne, sF_eq, sF_ne]
  have e3 : ∀ b i k, b ≠ g → U m b i k = S m b i k := fun b i k hb => by rw [← hU]; simp (disch := omega) only [cR_ne, sF_eq, sF_ne]
  obtain ⟨q1, q2, q3⟩ := aP U
  have e4 : ∀ b i k, pCopyP U m g m2 g m2 b i k = S m2 b i k := fun b i k => by rw [fP]; exact e2 b i k
  generalize hV : pCopyP U m g m2 g = V at *
  refine ⟨⟨fun k hk => ?_, ?_, fun i k hi hk => ?_, fun i k hi hk => ?_⟩, fun b i k hb => ?_⟩
  · have hk' : k = 3 ∨ k = 4 ∨ k = 5 ∨ k = 6 ∨ k = 7 ∨ k = 8 ∨ k = 9 ∨ k = 10 ∨ k = 11 ∨ k = 13 ∨ k = 14 := by omega
    rcases hk' with rfl | rfl | rfl | rfl | rfl | rfl | rfl | rfl | rfl | rfl | rfl
    all_goals simp (disch := omega) only [cpF_eq, cpF_ne, cR_ne, sF_eq, sF_ne]; exact e4 _ _ _
  · simp (disch := omega) only [cpF_ne, cR_ne, sF_eq, sF_ne]; rw [q2]; exact e2 _ _ _
  · rcases hi with rfl | rfl | rfl
    · simp (disch := omega) only [cpF_ne, cR_ne, sF_eq, sF_ne]; rw [q1 g 1 k (by omega)]; exact e1 1 k (by omega) hk
    · simp (disch := omega) only [cpF_ne, cR_ne, sF_eq, sF_ne]; rw [q1 g 2 k (by omega)]; exact e1 2 k (by omega) hk
    · simp (disch := omega) only [cpF_ne, cR_eq, sF_eq, sF_ne]; exact e4 _ _ _
  · rcases hi with rfl | rfl
    · simp (disch := omega) only [cpF_ne, cR_ne, sF_eq, sF_ne]; rw [q3 4 k (by omega) hk]; exact e2 _ _ _
    · simp (disch := omega) only [cpF_ne, cR_ne, sF_eq, sF_ne]; rw [q3 5 k (by omega) hk]; exact e2 _ _ _
  · simp (disch := omega) only [cpF_ne, cR_ne, sF_eq, sF_ne]; rw [q1 b i k (by omega)]; exact e3 b i k hb
theorem copyL_at {S : St} {m m2 : Nat} (hm : m ≠ m2) : pCopyL S m m2 m 4 4 7 = nI (pKept S m m2) ∧ (∀ i k, 5 ≤ i → i ≤ 8 → k < pKept S m m2 → pCopyL S m m2 m 4 i k = S m2 4 i k) ∧ (∀ i k, i = 9 ∨ i = 10 → k < pKept S m m2 * 8 → pCopyL S m m2 m 4 i k = S m2 4 i k) ∧ ∀ b i k, ¬ (b = 4 ∧ 4 ≤ i) → pCopyL S m m2 m b i k = S m b i k := by
  unfold pCopyL
  try dsimp only
  refine ⟨?_, fun i k h5 h8 hk => ?_, fun i k hi hk => ?_, fun b i k hn => ?_⟩
  · simp (disch := omega) only [sF_eq, sF_ne]
  · have hi : i = 5 ∨ i = 6 ∨ i = 7 ∨ i = 8 := by omega
    rcases hi with rfl | rfl | rfl | rfl
    all_goals simp (disch := omega) only [cR_eq, cR_ne, sF_eq, sF_ne]
  · rcases hi with rfl | rfl
    all_goals simp (disch := omega) only [cR_eq, cR_ne, sF_eq, sF_ne]
  · simp (disch := omega) only [cR_ne, sF_eq, sF_ne]
theorem copyM_at {S : St} {m m2 : Nat} (hm : m ≠ m2) : (∀ g, g < 4 → sameC (pCopyM S m m2) m S m2 g) ∧ (∀ k, 4 ≤ k → k ≤ 8 → pCopyM S m m2 m 4 0 k = S m2 4 0 k) ∧ (∀ i k, i = 2 ∨ i = 3 → k < 8 → pCopyM S m m2 m 4 i k = S m2 4 i k) ∧ pCopyM S m m2 m 4 4 7 = nI (pKept S m m2) ∧ (∀ i k, 5 ≤ i → i ≤ 8 → k < pKept S m m2 → pCopyM S m m2 m 4 i k = S m2 4 i k) ∧ ∀ i k, i = 9 ∨ i = 10 → k < pKept S m m2 * 8 → pCopyM S m m2 m 4 i k = S m2 4 i k := by
  have h1 := lp_at (fun k T => pCopyC T m k m2 k) (fun k T => (∀ g, g < k → sameC T m S m2 g) ∧ (∀ b i q, T m2 b i q = S m2 b i q) ∧ ∀ i q, T m 4 i q = S m 4 i q) 4 (fun k T hk ⟨p1, p2, p3⟩ => by
    obtain ⟨⟨c1, c2, c3, c4⟩, c5⟩ := copyC_at (S := T) (g := k) hm
    refine ⟨fun g hg => ?_, fun b i q => ?_, fun i q => ?_⟩
    · by_cases hgk : g = k
      · subst hgk
        exact ⟨fun q hq => (c1 q hq).trans (p2 _ _ _), c2.trans (p2 _ _ _), fun i q hi hq => (c3 i q hi hq).trans (p2 _ _ _), fun i q hi hq => (c4 i q hi hq).trans (p2 _ _ _)⟩
      · obtain ⟨d1, d2, d3, d4⟩ := p1 g (by omega)
        exact ⟨fun q hq => (c5 _ _ _ hgk).trans (d1 q hq), (c5 _ _ _ hgk).trans d2, fun i q hi hq => (c5 _ _ _ hgk).trans (d3 i q hi hq), fun i q hi hq => (c5 _ _ _ hgk).trans (d4 i q hi hq)⟩
    · rw [pCopyC_m (Ne.symm hm)]; exact p2 b i q
    · exact (c5 4 i q (by omega)).trans (p3 i q)) 4 0 S (by omega) ⟨fun g hg => by omega, fun _ _ _ => rfl, fun _ _ => rfl⟩
  unfold pCopyM
  try dsimp only
  generalize lp (fun k T => pCopyC T m k m2 k) 4 0 S = U at *
  obtain ⟨p1, p2, p3⟩ := h1
  generalize hV : cpR (cpR U m2 4 2 m 4 2 8) m2 4 3 m 4 3 8 = V
  have v2 : ∀ b i q, V m2 b i q = S m2 b i q := fun b i q => by rw [← hV]; simp (disch := omega) only [cR_ne, sF_eq, sF_ne]; exact p2 b i q
  have v1 : ∀ b i q, b ≠ 4 → V m b i q = U m b i q := fun b i q hb => by rw [← hV]; simp (disch := omega) only [cR_ne, sF_eq, sF_ne]
  have v3 : ∀ i q, i = 2 ∨ i = 3 → q < 8 → V m 4 i q = S m2 4 i q := fun i q hi hq => by
    rw [← hV]
    rcases hi with rfl | rfl
    · simp (disch := omega) only [cR_eq, cR_ne, sF_eq, sF_ne]; exact p2 _ _ _
    · simp (disch := omega) only [cR_eq, cR_ne, sF_eq, sF_ne]; exact p2 _ _ _
  obtain ⟨l1, l2, l3, l4⟩ := copyL_at (S := V) hm
  have l5 : pCopyL V m m2 m2 = V m2 := pCopyL_m (Ne.symm hm)
  have ek : pKept V m m2 = pKept S m m2 := by
    have : pQ V m2 = pQ S m2 := by show (V m2 4 4 7).toNatClampNeg = _; rw [v2]
    unfold pKept; rw [this]
  rw [ek] at l1 l2 l3
  generalize pCopyL V m m2 = L at *
  refine ⟨fun g hg => ?_, fun k h4 h8 => ?_, fun i k hi hk => ?_, ?_, fun i k h5 h8 hk => ?_, fun i k hi hk => ?_⟩
  · obtain ⟨d1, d2, d3, d4⟩ := p1 g hg
    have f : ∀ i q, cpG (cpG (cpG (cpG (cpG L m m2 4) m m2 5) m m2 6) m m2 7) m m2 8 m g i q = U m g i q := fun i q => by
      simp (disch := omega) only [cpG_ne, sF_eq, sF_ne]
      rw [l4 g i q (by omega)]; exact v1 g i q (by omega)
    exact ⟨fun q hq => (f _ _).trans (d1 q hq), (f _ _).trans d2, fun i q hi hq => (f _ _).trans (d3 i q hi hq), fun i q hi hq => (f _ _).trans (d4 i q hi hq)⟩
  · have hk' : k = 4 ∨ k = 5 ∨ k = 6 ∨ k = 7 ∨ k = 8 := by omega
    rcases hk' with rfl | rfl | rfl | rfl | rfl
    all_goals simp (disch := omega) only [cpG_eq, cpG_ne, sF_eq, sF_ne]; rw [l5]; exact v2 _ _ _
  · simp (disch := omega) only [cpG_ne, sF_eq, sF_ne]; rw [l4 4 i k (by omega)]; exact v3 i k hi hk
  · simp (disch := omega) only [cpG_ne, sF_eq, sF_ne]; exact l1
  · simp (disch := omega) only [cpG_ne, sF_eq, sF_ne]; rw [l2 i k h5 h8 hk]; exact v2 _ _ _
  · simp (disch := omega) only [cpG_ne, sF_eq, sF_ne]; rw [l3 i k hi hk]; exact v2 _ _ _
/-! the relation of copies -/
theorem rCr_cong {S S' T T' : St} {m m' N g : Nat} (h : rCr S m T N g) (hC : sameC S' m' S m g) (h6 : S' m' 4 0 6 = S m 4 0 6) (hT : ∀ w, w < 96 → rOf T' g w = rOf T g w) : rCr S' m' T' N g := by
  obtain ⟨hA, h1, h2, h3, hV, hP, hb⟩ := h
  obtain ⟨d1, d2, d3, d4⟩ := hC
  refine ⟨?_, ?_, ?_, ?_, ?_, ?_, ?_⟩
  · unfold rA at *
    rw [d1 4 (by omega), d1 3 (by omega), d2, d1 13 (by omega), d1 14 (by omega), hT 0 (by omega), hT 1 (by omega), hT 2 (by omega), hT 9 (by omega), hT 10 (by omega)]; exact hA
  · unfold rT1 at *
    rw [d1 5 (by omega), d1 6 (by omega), hT 3 (by omega), hT 4 (by omega)]; exact h1
  · unfold rT2 at *
    rw [d1 9 (by omega), d1 10 (by omega), d1 11 (by omega), hT 7 (by omega), hT 8 (by omega), hT 11 (by omega)]; exact h2
  · unfold rT3 at *
    rw [d1 5 (by omega), d1 6 (by omega), d1 7 (by omega), d1 8 (by omega), d1 9 (by omega), d1 10 (by omega), d1 11 (by omega), d2, hT 5 (by omega), hT 6 (by omega)]; exact h3
  · intro l hl
    have := hV l hl
    rw [d3 1 l (by omega) hl, d3 2 l (by omega) hl, d3 6 l (by omega) hl, d1 10 (by omega), d1 11 (by omega), hT (20 + l) (by omega), hT (28 + l) (by omega), hT (12 + l) (by omega)]; exact this
  · obtain ⟨p1, p2, p3, p4⟩ := hP
    unfold rP pPs pLn at *
    rw [d2, d1 3 (by omega)]
    refine ⟨p1, p2, p3, fun k hk => ?_⟩
    have h30 := p1.2
    rw [d4 4 k (by omega) (by omega), d4 5 k (by omega) (by omega), hT (36 + 2 * k) (by omega), hT (36 + 2 * k + 1) (by omega)]
    exact p4 k hk
  · unfold rB at *
    rw [d1 10 (by omega), h6]; exact hb
theorem rel_cong {S S' T T' : St} {m m' N : Nat} {A : Int32} (h : rel S m T N A) (hC : ∀ g, g < 4 → sameC S' m' S m g) (h0 : ∀ k, 4 ≤ k → k ≤ 8 → S' m' 4 0 k = S m 4 0 k) (h2 : ∀ i k, i = 2 ∨ i = 3 → k < 8 → S' m' 4 i k = S m 4 i k) (hq : okI (S' m' 4 4 7) 400) (hT : ∀ k, k < 406 → T' 7 0 1 k = T 7 0 1 k) (hL : rL S' m' T') : ∃ A', rel S' m' T' N A' := by
  obtain ⟨⟨a1, a2, a3, a4, a5, a6, a7, a8, a9, a10, a11⟩, hU, hR, -⟩ := h
  refine ⟨S m 4 3 5 + S m 4 3 6 - T' 7 0 0 13, ⟨fun k hk => ?_, fun k hk => ?_, fun k hk => ?_, ?_, ?_, ?_, ?_, ?_, ?_, hq, ?_⟩, ?_, fun g hg => ?_, hL⟩
  · rw [h0 _ (by omega) (by omega), hT k (by omega)]; exact a1 k hk
  · rw [h2 2 k (by omega) hk, hT _ (by omega)]; exact a2 k hk
  · rw [h2 3 k (by omega) hk, hT _ (by omega)]; exact a3 k hk
  · rw [h0 4 (by omega) (by omega)]; exact a4
  · rw [h0 5 (by omega) (by omega)]; exact a5
  · rw [h0 6 (by omega) (by omega)]; exact a6
  · rw [h0 7 (by omega) (by omega)]; exact a7
  · rw [h0 8 (by omega) (by omega)]; exact a8
  · rw [hT 21 (by omega)]; exact a9
  · rw [h2 3 5 (by omega) (by omega), h2 3 6 (by omega) (by omega), Int32.sub_add_cancel]
  · intro j hj g hg b hb hgb
    have e : pCC S' m' = pCC S m := by show (S' m' 4 0 4).toNatClampNeg = _; rw [h0 4 (by omega) (by omega)]
    have hc4 : pCC S m ≤ 4 := a4.2
    rw [e] at hg hb
    rw [(hC g (by omega)).2.2.1 1 j (by omega) hj, (hC b (by omega)).2.2.1 1 j (by omega) hj]
    exact hU j hj g hg b hb hgb
  · exact rCr_cong (hR g hg) (hC g hg) (h0 6 (by omega) (by omega)) (fun w hw => hT _ (by omega))
theorem rL_cong {S S' T T' : St} {m m' : Nat} (h : rL S m T) (hm : m ≠ 1) (hm' : m' ≠ 1) (h8 : T' 7 0 0 8 = 0) (hq : S' m' 4 4 7 = S m 4 4 7) (hq4 : pQ S m ≤ 400) (h5 : ∀ i k, 5 ≤ i → i ≤ 8 → k < pQ S m → S' m' 4 i k = S m 4 i k) (h9 : ∀ i k, i = 9 ∨ i = 10 → k < pQ S m * 8 → S' m' 4 i k = S m 4 i k) (hT : ∀ k, k < 8006 → T' 7 0 1 k = T 7 0 1 k) : rL S' m' T' := by
  obtain ⟨-, -, b, c⟩ := h.resolve_left (fun z => hm z.1)
  refine Or.inr ⟨hm', h8, by rw [hq, hT 21 (by omega)]; exact b, fun q hqq => ?_⟩
  have e : pQ S' m' = pQ S m := by show (S' m' 4 4 7).toNatClampNeg = _; rw [hq]
  rw [e] at hqq
  obtain ⟨d1, d2, d3, d4, d5, d6⟩ := c q hqq
  unfold rEn
  rw [h5 5 q (by omega) (by omega) hqq, h5 6 q (by omega) (by omega) hqq, h5 7 q (by omega) (by omega) hqq, h5 8 q (by omega) (by omega) hqq, hT _ (by omega), hT _ (by omega), hT _ (by omega)]
  refine ⟨d1, d2, d3, d4, d5, fun l hl => ?_⟩
  rw [h9 9 _ (by omega) (by omega), h9 10 _ (by omega) (by omega), hT _ (by omega), hT _ (by omega)]
  exact d6 l hl
theorem copy_rel {S T T' : St} {m m2 N : Nat} {A : Int32} (h : rel S m2 T N A) (hm2 : m2 ≠ 1) (hm : m ≠ 1) (hne : m ≠ m2) (h8 : T' 7 0 0 8 = 0) (hT : ∀ k, k < 8006 → T' 7 0 1 k = T 7 0 1 k) : ∃ A', rel (pCopyM S m m2) m T' N A' := by
  obtain ⟨c1, c2, c3, c4, c5, c6⟩ := copyM_at (S := S) hne
  have hq := h.1.2.2.2.2.2.2.2.2.2.1
  have hk : pKept S m m2 = pQ S m2 := by
    unfold pKept rmI
    rw [if_neg hm]
    have : pQ S m2 ≤ 400 := hq.2
    split <;> omega
  rw [hk] at c4 c5 c6
  have e7 : pCopyM S m m2 m 4 4 7 = S m2 4 4 7 := by rw [c4]; exact hq.1.symm
  exact rel_cong h c1 c2 c3 (by rw [e7]; exact hq) (fun k hk => hT k (by omega)) (rL_cong h.2.2.2 hm2 hm h8 e7 hq.2 c5 c6 hT)

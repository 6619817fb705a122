/-! the steps side by side -/
theorem rel_inc {S T : St} {m N : Nat} {A : Int32} {k : Nat} (h : rel S m T N A) (hk : k < 8) (h5 : k ≠ 5) (h6 : k ≠ 6) : rel (inc S m k) m (rBump T (13 + k)) N A := by
  obtain ⟨a1, a2, a3, a4, a5, a6, a7, a8, a9, a10, a11⟩ := h.1
  refine rel_mach h (fun g i q hg => by simp (disch := omega) only [inc, sF_eq, sF_ne]) (fun i q hi => by simp (disch := omega) only [inc, sF_eq, sF_ne]) (fun q hq => by simp (disch := omega) only [rBump, sF_eq, sF_ne]) (by simp (disch := omega) only [rBump, sF_eq, sF_ne]) (by simp (disch := omega) only [rBump, sF_eq, sF_ne]) (by simp (disch := omega) only [inc, sF_eq, sF_ne]) (by simp (disch := omega) only [inc, sF_eq, sF_ne]; exact Nat.le_refl _) (Nat.le_refl _) ?_
  unfold rG
  refine ⟨fun q hq => ?_, fun j hj => ?_, fun j hj => ?_, ?_⟩
  · simp (disch := omega) only [inc, rBump, sF_eq, sF_ne]; exact a1 q hq
  · simp (disch := omega) only [inc, rBump, sF_eq, sF_ne]; exact a2 j hj
  · by_cases hjk : j = k
    · subst hjk; simp (disch := omega) only [inc, rBump, sF_eq, sF_ne]; rw [a3 j hj]
    · simp (disch := omega) only [inc, rBump, sF_eq, sF_ne]; exact a3 j hj
  · simp (disch := omega) only [inc, rBump, sF_eq, sF_ne]; exact ⟨a4, a5, a6, a7, a8, a9, a10, a11⟩
theorem rel_incA {S T : St} {m N : Nat} {A : Int32} {k : Nat} (h : rel S m T N A) (hk : k = 5 ∨ k = 6) : rel (inc S m k) m (setF (rBump T (13 + k)) 7 0 0 13 (rBump T (13 + k) 7 0 0 13 + 1)) N A := by
  obtain ⟨a1, a2, a3, a4, a5, a6, a7, a8, a9, a10, a11⟩ := h.1
  refine rel_mach h (fun g i q hg => by simp (disch := omega) only [inc, sF_eq, sF_ne]) (fun i q hi => by simp (disch := omega) only [inc, sF_eq, sF_ne]) (fun q hq => by simp (disch := omega) only [rBump, sF_eq, sF_ne]) (by simp (disch := omega) only [rBump, sF_eq, sF_ne]) (by simp (disch := omega) only [rBump, sF_eq, sF_ne]) (by simp (disch := omega) only [inc, sF_eq, sF_ne]) (by simp (disch := omega) only [inc, sF_eq, sF_ne]; exact Nat.le_refl _) (Nat.le_refl _) ?_
  unfold rG
  refine ⟨fun q hq => ?_, fun j hj => ?_, fun j hj => ?_, ?_⟩
  · simp (disch := omega) only [inc, rBump, sF_eq, sF_ne]; exact a1 q hq
  · simp (disch := omega) only [inc, rBump, sF_eq, sF_ne]; exact a2 j hj
  · by_cases hjk : j = k
    · subst hjk; simp (disch := omega) only [inc, rBump, sF_eq, sF_ne]; rw [a3 j hj]
    · simp (disch := omega) only [inc, rBump, sF_eq, sF_ne]; exact a3 j hj
  · simp (disch := omega) only [inc, rBump, sF_eq, sF_ne]
    refine ⟨a4, a5, a6, a7, a8, a9, a10, ?_⟩
    rcases hk with rfl | rfl
    · simp (disch := omega) only [sF_eq, sF_ne]; rw [Int32.add_assoc, Int32.add_comm 1, ← Int32.add_assoc, a11, Int32.add_assoc]
    · simp (disch := omega) only [sF_eq, sF_ne]; rw [← Int32.add_assoc, a11, Int32.add_assoc]
/-! a roll-back -/
theorem rollL (S : St) (m g : Nat) : (∀ l, l < 8 → lp (pRollF m g) 8 0 S m g 1 l = if hasL (S m g 0 10) l = true then 0 else S m g 1 l) ∧ ∀ m' b i k, ¬ (m' = m ∧ b = g ∧ i = 1) → lp (pRollF m g) 8 0 S m' b i k = S m' b i k := by
  have h := lp_at (pRollF m g) (fun k T => (∀ l, l < k → T m g 1 l = if hasL (S m g 0 10) l = true then 0 else S m g 1 l) ∧ (∀ l, k ≤ l → T m g 1 l = S m g 1 l) ∧ ∀ m' b i k, ¬ (m' = m ∧ b = g ∧ i = 1) → T m' b i k = S m' b i k) 8 (fun k T hk ⟨p1, p2, p3⟩ => by
    have e : T m g 0 10 = S m g 0 10 := p3 _ _ _ _ (by omega)
    unfold pRollF
    rw [e]
    split
    · rename_i hb
      refine ⟨fun l hl => ?_, fun l hl => ?_, fun m' b i k2 hn => ?_⟩
      · by_cases hlk : l = k
        · subst hlk; simp (disch := omega) only [sF_eq, sF_ne]; rw [if_pos hb]
        · simp (disch := omega) only [sF_eq, sF_ne]; exact p1 l (by omega)
      · simp (disch := omega) only [sF_eq, sF_ne]; exact p2 l (by omega)
      · simp (disch := omega) only [sF_eq, sF_ne]; exact p3 _ _ _ _ hn
    · rename_i hb
      refine ⟨fun l hl => ?_, fun l hl => p2 l (by omega), p3⟩
      by_cases hlk : l = k
      · subst hlk; rw [p2 l (by omega), if_neg hb]
      · exact p1 l (by omega)) 8 0 S (by omega) ⟨fun l hl => by omega, fun l hl => rfl, fun _ _ _ _ _ => rfl⟩
  exact ⟨h.1, h.2.2⟩
theorem abL (T : St) (g : Nat) (hg : g < 4) : (∀ l, l < 8 → rOf (lp (rAbF g) 8 0 T) g (20 + l) = if rHas (rOf T g 8) (nI l) = true then 0 else rOf T g (20 + l)) ∧ (∀ l, l < 8 → rOf (lp (rAbF g) 8 0 T) g (28 + l) = if rHas (rOf T g 8) (nI l) = true then 0 else rOf T g (28 + l)) ∧ (∀ k, k < 22 + 96 * g + 20 ∨ 22 + 96 * g + 36 ≤ k → lp (rAbF g) 8 0 T 7 0 1 k = T 7 0 1 k) ∧ ∀ k, lp (rAbF g) 8 0 T 7 0 0 k = T 7 0 0 k := by
  have h := lp_at (rAbF g) (fun k U => (∀ l, l < k → rOf U g (20 + l) = if rHas (rOf T g 8) (nI l) = true then 0 else rOf T g (20 + l)) ∧ (∀ l, l < k → rOf U g (28 + l) = if rHas (rOf T g 8) (nI l) = true then 0 else rOf T g (28 + l)) ∧ (∀ l, k ≤ l → l < 8 → rOf U g (20 + l) = rOf T g (20 + l) ∧ rOf U g (28 + l) = rOf T g (28 + l)) ∧ (∀ k, k < 22 + 96 * g + 20 ∨ 22 + 96 * g + 36 ≤ k → U 7 0 1 k = T 7 0 1 k) ∧ ∀ k, U 7 0 0 k = T 7 0 0 k) 8 (fun k U hk ⟨p1, p2, p3, p4, p5⟩ => by
    have e : rOf U g 8 = rOf T g 8 := p4 _ (by omega)
    unfold rAbF
    rw [e]
    split
    · rename_i hb
      refine ⟨fun l hl => ?_, fun l hl => ?_, fun l hl hl8 => ?_, fun q hq => ?_, fun q => ?_⟩
      · by_cases hlk : l = k
        · subst hlk; simp (disch := omega) only [rPut, rBump, rOf, sF_eq, sF_ne]; rw [if_pos hb]
        · simp (disch := omega) only [rPut, rBump, rOf, sF_eq, sF_ne]; exact p1 l (by omega)
      · by_cases hlk : l = k
        · subst hlk; simp (disch := omega) only [rPut, rBump, rOf, sF_eq, sF_ne]; rw [if_pos hb]
        · simp (disch := omega) only [rPut, rBump, rOf, sF_eq, sF_ne]; exact p2 l (by omega)
      · simp (disch := omega) only [rPut, rBump, rOf, sF_eq, sF_ne]; exact p3 l (by omega) hl8
      · simp (disch := omega) only [rPut, rBump, rOf, sF_eq, sF_ne]; exact p4 q hq
      · simp (disch := omega) only [rPut, rBump, rOf, sF_eq, sF_ne]; exact p5 q
    · rename_i hb
      refine ⟨fun l hl => ?_, fun l hl => ?_, fun l hl hl8 => p3 l (by omega) hl8, p4, p5⟩
      · by_cases hlk : l = k
        · subst hlk; rw [(p3 l (by omega) (by omega)).1, if_neg hb]
        · exact p1 l (by omega)
      · by_cases hlk : l = k
        · subst hlk; rw [(p3 l (by omega) (by omega)).2, if_neg hb]
        · exact p2 l (by omega)) 8 0 T (by omega) ⟨fun l hl => by omega, fun l hl => by omega, fun l _ _ => ⟨rfl, rfl⟩, fun _ _ => rfl, fun _ => rfl⟩
  exact ⟨h.1, h.2.1, h.2.2.2.1, h.2.2.2.2⟩
def rAb1 (T : St) (a : Nat) : St :=
  rBump (rPut (rPut (rPut (rPut (rPut (rPut (lp (rAbF a) 8 0 T) a 1 (rOf (lp (rAbF a) 8 0 T) a 5)) a 0 (rOf (rPut (lp (rAbF a) 8 0 T) a 1 (rOf (lp (rAbF a) 8 0 T) a 5)) a 6)) a 7 0) a 8 0) a 11 0) a 3 0) (22 + 96 * a + 10)
theorem rAbort_1 (T : St) (a u : Nat) : rAbort T a u = setF (rBump (rAb1 T a) (13 + u)) 7 0 0 13 (rBump (rAb1 T a) (13 + u) 7 0 0 13 + 1) := rfl
theorem roll_ne {S : St} {m g m' b i k : Nat} (h : b ≠ g) : pRoll S m g m' b i k = S m' b i k := by
  simp (disch := omega) only [pRoll, pEndT, sF_eq, sF_ne]; exact (rollL S m g).2 _ _ _ _ (by omega)
theorem roll_core {S T : St} {m N : Nat} {A : Int32} {g : Nat} (h : rel S m T N A) (hg : g < 4) (ha : S m g 0 5 ≠ -1) : rel (pRoll S m g) m (rAb1 T g) N A := by
  have hL := rollL S m g
  have hR := abL T g hg
  have hC := h.2.2.1 g hg
  obtain ⟨hA, h1, h2, h3, hV, hP, hb⟩ := hC
  obtain ⟨c1, c2, c3, c4⟩ := h3
  obtain ⟨e7, e8, o7, l7, -⟩ := c4 ha
  obtain ⟨b9, b10, b11, o9, o10, o11⟩ := h2
  have e10 : rHas (rOf T g 8) = rHas (S m g 0 10) := by rw [b10]
  refine rel_core h hg (fun b i k hb => roll_ne hb) (fun k hk => ?_) (fun k => ?_) ?_ ⟨?_, ?_, ?_, ?_, ?_, ?_, ?_⟩
  · simp (disch := omega) only [rAb1, rPut, rBump, rOf, sF_eq, sF_ne]; exact hR.2.2.1 k (by omega)
  · simp (disch := omega) only [rAb1, rPut, rBump, rOf, sF_eq, sF_ne]; exact hR.2.2.2 k
  · have hcc : pCC (pRoll S m g) m = pCC S m := by show (pRoll S m g m 4 0 4).toNatClampNeg = _; rw [roll_ne (by omega)]
    have key : ∀ j, j < 8 → ∀ b, pRoll S m g m b 1 j = 2 → S m b 1 j = 2 := by
      intro j hj b
      by_cases hbg : b = g
      · subst hbg
        simp (disch := omega) only [pRoll, pEndT, sF_eq, sF_ne]
        rw [hL.1 j hj]
        split
        · intro z; exact absurd z (by decide)
        · exact id
      · rw [roll_ne hbg]; exact id
    intro j hj a ha b hb hab h2
    rw [hcc] at ha hb
    exact fun z => h.2.1 j hj a ha b hb hab (key j hj a h2) (key j hj b z)
  · unfold rA at *
    obtain ⟨q0, q1, q2, q3, q4⟩ := hA
    simp (disch := omega) only [rAb1, rPut, rBump, rOf, pRoll, pEndT, sF_eq, sF_ne]
    rw [hL.2 m g 0 7 (by omega), hL.2 m g 0 8 (by omega), hL.2 m g 3 2 (by omega), hL.2 m g 0 13 (by omega), hL.2 m g 0 14 (by omega), hR.2.2.1 (22 + 96 * g + 5) (by omega), hR.2.2.1 (22 + 96 * g + 6) (by omega), hR.2.2.1 (22 + 96 * g + 2) (by omega), hR.2.2.1 (22 + 96 * g + 9) (by omega), hR.2.2.1 (22 + 96 * g + 10) (by omega)]
    exact ⟨e8, e7, q2, q3, by rw [q4]⟩
  · unfold rT1 at *
    obtain ⟨q0, q1⟩ := h1
    simp (disch := omega) only [rAb1, rPut, rBump, rOf, pRoll, pEndT, sF_eq, sF_ne]
    rw [hR.2.2.1 (22 + 96 * g + 4) (by omega), hL.2 m g 0 5 (by omega)]
    rw [if_neg ha] at q1
    exact ⟨(if_pos trivial).symm, by rw [if_pos trivial]; exact q1⟩
  · unfold rT2
    simp (disch := omega) only [rAb1, rPut, rBump, rOf, pRoll, pEndT, sF_eq, sF_ne]
    exact ⟨trivial, trivial, trivial, ok8_0, ok8_0, ok8_0⟩
  · unfold rT3
    simp (disch := omega) only [rAb1, rPut, rBump, rOf, pRoll, pEndT, sF_eq, sF_ne]
    rw [hL.2 m g 0 5 (by omega)]
    exact ⟨fun _ => ⟨trivial, trivial, trivial⟩, c3, Or.inl trivial, fun z => by simp at z⟩
  · intro l hl
    obtain ⟨v1, v2, v3, v4, v5⟩ := hV l hl
    simp (disch := omega) only [rAb1, rPut, rBump, rOf, pRoll, pEndT, sF_eq, sF_ne]
    have r1 := hR.1 l hl
    have r2 := hR.2.1 l hl
    simp only [rOf] at r1 r2 v1 v3 b10
    rw [r1, r2, hL.1 l hl, ← b10, rH_C o10 hl, hL.2 m g 2 l (by omega)]
    split
    · rename_i hb
      exact ⟨rfl, okI_lit (k := 0) (by omega) (by omega) _ rfl, by rw [if_pos rfl], fun z => absurd z (by rw [hasL_0 hl]; decide), fun z => absurd z (by rw [hasL_0 hl]; decide)⟩
    · exact ⟨v1, v2, v3, fun z => absurd z (by rw [hasL_0 hl]; decide), fun z => absurd z (by rw [hasL_0 hl]; decide)⟩
  · obtain ⟨p1, p2, p3, p4⟩ := hP
    unfold rP pPs pLn at *
    simp (disch := omega) only [pRoll, pEndT, sF_eq, sF_ne]
    rw [hL.2 m g 3 2 (by omega), hL.2 m g 0 7 (by omega)]
    refine ⟨p1, o7, l7, fun k hk => ?_⟩
    have hk30 := p1.2
    simp (disch := omega) only [rAb1, rPut, rBump, rOf, pRoll, pEndT, sF_eq, sF_ne]
    rw [hL.2 m g 4 k (by omega), hL.2 m g 5 k (by omega), hR.2.2.1 (22 + 96 * g + (36 + 2 * k)) (by omega), hR.2.2.1 (22 + 96 * g + (36 + 2 * k + 1)) (by omega)]
    exact p4 k hk
  · unfold rB
    simp (disch := omega) only [pRoll, pEndT, sF_eq, sF_ne]
    rw [rSize_0]; exact Nat.zero_le _
theorem roll_rel {S T : St} {m N : Nat} {A : Int32} {g u : Nat} (h : rel S m T N A) (hg : g < 4) (ha : S m g 0 5 ≠ -1) (hu : u = 5 ∨ u = 6) : rel (inc (pRoll S m g) m u) m (rAbort T g u) N A := by
  rw [rAbort_1]
  exact rel_incA (roll_core h hg ha) hu

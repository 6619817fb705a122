/-! an entry of the log -/
theorem rel_lg {S S' T T' : St} {m N : Nat} {A : Int32} (h : rel S m T N A) (hS : ∀ b i k, ¬ (b = 4 ∧ 4 ≤ i) → S' m b i k = S m b i k) (hT : ∀ k, k < 406 → k ≠ 21 → T' 7 0 1 k = T 7 0 1 k) (h0 : ∀ k, T' 7 0 0 k = T 7 0 0 k) (h21 : okI (T' 7 0 1 21) 400) (hq : okI (S' m 4 4 7) 400) (hL : rL S' m T') : rel S' m T' N A := by
  obtain ⟨⟨a1, a2, a3, a4, a5, a6, a7, a8, a9, a10, a11⟩, hU, hR, -⟩ := h
  refine ⟨⟨fun k hk => ?_, fun k hk => ?_, fun k hk => ?_, ?_, ?_, ?_, ?_, ?_, h21, hq, ?_⟩, ?_, fun g hg => ?_, hL⟩
  · rw [hS 4 0 _ (by omega), hT k (by omega) (by omega)]; exact a1 k hk
  · rw [hS 4 2 _ (by omega), hT _ (by omega) (by omega)]; exact a2 k hk
  · rw [hS 4 3 _ (by omega), hT _ (by omega) (by omega)]; exact a3 k hk
  · rw [hS 4 0 _ (by omega)]; exact a4
  · rw [hS 4 0 _ (by omega)]; exact a5
  · rw [hS 4 0 _ (by omega)]; exact a6
  · rw [hS 4 0 _ (by omega)]; exact a7
  · rw [hS 4 0 _ (by omega)]; exact a8
  · rw [hS 4 3 _ (by omega), hS 4 3 _ (by omega), h0]; exact a11
  · intro j hj g hg b hb hgb
    have e : pCC S' m = pCC S m := by show (S' m 4 0 4).toNatClampNeg = _; rw [hS 4 0 4 (by omega)]
    rw [e] at hg hb
    rw [hS g 1 j (by omega), hS b 1 j (by omega)]
    exact hU j hj g hg b hb hgb
  · exact rCr_fr (hR g hg) (fun i k => hS g i k (by omega)) (fun w hw => hT _ (by omega) (by omega)) (by rw [hS 4 0 6 (by omega)]; exact Nat.le_refl _) (Nat.le_refl _)
theorem slogL {m q : Nat} {a b : Int32} {m1 g1 i1 m2 g2 i2 : Nat} (n1 : ¬ (g1 = 4 ∧ 4 ≤ i1)) (n2 : ¬ (g2 = 4 ∧ 4 ≤ i2)) (S : St) :
    (∀ l, l < 8 → lp (pLogF m q a m1 g1 i1 b m2 g2 i2) 8 0 S m 4 9 (q * 8 + l) = if hasL a l = true then S m1 g1 i1 l else 0) ∧ (∀ l, l < 8 → lp (pLogF m q a m1 g1 i1 b m2 g2 i2) 8 0 S m 4 10 (q * 8 + l) = if hasL b l = true then S m2 g2 i2 l else 0) ∧ ∀ m' c i k, ¬ (m' = m ∧ c = 4 ∧ (i = 9 ∨ i = 10) ∧ q * 8 ≤ k ∧ k < q * 8 + 8) → lp (pLogF m q a m1 g1 i1 b m2 g2 i2) 8 0 S m' c i k = S m' c i k := by
  have h := lp_at (pLogF m q a m1 g1 i1 b m2 g2 i2) (fun k T => (∀ l, l < k → T m 4 9 (q * 8 + l) = if hasL a l = true then S m1 g1 i1 l else 0) ∧ (∀ l, l < k → T m 4 10 (q * 8 + l) = if hasL b l = true then S m2 g2 i2 l else 0) ∧ ∀ m' c i k, ¬ (m' = m ∧ c = 4 ∧ (i = 9 ∨ i = 10) ∧ q * 8 ≤ k ∧ k < q * 8 + 8) → T m' c i k = S m' c i k) 8 (fun k T hk ⟨p1, p2, p3⟩ => by
    have e1 : T m1 g1 i1 k = S m1 g1 i1 k := p3 _ _ _ _ (by omega)
    have e2 : T m2 g2 i2 k = S m2 g2 i2 k := p3 _ _ _ _ (by omega)
    unfold pLogF
    refine ⟨fun l hl => ?_, fun l hl => ?_, fun m' c i k2 hn => ?_⟩
    · by_cases hlk : l = k
      · subst hlk; simp (disch := omega) only [sF_eq, sF_ne]; rw [e1]
      · simp (disch := omega) only [sF_eq, sF_ne]; exact p1 l (by omega)
    · by_cases hlk : l = k
      · subst hlk; simp (disch := omega) only [sF_eq, sF_ne]; rw [e2]
      · simp (disch := omega) only [sF_eq, sF_ne]; exact p2 l (by omega)
    · simp (disch := omega) only [sF_eq, sF_ne]; exact p3 _ _ _ _ hn) 8 0 S (by omega) ⟨fun l hl => by omega, fun l hl => by omega, fun _ _ _ _ _ => rfl⟩
  exact h
theorem rlogL {ev a : Nat} {x y : Int32} (hv : 406 ≤ ev) (ha : a < 4) (S : St) :
    (∀ l, l < 8 → lp (rLogF ev a x y) 8 0 S 7 0 1 (ev + 3 + l) = if rHas x (nI l) = true then rOf S a (12 + l) else 0) ∧ (∀ l, l < 8 → lp (rLogF ev a x y) 8 0 S 7 0 1 (ev + 11 + l) = if rHas y (nI l) = true then rOf S a (28 + l) else 0) ∧ (∀ i k, ¬ (i = 1 ∧ ev + 3 ≤ k ∧ k < ev + 19) → lp (rLogF ev a x y) 8 0 S 7 0 i k = S 7 0 i k) := by
  have h := lp_at (rLogF ev a x y) (fun k T => (∀ l, l < k → T 7 0 1 (ev + 3 + l) = if rHas x (nI l) = true then rOf S a (12 + l) else 0) ∧ (∀ l, l < k → T 7 0 1 (ev + 11 + l) = if rHas y (nI l) = true then rOf S a (28 + l) else 0) ∧ (∀ i k, ¬ (i = 1 ∧ ev + 3 ≤ k ∧ k < ev + 19) → T 7 0 i k = S 7 0 i k)) 8 (fun k T hk ⟨p1, p2, p3⟩ => by
    have e1 : rOf T a (12 + k) = rOf S a (12 + k) := p3 1 _ (by omega)
    have e2 : rOf T a (28 + k) = rOf S a (28 + k) := p3 1 _ (by omega)
    unfold rLogF
    refine ⟨fun l hl => ?_, fun l hl => ?_, fun i k2 hn => ?_⟩
    · by_cases hlk : l = k
      · subst hlk; simp (disch := omega) only [sF_eq, sF_ne]; rw [e1]
      · simp (disch := omega) only [sF_eq, sF_ne]; exact p1 l (by omega)
    · by_cases hlk : l = k
      · subst hlk; simp only [rOf] at e2; simp (disch := omega) only [rPut, rBump, rOf, sF_eq, sF_ne]; rw [e2]
      · simp (disch := omega) only [sF_eq, sF_ne]; exact p2 l (by omega)
    · simp (disch := omega) only [sF_eq, sF_ne]; exact p3 _ _ hn) 8 0 S (by omega) ⟨fun l hl => by omega, fun l hl => by omega, fun _ _ _ => rfl⟩
  exact h
theorem rel_q {S T : St} {m N : Nat} {A : Int32} (h : rel S m T N A) : (m = 1 ∧ T 7 0 0 8 = 1) ∨ (m ≠ 1 ∧ T 7 0 0 8 = 0 ∧ pQ S m = rQ T ∧ pQ S m ≤ 400 ∧ S m 4 4 7 = nI (pQ S m) ∧ T 7 0 1 21 = nI (rQ T)) := by
  rcases h.2.2.2 with ⟨a, b⟩ | ⟨a, b, c, d⟩
  · exact Or.inl ⟨a, b⟩
  · exact Or.inr ⟨a, b, by show (S m 4 4 7).toNatClampNeg = (T 7 0 1 21).toNatClampNeg; rw [c], h.1.2.2.2.2.2.2.2.2.2.1.2, h.1.2.2.2.2.2.2.2.2.2.1.1, h.1.2.2.2.2.2.2.2.2.1.1⟩
/-- an entry is added -/
theorem log_rel {S T : St} {m N g : Nat} {A t a b : Int32} {m1 g1 i1 m2 g2 i2 : Nat} (h : rel S m T N A) (hg : g < 4) (n1 : ¬ (g1 = 4 ∧ 4 ≤ i1)) (n2 : ¬ (g2 = 4 ∧ 4 ≤ i2)) (oa : ok8 a) (ob : ok8 b) (va : ∀ l, l < 8 → hasL a l = true → S m1 g1 i1 l = rOf T g (12 + l)) (vb : ∀ l, l < 8 → hasL b l = true → S m2 g2 i2 l = rOf T g (28 + l)) :
    rel (pAddE S m (nI g) t a m1 g1 i1 b m2 g2 i2) m (rLog T g t a b) N A ∧ (∀ m' c i k, ¬ (m' = m ∧ c = 4 ∧ 4 ≤ i) → pAddE S m (nI g) t a m1 g1 i1 b m2 g2 i2 m' c i k = S m' c i k) ∧ ∀ i k, ¬ (i = 1 ∧ (k = 21 ∨ 406 ≤ k)) → rLog T g t a b 7 0 i k = T 7 0 i k := by
  rcases rel_q h with ⟨hm, h8⟩ | ⟨hm, h8, hqq, hq4, hqS, hqT⟩
  · have e1 : pAddE S m (nI g) t a m1 g1 i1 b m2 g2 i2 = S := by unfold pAddE; rw [if_neg (by rw [hm]; unfold rmI; rw [if_pos rfl]; omega)]
    have e2 : rLog T g t a b = T := by unfold rLog; rw [if_neg (by rw [h8]; decide)]
    rw [e1, e2]
    exact ⟨h, fun _ _ _ _ _ => rfl, fun _ _ _ => rfl⟩
  · have hrm : rmI m = 400 := by unfold rmI; rw [if_neg hm]
    by_cases hfull : pQ S m = 400
    · have e1 : pAddE S m (nI g) t a m1 g1 i1 b m2 g2 i2 = S := by unfold pAddE; rw [if_neg (by omega)]
      have e2 : rLog T g t a b = T := by unfold rLog; rw [if_pos h8, if_pos (by omega)]
      rw [e1, e2]
      exact ⟨h, fun _ _ _ _ _ => rfl, fun _ _ _ => rfl⟩
    · have hlt : pQ S m < 400 := by omega
      have e2 : rLog T g t a b = rBump (lp (rLogF (406 + 19 * rQ T) g a b) 8 0 (rLogH T (nI g) t a b)) 21 := by unfold rLog; rw [if_pos h8, if_neg (by omega)]
      unfold pAddE
      rw [if_pos (by omega), e2]
      obtain ⟨s1, s2, s3⟩ := slogL (m := m) (q := pQ S m) (a := a) (b := b) (m1 := m1) (g1 := g1) (i1 := i1) (m2 := m2) (g2 := g2) (i2 := i2) n1 n2 (setF (setF (setF (setF S m 4 5 (pQ S m) (nI g)) m 4 6 (pQ S m) t) m 4 7 (pQ S m) a) m 4 8 (pQ S m) b)
      obtain ⟨r1, r2, r3⟩ := rlogL (ev := 406 + 19 * rQ T) (a := g) (x := a) (y := b) (by omega) hg (rLogH T (nI g) t a b)
      generalize hL1 : lp (pLogF m (pQ S m) a m1 g1 i1 b m2 g2 i2) 8 0 (setF (setF (setF (setF S m 4 5 (pQ S m) (nI g)) m 4 6 (pQ S m) t) m 4 7 (pQ S m) a) m 4 8 (pQ S m) b) = L1 at *
      generalize hL2 : lp (rLogF (406 + 19 * rQ T) g a b) 8 0 (rLogH T (nI g) t a b) = L2 at *
      have fS : ∀ m' c i k, ¬ (m' = m ∧ c = 4 ∧ 4 ≤ i) → setF L1 m 4 4 7 (nI (pQ S m + 1)) m' c i k = S m' c i k := by
        intro m' c i k hn
        simp (disch := omega) only [sF_eq, sF_ne]
        rw [s3 _ _ _ _ (by omega)]
        simp (disch := omega) only [sF_eq, sF_ne]
      have fT : ∀ i k, ¬ (i = 1 ∧ (k = 21 ∨ 406 ≤ k)) → rBump L2 21 7 0 i k = T 7 0 i k := by
        intro i k hn
        simp (disch := omega) only [rBump, sF_eq, sF_ne]
        rw [r3 _ _ (by omega)]
        simp (disch := omega) only [rLogH, sF_eq, sF_ne]
      have f21 : L2 7 0 1 21 = nI (rQ T) := by
        rw [r3 _ _ (by omega)]
        simp (disch := omega) only [rLogH, sF_eq, sF_ne]; exact hqT
      refine ⟨rel_lg h (fun c i k hn => fS m c i k (by omega)) (fun k hk h21 => fT 1 k (by omega)) (fun k => fT 0 k (by omega)) ?_ ?_ (Or.inr ⟨hm, ?_, ?_, fun q hq => ?_⟩), fS, fT⟩
      · simp (disch := omega) only [rBump, sF_eq, sF_ne]; rw [f21, nI_1]; exact okI_nI (by omega) (by omega)
      · simp (disch := omega) only [sF_eq, sF_ne]; exact okI_nI (by omega) (by omega)
      · rw [fT 0 8 (by omega)]; exact h8
      · simp (disch := omega) only [rBump, sF_eq, sF_ne]; rw [f21, nI_1, hqq]
      · have eq1 : pQ (setF L1 m 4 4 7 (nI (pQ S m + 1))) m = pQ S m + 1 := by
          show (setF L1 m 4 4 7 (nI (pQ S m + 1)) m 4 4 7).toNatClampNeg = _
          simp (disch := omega) only [sF_eq, sF_ne]; exact nI_clamp (by omega)
        rw [eq1] at hq
        by_cases hqe : q = pQ S m
        · subst hqe
          unfold rEn
          simp (disch := omega) only [rBump, sF_eq, sF_ne]
          rw [s3 m 4 5 _ (by omega), s3 m 4 6 _ (by omega), s3 m 4 7 _ (by omega), s3 m 4 8 _ (by omega), hqq, r3 1 _ (by omega), r3 1 _ (by omega), r3 1 _ (by omega)]
          simp (disch := omega) only [rLogH, sF_eq, sF_ne]
          refine ⟨trivial, trivial, trivial, oa, ob, fun l hl => ?_⟩
          have x1 := s1 l hl
          have x2 := s2 l hl
          have x3 := r1 l hl
          have x4 := r2 l hl
          rw [hqq] at x1 x2
          rw [x1, x2, x3, x4, rH_C oa hl, rH_C ob hl]
          simp (disch := omega) only [rLogH, rOf, sF_eq, sF_ne]
          refine ⟨?_, ?_⟩
          · split
            · rename_i z; exact va l hl z
            · rfl
          · split
            · rename_i z; exact vb l hl z
            · rfl
        · have hqlt : q < pQ S m := by omega
          obtain ⟨-, -, -, ent⟩ := (h.2.2.2).resolve_left (fun z => hm z.1)
          obtain ⟨d1, d2, d3, d4, d5, d6⟩ := ent q hqlt
          unfold rEn
          simp (disch := omega) only [rBump, sF_eq, sF_ne]
          rw [s3 m 4 5 _ (by omega), s3 m 4 6 _ (by omega), s3 m 4 7 _ (by omega), s3 m 4 8 _ (by omega), r3 1 _ (by omega), r3 1 _ (by omega), r3 1 _ (by omega)]
          simp (disch := omega) only [rLogH, sF_eq, sF_ne]
          refine ⟨d1, d2, d3, d4, d5, fun l hl => ?_⟩
          rw [s3 m 4 9 _ (by omega), s3 m 4 10 _ (by omega), r3 1 _ (by omega), r3 1 _ (by omega)]
          simp (disch := omega) only [rLogH, sF_eq, sF_ne]
          exact d6 l hl

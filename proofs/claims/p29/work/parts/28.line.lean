/-! the other caches, and taking a line over -/
theorem st_eq {S T : St} {m N g j : Nat} {A : Int32} (h : rel S m T N A) (hg : g < 4) (hj : j < 8) : rOf T g (20 + j) = S m g 1 j := by
  obtain ⟨-, -, -, -, hV, -, -⟩ := h.2.2.1 g hg
  exact (hV j hj).1.symm
theorem wbe_rel {S T : St} {m N g j : Nat} {A : Int32} (h : rel S m T N A) (hj : j < 8) (hno : ∀ o, o < pCC S m → o ≠ g → hasL (S m o 0 10) j = false) :
    rel (pWbe S m g j) m (rCol T g j) N A ∧ (∀ o, o < pCC S m → o ≠ g → pWbe S m g j m o 1 j ≠ 2) ∧ (∀ i q, pWbe S m g j m g i q = S m g i q ∨ g = 4) ∧ (∀ b i q, b < 4 → i ≠ 1 → pWbe S m g j m b i q = S m b i q) ∧ ∀ i q, i ≠ 2 → i ≠ 3 → pWbe S m g j m 4 i q = S m 4 i q := by
  obtain ⟨hc, hc4⟩ := cc_eq h
  have key := lp_rel (pWbeF m g j) (rColF g j) (fun k U V => rel U m V N A ∧ (∀ o, o < k → o ≠ g → U m o 1 j ≠ 2) ∧ (∀ i q, U m g i q = S m g i q ∨ g = 4) ∧ (∀ b i q, b < 4 → i ≠ 1 → U m b i q = S m b i q) ∧ ∀ i q, i ≠ 2 → i ≠ 3 → U m 4 i q = S m 4 i q) (pCC S m) (fun k U V hk ⟨q1, q2, q3, q4, q5⟩ => by
    have hk4 : k < 4 := by omega
    unfold pWbeF rColF
    by_cases hkg : k = g
    · rw [if_pos hkg, if_pos hkg]
      exact ⟨q1, fun o ho hog => q2 o (by omega) hog, q3, q4, q5⟩
    · rw [if_neg hkg, if_neg hkg, st_eq q1 hk4 hj]
      by_cases hs : U m k 1 j = 2
      · rw [if_pos hs, if_pos hs]
        have e1 : pWB U m k j m k 1 j = 2 := by simp (disch := omega) only [pWB, inc, sF_eq, sF_ne]; exact hs
        have e2 : hasL (pWB U m k j m k 0 10) j = false := by
          have : pWB U m k j m k 0 10 = S m k 0 10 := by simp (disch := omega) only [pWB, inc, sF_eq, sF_ne]; exact q4 k 0 10 hk4 (by omega)
          rw [this]; exact hno k hk hkg
        refine ⟨rel_st (rel_wb q1 hk4 hj (by rw [hs]; decide)) hk4 hj (okI_lit (k := 1) (by omega) (by omega) 1 rfl) (by decide) (by rw [e1]; decide) (Or.inr e2) (fun z => absurd z (by decide)), fun o ho hog => ?_, fun i q => ?_, fun b i q hb hi => ?_, fun i q h2 h3 => ?_⟩
        · by_cases hok : o = k
          · subst hok; simp (disch := omega) only [pWB, inc, sF_eq, sF_ne]; decide
          · simp (disch := omega) only [pWB, inc, sF_eq, sF_ne]; exact q2 o (by omega) hog
        · by_cases hg4 : g = 4
          · exact Or.inr hg4
          · have := q3 i q
            simp (disch := omega) only [pWB, inc, sF_eq, sF_ne]; exact this
        · simp (disch := omega) only [pWB, inc, sF_eq, sF_ne]; exact q4 b i q hb hi
        · simp (disch := omega) only [pWB, inc, sF_eq, sF_ne]; exact q5 i q h2 h3
      · rw [if_neg hs, if_neg hs]
        refine ⟨q1, fun o ho hog => ?_, q3, q4, q5⟩
        by_cases hok : o = k
        · subst hok; exact hs
        · exact q2 o (by omega) hog) (pCC S m) 0 S T (by omega) ⟨h, fun o ho => by omega, fun _ _ => Or.inl rfl, fun _ _ _ _ _ => rfl, fun _ _ _ _ => rfl⟩
  have er : rCol T g j = lp (rColF g j) (pCC S m) 0 T := by unfold rCol; rw [hc]
  have ep : pWbe S m g j = lp (pWbeF m g j) (pCC S m) 0 S := rfl
  rw [er, ep]
  obtain ⟨k1, k2, k3, k4, k5⟩ := key
  exact ⟨k1, fun o ho hog => k2 o (by omega) hog, k3, k4, k5⟩
theorem tak_rel {S T : St} {m N g j n : Nat} {A : Int32} (h : rel S m T N A) (hj : j < 8) (hn : n ≤ 4) (hno : ∀ o, o < n → o ≠ g → hasL (S m o 0 10) j = false) :
    rel (lp (pTakF m g j) n 0 S) m (lp (rOwnF g j) n 0 T) N A ∧ (∀ o, o < n → o ≠ g → lp (pTakF m g j) n 0 S m o 1 j = 0) ∧ (∀ i q, lp (pTakF m g j) n 0 S m g i q = S m g i q ∨ g = 4) ∧ (∀ b i q, b < 4 → i ≠ 1 → lp (pTakF m g j) n 0 S m b i q = S m b i q) ∧ ∀ i q, i ≠ 3 → lp (pTakF m g j) n 0 S m 4 i q = S m 4 i q := by
  have key := lp_rel (pTakF m g j) (rOwnF g j) (fun k U V => rel U m V N A ∧ (∀ o, o < k → o ≠ g → U m o 1 j = 0) ∧ (∀ i q, U m g i q = S m g i q ∨ g = 4) ∧ (∀ b i q, b < 4 → i ≠ 1 → U m b i q = S m b i q) ∧ ∀ i q, i ≠ 3 → U m 4 i q = S m 4 i q) n (fun k U V hk ⟨q1, q2, q3, q4, q5⟩ => by
    have hk4 : k < 4 := by omega
    unfold pTakF rOwnF
    by_cases hkg : k = g
    · rw [if_pos hkg, if_pos hkg]
      exact ⟨q1, fun o ho hog => q2 o (by omega) hog, q3, q4, q5⟩
    · rw [if_neg hkg, if_neg hkg, st_eq q1 hk4 hj]
      by_cases hs : U m k 1 j = 0
      · rw [if_pos hs, if_pos hs]
        refine ⟨q1, fun o ho hog => ?_, q3, q4, q5⟩
        by_cases hok : o = k
        · subst hok; exact hs
        · exact q2 o (by omega) hog
      · rw [if_neg hs, if_neg hs]
        have e2 : hasL (U m k 0 10) j = false := by rw [q4 k 0 10 hk4 (by omega)]; exact hno k hk hkg
        refine ⟨rel_inc (k := 3) (rel_inv q1 hk4 hj e2) (by omega) (by omega) (by omega), fun o ho hog => ?_, fun i q => ?_, fun b i q hb hi => ?_, fun i q h3 => ?_⟩
        · by_cases hok : o = k
          · subst hok; simp (disch := omega) only [inc, sF_eq, sF_ne]
          · simp (disch := omega) only [inc, sF_eq, sF_ne]; exact q2 o (by omega) hog
        · by_cases hg4 : g = 4
          · exact Or.inr hg4
          · have := q3 i q
            simp (disch := omega) only [inc, sF_eq, sF_ne]; exact this
        · simp (disch := omega) only [inc, sF_eq, sF_ne]; exact q4 b i q hb hi
        · simp (disch := omega) only [inc, sF_eq, sF_ne]; exact q5 i q h3) n 0 S T (by omega) ⟨h, fun o ho => by omega, fun _ _ => Or.inl rfl, fun _ _ _ _ _ => rfl, fun _ _ _ => rfl⟩
  obtain ⟨k1, k2, k3, k4, k5⟩ := key
  exact ⟨k1, fun o ho hog => k2 o (by omega) hog, k3, k4, k5⟩
theorem put_over {T : St} {g j : Nat} {v x y : Int32} : rPut (rPut (rPut T g (28 + j) y) g (20 + j) v) g (28 + j) x = rPut (rPut T g (20 + j) v) g (28 + j) x := by
  funext a b c d
  simp only [rPut, setF_at]
  repeat' split
  all_goals first | rfl | omega
/-- a line that is not modified is taken over and written -/
theorem over_rel {S T : St} {m N g j : Nat} {A x : Int32} (h : rel S m T N A) (hg : g < pCC S m) (hj : j < 8) (hno : ∀ o, o < pCC S m → o ≠ g → hasL (S m o 0 10) j = false) :
    rel (setF (pOver S m g j) m g 2 j x) m (rPut (rOwn T g j) g (28 + j) x) N A ∧ (∀ i q, i ≠ 1 → pOver S m g j m g i q = S m g i q) ∧ pOver S m g j m g 1 j = 2 ∧ ∀ i q, i ≠ 2 → i ≠ 3 → pOver S m g j m 4 i q = S m 4 i q := by
  obtain ⟨hc, hc4⟩ := cc_eq h
  have hg4 : g < 4 := by omega
  have go : ∀ (S1 T1 : St), rel S1 m T1 N A → (∀ b i q, b < 4 → S1 m b i q = S m b i q) → (∀ i q, i ≠ 3 → S1 m 4 i q = S m 4 i q) → ∀ (V : St), (V = lp (rOwnF g j) (rCC (rCol T1 g j)) 0 (rCol T1 g j) ∨ ∃ y, V = rPut (lp (rOwnF g j) (rCC (rCol T1 g j)) 0 (rCol T1 g j)) g (28 + j) y) →
      rel (setF (setF (lp (pTakF m g j) (pCC (pWbe S1 m g j) m) 0 (pWbe S1 m g j)) m g 1 j 2) m g 2 j x) m (rPut (rPut V g (20 + j) 2) g (28 + j) x) N A ∧ (∀ i q, i ≠ 1 → setF (lp (pTakF m g j) (pCC (pWbe S1 m g j) m) 0 (pWbe S1 m g j)) m g 1 j 2 m g i q = S m g i q) ∧ setF (lp (pTakF m g j) (pCC (pWbe S1 m g j) m) 0 (pWbe S1 m g j)) m g 1 j 2 m g 1 j = 2 ∧ ∀ i q, i ≠ 2 → i ≠ 3 → setF (lp (pTakF m g j) (pCC (pWbe S1 m g j) m) 0 (pWbe S1 m g j)) m g 1 j 2 m 4 i q = S m 4 i q := by
    intro S1 T1 h1 f1 f2 V hV
    have e1 : pCC S1 m = pCC S m := by show (S1 m 4 0 4).toNatClampNeg = _; rw [f2 0 4 (by omega)]
    obtain ⟨w1, w2, w3, w4, w5⟩ := wbe_rel (g := g) (j := j) h1 hj (fun o ho hog => by rw [f1 o 0 10 (by omega)]; exact hno o (by omega) hog)
    obtain ⟨hc2, hc24⟩ := cc_eq w1
    have e2 : pCC (pWbe S1 m g j) m = pCC S m := by rw [← e1]; show (pWbe S1 m g j m 4 0 4).toNatClampNeg = _; rw [w5 0 4 (by omega) (by omega)]
    obtain ⟨t1, t2, t3, t4, t5⟩ := tak_rel (g := g) (j := j) (n := pCC (pWbe S1 m g j) m) w1 hj hc24 (fun o ho hog => by rw [w4 o 0 10 (by omega) (by omega), f1 o 0 10 (by omega)]; exact hno o (by omega) hog)
    rw [hc2] at t1
    have e3 : pCC (lp (pTakF m g j) (pCC (pWbe S1 m g j) m) 0 (pWbe S1 m g j)) m = pCC S m := by rw [← e2]; show (lp (pTakF m g j) (pCC (pWbe S1 m g j) m) 0 (pWbe S1 m g j) m 4 0 4).toNatClampNeg = _; rw [t5 0 4 (by omega)]
    refine ⟨?_, fun i q hi => ?_, ?_, fun i q h2 h3 => ?_⟩
    · rw [hc2] at *
      have fin := rel_line (v := 2) (v' := 2) (x := x) (x' := x) t1 hg4 hj (okI_lit (k := 2) (by omega) (by omega) 2 rfl) (by rw [if_neg (by decide)]) rfl (Or.inl rfl) (fun _ o ho hog => by rw [t2 o (by omega) hog]; decide)
      rcases hV with rfl | ⟨y, rfl⟩
      · exact fin
      · rw [put_over]; exact fin
    · simp (disch := omega) only [sF_eq, sF_ne]; rw [t4 g i q hg4 hi, w4 g i q hg4 hi, f1 g i q hg4]
    · simp (disch := omega) only [sF_eq, sF_ne]
    · simp (disch := omega) only [sF_eq, sF_ne]; rw [t5 i q h3, w5 i q h2 h3, f2 i q h3]
  unfold pOver rOwn
  rw [st_eq h hg4 hj]
  by_cases hs : S m g 1 j = 0
  · simp only [if_pos hs]
    exact go (inc S m 1) (rBump T 14) (rel_inc (k := 1) h (by omega) (by omega) (by omega)) (fun b i q hb => by simp (disch := omega) only [inc, sF_eq, sF_ne]) (fun i q hi => by simp (disch := omega) only [inc, sF_eq, sF_ne]) _ (Or.inr ⟨_, rfl⟩)
  · simp only [if_neg hs]
    exact go (inc S m 2) (rBump T 15) (rel_inc (k := 2) h (by omega) (by omega) (by omega)) (fun b i q hb => by simp (disch := omega) only [inc, sF_eq, sF_ne]) (fun i q hi => by simp (disch := omega) only [inc, sF_eq, sF_ne]) _ (Or.inl rfl)
/-- a line gets into a write set -/
theorem wr_rel {S T : St} {m N g j : Nat} {A : Int32} (h : rel S m T N A) (hg : g < 4) (hj : j < 8) (hst : S m g 1 j = 2) (ha : S m g 0 5 ≠ -1) (hsz : (rSize (S m g 0 10 ||| 1 <<< (nI j &&& 31))).toNatClampNeg ≤ (S m 4 0 6).toNatClampNeg) : rel (setF S m g 0 10 (S m g 0 10 ||| 1 <<< (nI j &&& 31))) m (rPut T g 8 (rOf T g 8 ||| 1 <<< (nI j &&& 31))) N A := by
  obtain ⟨hA, h1, h2, h3, hV, hP, hb⟩ := h.2.2.1 g hg
  refine rel_core h hg (fun b i k hb => by simp (disch := omega) only [sF_eq, sF_ne]) (fun k hk => by simp (disch := omega) only [rPut, rBump, rOf, sF_eq, sF_ne]) (fun k => by simp (disch := omega) only [rPut, rBump, rOf, sF_eq, sF_ne]) ?_ ⟨?_, ?_, ?_, ?_, ?_, ?_, ?_⟩
  · intro l hl c hcl d hdl hcd
    have hcc : pCC (setF S m g 0 10 (S m g 0 10 ||| 1 <<< (nI j &&& 31))) m = pCC S m := by show (setF S m g 0 10 _ m 4 0 4).toNatClampNeg = _; simp (disch := omega) only [sF_eq, sF_ne]
    rw [hcc] at hcl hdl
    simp (disch := omega) only [sF_eq, sF_ne]
    exact h.2.1 l hl c hcl d hdl hcd
  · unfold rA at *; simp (disch := omega) only [rPut, rBump, rOf, sF_eq, sF_ne]; exact hA
  · unfold rT1 at *; simp (disch := omega) only [rPut, rBump, rOf, sF_eq, sF_ne]; exact h1
  · obtain ⟨b9, b10, b11, o9, o10, o11⟩ := h2
    unfold rT2; simp (disch := omega) only [rPut, rBump, rOf, sF_eq, sF_ne]
    exact ⟨b9, by rw [b10], b11, o9, ok8_or o10 (ok8_1 hj), o11⟩
  · obtain ⟨c1, c2, c3, c4⟩ := h3
    unfold rT3; simp (disch := omega) only [rPut, rBump, rOf, sF_eq, sF_ne]
    exact ⟨fun z => absurd z ha, c2, c3, c4⟩
  · intro l hl
    obtain ⟨v1, v2, v3, v4, v5⟩ := hV l hl
    simp (disch := omega) only [rPut, rBump, rOf, sF_eq, sF_ne]
    refine ⟨v1, v2, v3, fun z => ?_, v5⟩
    rw [hasL_or h2.2.2.2.2.1 (ok8_1 hj) hl, hasL_1 hj hl] at z
    by_cases hlj : l = j
    · subst hlj; exact hst
    · rw [decide_eq_false hlj, Bool.or_false] at z; exact v4 z
  · obtain ⟨p1, p2, p3, p4⟩ := hP
    unfold rP pPs pLn at *
    simp (disch := omega) only [sF_eq, sF_ne]
    exact ⟨p1, p2, p3, fun k hk => p4 k hk⟩
  · unfold rB; simp (disch := omega) only [sF_eq, sF_ne]; exact hsz
theorem or_same {x : Int32} (hx : ok8 x) {j : Nat} (hj : j < 8) (h : hasL x j = true) : x ||| 1 <<< (nI j &&& 31) = x := by
  obtain ⟨a, ha, rfl⟩ := hx
  have key : ∀ a, a < 256 → ∀ j, j < 8 → a.testBit j = true → nI a ||| 1 <<< (nI j &&& 31) = nI a := by decide +kernel
  rw [hasL, pC_tb a ha j hj] at h
  exact key a ha j hj h

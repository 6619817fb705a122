/-! conflicts and lines -/
theorem act_iff {S T : St} {m g : Nat} (h1 : rT1 S m T g) : (rOf T g 3 = 1 ↔ S m g 0 5 ≠ -1) ∧ (rOf T g 3 = 0 ↔ S m g 0 5 = -1) := by
  rw [h1.1]
  by_cases h : S m g 0 5 = -1
  · rw [if_pos h]; exact ⟨⟨fun z => absurd z (by decide), fun z => absurd h z⟩, ⟨fun _ => h, fun _ => rfl⟩⟩
  · rw [if_neg h]; exact ⟨⟨fun _ => h, fun _ => rfl⟩, ⟨fun z => absurd z (by decide), fun z => absurd z h⟩⟩
theorem hurt_eq {S T : St} {m N g j : Nat} {w : Bool} (h : rCr S m T N g) (hj : j < 8) : pHurt S m g (nI j) w = rWay T g (nI j) w ∧ (pHurt S m g (nI j) w = true → S m g 0 5 ≠ -1) := by
  obtain ⟨hA, h1, h2, h3, hV, hP, hb⟩ := h
  obtain ⟨b9, b10, b11, o9, o10, o11⟩ := h2
  have ha := act_iff h1
  unfold pHurt rWay
  by_cases hi : S m g 0 5 = -1
  · obtain ⟨z9, z10, z11⟩ := h3.1 hi
    have e : pContains (if w = true then S m g 0 9 ||| S m g 0 10 else S m g 0 10) (nI j) = false := by
      cases w
      · rw [if_neg (by decide), z10]; exact hasL_0 hj
      · rw [if_pos rfl, z9, z10]; rw [show (0 : Int32) ||| 0 = 0 from rfl]; exact hasL_0 hj
    rw [e, ha.2.mpr hi]
    exact ⟨rfl, fun z => absurd z (by decide)⟩
  · rw [ha.1.mpr hi, ← b9, ← b10]
    refine ⟨?_, fun _ => hi⟩
    cases w
    · rw [if_neg (by decide), if_neg (by decide)]
      have e : S m g 0 10 ||| 0 = S m g 0 10 := by
        obtain ⟨a, ha8, e⟩ := o10
        rw [e, show (0 : Int32) = nI 0 from rfl, nI_or8 a ha8 0 (by omega), Nat.or_zero]
      rw [e, rH_C o10 hj]; rfl
    · rw [if_pos rfl, if_pos rfl, rH_C (ok8_or o10 o9) hj]
      show hasL _ j = (_ && hasL _ j)
      rw [hasL_or o9 o10 hj, hasL_or o10 o9 hj, Bool.or_comm]; rfl
theorem pol3 {x : Int32} (h : okI x 2) : x = 0 ∨ x = 1 ∨ x = 2 := by
  obtain ⟨k, hk, e⟩ := okI_ex h
  have : k = 0 ∨ k = 1 ∨ k = 2 := by omega
  rcases this with rfl | rfl | rfl
  · exact Or.inl e
  · exact Or.inr (Or.inl e)
  · exact Or.inr (Or.inr e)
theorem wins_eq {S T : St} {m N g o : Nat} {A : Int32} (h : rel S m T N A) (hg : g < 4) (ho : o < 4) (hao : S m o 0 5 ≠ -1) : pWins S m g o = rWins T g o := by
  obtain ⟨-, h1, -, -, -, -, -⟩ := h.2.2.1 g hg
  obtain ⟨-, h1o, -, -, -, -, -⟩ := h.2.2.1 o ho
  have ha := act_iff h1
  have eo : rOf T o 4 = S m o 0 5 := by rw [h1o.2, if_neg hao]
  have ep : S m 4 0 5 = T 7 0 1 1 := h.1.1 1 (by omega)
  have hp := pol3 h.1.2.2.2.2.1
  unfold pWins rWins pInT
  by_cases hi : S m g 0 5 = -1
  · rw [ha.2.mpr hi, hi]; simp
  · have eg : rOf T g 4 = S m g 0 5 := by rw [h1.2, if_neg hi]
    have e3 : rOf T g 3 = 1 := ha.1.mpr hi
    rw [e3, eg, eo, ← ep]
    have en : decide (S m g 0 5 = -1) = false := decide_eq_false hi
    rw [en]
    rcases hp with e | e | e
    · rw [e]; simp
    · rw [e]; simp
    · rw [e]; simp
theorem cc_eq {S T : St} {m N : Nat} {A : Int32} (h : rel S m T N A) : pCC S m = rCC T ∧ pCC S m ≤ 4 := by
  have e : S m 4 0 4 = T 7 0 1 0 := h.1.1 0 (by omega)
  refine ⟨?_, h.1.2.2.2.1.2⟩
  show (S m 4 0 4).toNatClampNeg = (T 7 0 1 0).toNatClampNeg
  rw [e]
theorem hurt_ne {S : St} {m k o u j : Nat} {w : Bool} (ho : o ≠ k) (ho4 : o < 4) : pHurt (inc (pRoll S m k) m u) m o (nI j) w = pHurt S m o (nI j) w := by
  unfold pHurt
  simp (disch := omega) only [inc, sF_eq, sF_ne]
  rw [roll_ne ho, roll_ne ho]
theorem hurt_roll {S : St} {m k u j : Nat} {w : Bool} (hk : k < 4) (hj : j < 8) : pHurt (inc (pRoll S m k) m u) m k (nI j) w = false := by
  unfold pHurt
  have e9 : inc (pRoll S m k) m u m k 0 9 = 0 := by simp (disch := omega) only [inc, pRoll, pEndT, sF_eq, sF_ne]
  have e10 : inc (pRoll S m k) m u m k 0 10 = 0 := by simp (disch := omega) only [inc, pRoll, pEndT, sF_eq, sF_ne]
  rw [e9, e10]
  cases w
  · rw [if_neg (by decide)]; exact hasL_0 hj
  · rw [if_pos rfl, show (0 : Int32) ||| 0 = 0 from rfl]; exact hasL_0 hj
theorem wc_rel {S T : St} {m N g j : Nat} {A : Int32} {w : Bool} (h : rel S m T N A) (hg : g < 4) (hj : j < 8) :
    ((pWc S m g j w).1 = true ∧ (rRes T g j w).1 = true ∧ rel (pWc S m g j w).2 m (rRes T g j w).2 N A ∧ (∀ o, o < pCC S m → o ≠ g → pHurt (pWc S m g j w).2 m o (nI j) w = false) ∧ (∀ i k, (pWc S m g j w).2 m g i k = S m g i k) ∧ ∀ i k, i ≠ 3 → (pWc S m g j w).2 m 4 i k = S m 4 i k) ∨
    ((pWc S m g j w).1 = false ∧ (rRes T g j w).1 = false ∧ rel (pWc S m g j w).2 m (rRes T g j w).2 N A ∧ (pWc S m g j w).2 m g 0 14 = S m g 0 14 + 1) := by
  obtain ⟨hc, hc4⟩ := cc_eq h
  have key := lpE_rel (pWcF m g j w) (rResF g j w) (fun k U V => rel U m V N A ∧ (∀ o, o < k → o ≠ g → pHurt U m o (nI j) w = false) ∧ (∀ i k, U m g i k = S m g i k) ∧ ∀ i k, i ≠ 3 → U m 4 i k = S m 4 i k) (fun U V => rel U m V N A ∧ U m g 0 14 = S m g 0 14 + 1) 4 (fun k U V hk ⟨q1, q2, q3, q4⟩ => by
    unfold pWcF rResF
    by_cases hkg : k = g
    · rw [if_pos hkg, if_pos hkg]
      exact Or.inl ⟨rfl, rfl, q1, fun o ho hog => q2 o (by omega) hog, q3, q4⟩
    · rw [if_neg hkg, if_neg hkg]
      obtain ⟨e1, e2⟩ := hurt_eq (w := w) (q1.2.2.1 k hk) hj
      rw [← e1]
      by_cases hh : pHurt U m k (nI j) w = true
      · rw [if_pos hh, if_pos hh]
        have hak := e2 hh
        rw [wins_eq q1 hg hk hak]
        by_cases hw : rWins V g k = true
        · rw [if_pos hw, if_pos hw]
          refine Or.inl ⟨rfl, rfl, roll_rel q1 hk hak (Or.inl rfl), fun o ho hog => ?_, fun i q => ?_, fun i q hi => ?_⟩
          · by_cases hok : o = k
            · subst hok; exact hurt_roll hk hj
            · show pHurt (inc (pRoll U m k) m 5) m o (nI j) w = false
              rw [hurt_ne hok (by omega)]; exact q2 o (by omega) hog
          · show inc (pRoll U m k) m 5 m g i q = _
            simp (disch := omega) only [inc, sF_eq, sF_ne]
            rw [roll_ne (by omega)]; exact q3 i q
          · show inc (pRoll U m k) m 5 m 4 i q = _
            simp (disch := omega) only [inc, sF_eq, sF_ne]
            rw [roll_ne (by omega)]; exact q4 i q hi
        · rw [if_neg hw, if_neg hw]
          have hag : U m g 0 5 ≠ -1 := by
            intro z
            apply hw
            obtain ⟨-, h1, -, -, -, -, -⟩ := q1.2.2.1 g hg
            unfold rWins
            rw [(act_iff h1).2.mpr z]; rfl
          refine Or.inr ⟨rfl, rfl, roll_rel q1 hg hag (Or.inl rfl), ?_⟩
          show inc (pRoll U m g) m 5 m g 0 14 = _
          simp (disch := omega) only [inc, pRoll, pEndT, sF_eq, sF_ne]
          rw [(rollL U m g).2 m g 0 14 (by omega), q3]
      · rw [if_neg hh, if_neg hh]
        refine Or.inl ⟨rfl, rfl, q1, fun o ho hog => ?_, q3, q4⟩
        by_cases hok : o = k
        · subst hok; simpa using hh
        · exact q2 o (by omega) hog) (pCC S m) 0 S T (by omega) ⟨h, fun o ho => by omega, fun _ _ => rfl, fun _ _ _ => rfl⟩
  have er : rRes T g j w = lpE (rResF g j w) (pCC S m) 0 T := by unfold rRes; rw [hc]
  have ep : pWc S m g j w = lpE (pWcF m g j w) (pCC S m) 0 S := rfl
  rw [er, ep]
  rcases key with ⟨k1, k2, k3, k4, k5, k6⟩ | ⟨k1, k2, k3, k4⟩
  · exact Or.inl ⟨k1, k2, k3, fun o ho hog => k4 o (by omega) hog, k5, k6⟩
  · exact Or.inr ⟨k1, k2, k3, k4⟩
/-! memory and lines -/
theorem rel_mem {S T : St} {m N j : Nat} {A v : Int32} (h : rel S m T N A) (hj : j < 8) : rel (setF S m 4 2 j v) m (setF T 7 0 1 (5 + j) v) N A := by
  obtain ⟨a1, a2, a3, a4⟩ := h.1
  refine rel_mach h (fun g i q hg => by simp (disch := omega) only [sF_eq, sF_ne]) (fun i q hi => by simp (disch := omega) only [sF_eq, sF_ne]) (fun q hq => by simp (disch := omega) only [sF_eq, sF_ne]) (by simp (disch := omega) only [sF_eq, sF_ne]) (by simp (disch := omega) only [sF_eq, sF_ne]) (by simp (disch := omega) only [sF_eq, sF_ne]) (by simp (disch := omega) only [sF_eq, sF_ne]; exact Nat.le_refl _) (Nat.le_refl _) ?_
  unfold rG
  refine ⟨fun q hq => ?_, fun k hk => ?_, fun k hk => ?_, ?_⟩
  · simp (disch := omega) only [sF_eq, sF_ne]; exact a1 q hq
  · by_cases hjk : k = j
    · subst hjk; simp (disch := omega) only [sF_eq, sF_ne]
    · simp (disch := omega) only [sF_eq, sF_ne]; exact a2 k hk
  · simp (disch := omega) only [sF_eq, sF_ne]; exact a3 k hk
  · simp (disch := omega) only [sF_eq, sF_ne]; exact a4
theorem rel_wb {S T : St} {m N g j : Nat} {A : Int32} (h : rel S m T N A) (hg : g < 4) (hj : j < 8) (hs : S m g 1 j ≠ 0) : rel (pWB S m g j) m (rWB T g j) N A := by
  obtain ⟨-, -, -, -, hV, -, -⟩ := h.2.2.1 g hg
  obtain ⟨-, -, v3, -, -⟩ := hV j hj
  rw [if_neg hs] at v3
  unfold pWB rWB
  rw [v3]
  exact rel_inc (rel_mem h hj) (by omega) (by omega) (by omega)
/-- the fields of a core but its lines stay: what is left to say -/
theorem rel_line {S T : St} {m N g j : Nat} {A v x v' x' : Int32} (h : rel S m T N A) (hg : g < 4) (hj : j < 8) (hv : okI v 2) (hx : x' = if v = 0 then 0 else x) (hvv : v' = v) (hw : v = 2 ∨ hasL (S m g 0 10) j = false) (hu : v = 2 → ∀ o, o < pCC S m → o ≠ g → S m o 1 j ≠ 2) : rel (setF (setF S m g 1 j v) m g 2 j x) m (rPut (rPut T g (20 + j) v') g (28 + j) x') N A := by
  subst hvv
  obtain ⟨hA, h1, h2, h3, hV, hP, hb⟩ := h.2.2.1 g hg
  refine rel_core h hg (fun b i k hb => by simp (disch := omega) only [sF_eq, sF_ne]) (fun k hk => by simp (disch := omega) only [rPut, rBump, rOf, sF_eq, sF_ne]) (fun k => by simp (disch := omega) only [rPut, rBump, rOf, sF_eq, sF_ne]) ?_ ⟨?_, ?_, ?_, ?_, ?_, ?_, ?_⟩
  · have hcc : pCC (setF (setF S m g 1 j v') m g 2 j x) m = pCC S m := by show (setF (setF S m g 1 j v') m g 2 j x m 4 0 4).toNatClampNeg = _; simp (disch := omega) only [sF_eq, sF_ne]
    intro l hl c hcl d hdl hcd y z
    rw [hcc] at hcl hdl
    have e : ∀ c, setF (setF S m g 1 j v') m g 2 j x m c 1 l = if c = g ∧ l = j then v' else S m c 1 l := by
      intro c
      split
      · rename_i q; obtain ⟨rfl, rfl⟩ := q; simp (disch := omega) only [sF_eq, sF_ne]
      · simp (disch := omega) only [sF_eq, sF_ne]
    rw [e] at y z
    by_cases hl2 : l = j
    · subst hl2
      by_cases hag : c = g
      · subst hag
        rw [if_pos ⟨rfl, rfl⟩] at y
        rw [if_neg (by omega)] at z
        exact hu y d hdl (by omega) z
      · rw [if_neg (by omega)] at y
        by_cases hbg : d = g
        · subst hbg
          rw [if_pos ⟨rfl, rfl⟩] at z
          exact hu z c hcl (by omega) y
        · rw [if_neg (by omega)] at z
          exact h.2.1 l hl c hcl d hdl hcd y z
    · rw [if_neg (by omega)] at y z
      exact h.2.1 l hl c hcl d hdl hcd y z
  · unfold rA at *; simp (disch := omega) only [rPut, rBump, rOf, sF_eq, sF_ne]; exact hA
  · unfold rT1 at *; simp (disch := omega) only [rPut, rBump, rOf, sF_eq, sF_ne]; exact h1
  · unfold rT2 at *; simp (disch := omega) only [rPut, rBump, rOf, sF_eq, sF_ne]; exact h2
  · unfold rT3 at *; simp (disch := omega) only [rPut, rBump, rOf, sF_eq, sF_ne]; exact h3
  · intro l hl
    obtain ⟨v1, v2, v3, v4, v5⟩ := hV l hl
    by_cases hlj : l = j
    · subst hlj
      simp (disch := omega) only [rPut, rBump, rOf, sF_eq, sF_ne]
      refine ⟨trivial, hv, hx, fun z => ?_, v5⟩
      rcases hw with q | q
      · exact q
      · rw [q] at z; cases z
    · simp (disch := omega) only [rPut, rBump, rOf, sF_eq, sF_ne]; exact ⟨v1, v2, v3, v4, v5⟩
  · obtain ⟨p1, p2, p3, p4⟩ := hP
    unfold rP pPs pLn at *
    simp (disch := omega) only [sF_eq, sF_ne]
    refine ⟨p1, p2, p3, fun k hk => ?_⟩
    exact p4 k hk
  · unfold rB at *; simp (disch := omega) only [sF_eq, sF_ne]; exact hb
theorem setF_self {S : St} {m g i k : Nat} {v : Int32} (h : S m g i k = v) : setF S m g i k v = S := by
  funext m' g' i' k'
  rw [setF_at]
  split
  · rename_i q; obtain ⟨rfl, rfl, rfl, rfl⟩ := q; exact h.symm
  · rfl
/-- a line's state alone -/
theorem rel_st {S T : St} {m N g j : Nat} {A v : Int32} (h : rel S m T N A) (hg : g < 4) (hj : j < 8) (hv : okI v 2) (h0 : v ≠ 0) (hs : S m g 1 j ≠ 0) (hw : v = 2 ∨ hasL (S m g 0 10) j = false) (hu : v = 2 → ∀ o, o < pCC S m → o ≠ g → S m o 1 j ≠ 2) : rel (setF S m g 1 j v) m (rPut T g (20 + j) v) N A := by
  obtain ⟨-, -, -, -, hV, -, -⟩ := h.2.2.1 g hg
  obtain ⟨-, -, v3, -, -⟩ := hV j hj
  rw [if_neg hs] at v3
  have := rel_line (x := S m g 2 j) (x' := rOf T g (28 + j)) (v' := v) h hg hj hv (by rw [if_neg h0, v3]) rfl hw hu
  rw [setF_self (S := setF S m g 1 j v) (by simp (disch := omega) only [sF_eq, sF_ne])] at this
  rw [show rPut (rPut T g (20 + j) v) g (28 + j) (rOf T g (28 + j)) = rPut T g (20 + j) v from setF_self (by simp (disch := omega) only [rPut, rBump, rOf, sF_eq, sF_ne])] at this
  exact this
/-- a line goes -/
theorem rel_inv {S T : St} {m N g j : Nat} {A : Int32} (h : rel S m T N A) (hg : g < 4) (hj : j < 8) (hw : hasL (S m g 0 10) j = false) : rel (setF S m g 1 j 0) m (rPut (rPut T g (20 + j) 0) g (28 + j) 0) N A := by
  have := rel_line (x := S m g 2 j) (x' := 0) (v' := 0) h hg hj (okI_lit (k := 0) (by omega) (by omega) 0 rfl) (by rw [if_pos rfl]) rfl (Or.inr hw) (fun z => absurd z (by decide))
  rw [setF_self (S := setF S m g 1 j 0) (by simp (disch := omega) only [sF_eq, sF_ne])] at this
  exact this
/-- a line's value, where there is one -/
theorem rel_val {S T : St} {m N g j : Nat} {A x : Int32} (h : rel S m T N A) (hg : g < 4) (hgc : g < pCC S m) (hj : j < 8) (hs : S m g 1 j ≠ 0) : rel (setF S m g 2 j x) m (rPut T g (28 + j) x) N A := by
  obtain ⟨-, -, -, -, hV, -, -⟩ := h.2.2.1 g hg
  obtain ⟨v1, v2, v3, v4, -⟩ := hV j hj
  have := rel_line (v := S m g 1 j) (x := x) (x' := x) (v' := rOf T g (20 + j)) h hg hj v2 (by rw [if_neg hs]) v1.symm (by
    by_cases hb : hasL (S m g 0 10) j = true
    · exact Or.inl (v4 hb)
    · exact Or.inr (by simpa using hb)) (fun z o ho hog z2 => by
    exact h.2.1 j hj g hgc o ho (by omega) z z2)
  rw [setF_self (S := S) (v := S m g 1 j) rfl] at this
  rw [show rPut T g (20 + j) (rOf T g (20 + j)) = T from setF_self rfl] at this
  exact this

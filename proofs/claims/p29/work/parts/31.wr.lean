/-! writes, side by side -/
theorem new_eq {S T : St} {m N g j : Nat} {A : Int32} (h : rel S m T N A) (hg : g < 4) (hj : j < 8) : rNew T g j = (pInT S m g && !hasL (S m g 0 10) j) := by
  obtain ⟨-, h1, h2, -, -, -, -⟩ := h.2.2.1 g hg
  obtain ⟨-, b10, -, -, o10, -⟩ := h2
  have ha := act_iff h1
  unfold rNew pInT
  rw [← b10, rH_C o10 hj]
  by_cases hi : S m g 0 5 = -1
  · rw [ha.2.mpr hi, decide_eq_true hi]; rfl
  · rw [ha.1.mpr hi, decide_eq_false hi]; rfl
theorem room_eq {S T : St} {m N g : Nat} {A : Int32} (h : rel S m T N A) (hg : g < 4) : (!decide (pBits (S m g 0 10) < S m 4 0 6)) = decide (rSize (rOf T g 8) = T 7 0 1 2) := by
  obtain ⟨-, -, h2, -, -, -, hb⟩ := h.2.2.1 g hg
  obtain ⟨-, b10, -, -, o10, -⟩ := h2
  have e2 : S m 4 0 6 = T 7 0 1 2 := h.1.1 2 (by omega)
  obtain ⟨q, hq, eq⟩ := okI_ex h.1.2.2.2.2.2.1
  obtain ⟨w, hw, ew⟩ := okI_ex (size_8 o10)
  unfold rB at hb
  rw [eq, ew, nI_clamp (by omega), nI_clamp (by omega)] at hb
  rw [← b10, ← e2, size_C o10, eq, ew]
  by_cases hpq : w = q
  · subst hpq; rw [decide_eq_true rfl, decide_eq_false (nI_nlt (Nat.le_refl _) (by omega))]; rfl
  · rw [decide_eq_false (fun z => hpq ((nI_eq (by omega) (by omega)).mp z)), decide_eq_true (nI_lt (by omega) (by omega))]; rfl
theorem own_rel {S T : St} {m N g j : Nat} {A x : Int32} (h : rel S m T N A) (hgc : g < pCC S m) (hj : j < 8) (hno : ∀ o, o < pCC S m → o ≠ g → hasL (S m o 0 10) j = false) :
    rel (setF (pOwn S m g j) m g 2 j x) m (rPut (rHold T g j (rNew T g j)) g (28 + j) x) N A ∧ (∀ i q, i ≠ 1 → pOwn S m g j m g i q = S m g i q) ∧ pOwn S m g j m g 1 j = 2 ∧ ∀ i q, i ≠ 2 → i ≠ 3 → pOwn S m g j m 4 i q = S m 4 i q := by
  have hg : g < 4 := by have := (cc_eq h).2; omega
  have hne := new_eq h hg hj
  unfold pOwn rHold
  rw [st_eq h hg hj]
  by_cases hs : S m g 1 j = 2
  · rw [if_pos hs, if_pos hs]
    have hs0 : S m g 1 j ≠ 0 := by rw [hs]; decide
    by_cases hi : pInT S m g = true
    · rw [if_pos hi]
      by_cases hb : pContains (S m g 0 10) (nI j) = true
      · have hne' : rNew T g j = false := by rw [hne, hi, show hasL (S m g 0 10) j = true from hb]; rfl
        rw [if_pos hb, hne', if_neg (by decide)]
        exact ⟨rel_val h hg hgc hj hs0, fun _ _ _ => rfl, hs, fun _ _ _ _ => rfl⟩
      · have hne' : rNew T g j = true := by rw [hne, hi, show hasL (S m g 0 10) j = false from Bool.eq_false_iff.mpr hb]; rfl
        rw [if_neg hb, hne', if_pos rfl]
        have hw := rel_wb h hg hj hs0
        have e1 : pWB S m g j m g 1 j = S m g 1 j := by simp (disch := omega) only [pWB, inc, sF_eq, sF_ne]
        have ec : pCC (pWB S m g j) m = pCC S m := by show (pWB S m g j m 4 0 4).toNatClampNeg = _; simp (disch := omega) only [pWB, inc, sF_eq, sF_ne]
        exact ⟨rel_val hw hg (by rw [ec]; exact hgc) hj (by rw [e1]; exact hs0), fun i q _ => by simp (disch := omega) only [pWB, inc, sF_eq, sF_ne], by rw [e1]; exact hs, fun i q h2 h3 => by simp (disch := omega) only [pWB, inc, sF_eq, sF_ne]⟩
    · have hne' : rNew T g j = false := by rw [hne, Bool.eq_false_iff.mpr hi]; rfl
      rw [if_neg hi, hne', if_neg (by decide)]
      exact ⟨rel_val h hg hgc hj hs0, fun _ _ _ => rfl, hs, fun _ _ _ _ => rfl⟩
  · rw [if_neg hs, if_neg hs]
    exact over_rel h hgc hj hno
theorem rPutV_1 {S : St} {a j : Nat} {x : Int32} (h : rOf S a 0 = x) : rPutV S a j true = (if rOf (rPut (rPut S a (28 + j) x) a 8 (rOf (rPut S a (28 + j) x) a 8 ||| 1 <<< (nI j &&& 31))) a 3 = 0 then rLog (rPut (rPut S a (28 + j) x) a 8 (rOf (rPut S a (28 + j) x) a 8 ||| 1 <<< (nI j &&& 31))) a (-1) 0 (1 <<< (nI j &&& 31)) else rPut (rPut S a (28 + j) x) a 8 (rOf (rPut S a (28 + j) x) a 8 ||| 1 <<< (nI j &&& 31))) := by
  subst h; rfl
theorem rPutV_0 {S : St} {a j : Nat} {x : Int32} (h : rOf S a 0 = x) : rPutV S a j false = (if rOf (rPut S a (28 + j) x) a 3 = 0 then rLog (rPut S a (28 + j) x) a (-1) 0 (1 <<< (nI j &&& 31)) else rPut S a (28 + j) x) := by
  subst h; rfl
theorem pPut_x {S : St} {m g j : Nat} {x : Int32} (h : S m g 0 4 = x) : pPut S m g j = (if pInT (setF S m g 2 j x) m g = true then setF (setF S m g 2 j x) m g 0 10 (setF S m g 2 j x m g 0 10 ||| 1 <<< (nI j &&& 31)) else pAddW (setF S m g 2 j x) m (nI g) j m g 2) := by
  subst h; rfl
theorem wrb_rel {S T : St} {m N g j : Nat} {A : Int32} (h : rel S m T N A) (hgc : g < pCC S m) (hj : j < 8) (hno : ∀ o, o < pCC S m → o ≠ g → hasL (S m o 0 10) j = false) :
    ((rStB T g j).1 = true ∧ rel (pWrB S m g j) m (rStB T g j).2 N A ∧ pWrB S m g j m g 0 14 = S m g 0 14 ∧ pWrB S m g j m g 0 3 = S m g 0 3 ∧ pWrB S m g j m g 3 2 = S m g 3 2) ∨ ((rStB T g j).1 = false ∧ rel (pWrB S m g j) m (rStB T g j).2 N A ∧ pWrB S m g j m g 0 14 = S m g 0 14 + 1) := by
  have hg : g < 4 := by have := (cc_eq h).2; omega
  have hne := new_eq h hg hj
  have hro := room_eq h hg
  obtain ⟨-, h1, h2, -, hV, -, hbb⟩ := h.2.2.1 g hg
  obtain ⟨-, b10, -, -, o10, -⟩ := h2
  have ha := act_iff h1
  obtain ⟨w1, w2, w3, w4⟩ := own_rel (x := S m g 0 4) h hgc hj hno
  have e04 : pOwn S m g j m g 0 4 = S m g 0 4 := w2 0 4 (by omega)
  have eac : rOf (rHold T g j (rNew T g j)) g 0 = S m g 0 4 := by
    have q : setF (pOwn S m g j) m g 2 j (S m g 0 4) m g 0 4 = rOf (rPut (rHold T g j (rNew T g j)) g (28 + j) (S m g 0 4)) g 0 := (w1.2.2.1 g hg).1.1
    simp (disch := omega) only [rPut, rBump, rOf, sF_eq, sF_ne] at q
    rw [e04] at q
    exact q.symm
  have hU1 := (w1.2.2.1 g hg).2.1
  have haU := act_iff hU1
  have eU5 : setF (pOwn S m g j) m g 2 j (S m g 0 4) m g 0 5 = S m g 0 5 := by simp (disch := omega) only [sF_eq, sF_ne]; exact w2 0 5 (by omega)
  have eU10 : setF (pOwn S m g j) m g 2 j (S m g 0 4) m g 0 10 = S m g 0 10 := by simp (disch := omega) only [sF_eq, sF_ne]; exact w2 0 10 (by omega)
  have eUs : setF (pOwn S m g j) m g 2 j (S m g 0 4) m g 1 j = 2 := by simp (disch := omega) only [sF_eq, sF_ne]; exact w3
  have eUb : setF (pOwn S m g j) m g 2 j (S m g 0 4) m 4 0 6 = S m 4 0 6 := by simp (disch := omega) only [sF_eq, sF_ne]; exact w4 0 6 (by omega) (by omega)
  have fr : ∀ i q, i ≠ 1 → i ≠ 2 → setF (pOwn S m g j) m g 2 j (S m g 0 4) m g i q = S m g i q := fun i q h1 h2 => by simp (disch := omega) only [sF_eq, sF_ne]; exact w2 i q h1
  have eW : pNoRoom S m g (nI j) (S m 4 0 6) = (pInT S m g && (!pContains (S m g 0 10) (nI j) && decide (rSize (rOf T g 8) = T 7 0 1 2))) := by unfold pNoRoom; rw [hro]
  unfold pWrB rStB
  rw [pPut_x e04]
  by_cases hi : pInT S m g = true
  · have hi5 : S m g 0 5 ≠ -1 := by
      intro z; unfold pInT at hi; rw [decide_eq_true z] at hi; exact absurd hi (by decide)
    have hiU : pInT (setF (pOwn S m g j) m g 2 j (S m g 0 4)) m g = true := by unfold pInT; rw [eU5]; exact hi
    have h3 : rOf (rPut (rHold T g j (rNew T g j)) g (28 + j) (S m g 0 4)) g 3 = 1 := haU.1.mpr (by rw [eU5]; exact hi5)
    rw [if_pos hiU]
    by_cases hb : pContains (S m g 0 10) (nI j) = true
    · have hne' : rNew T g j = false := by rw [hne, hi, show hasL (S m g 0 10) j = true from hb]; rfl
      have eW' : pNoRoom S m g (nI j) (S m 4 0 6) = false := by rw [eW, hi, hb]; rfl
      rw [if_neg (nt eW'), if_neg (nt hne')]
      rw [hne'] at eac h3 w1
      have h30 : ¬ rOf (rPut (rHold T g j false) g (28 + j) (S m g 0 4)) g 3 = 0 := by rw [h3]; decide
      rw [rPutV_0 eac, if_neg h30, setF_self (S := setF (pOwn S m g j) m g 2 j (S m g 0 4)) (by rw [eU10, or_same o10 hj hb])]
      exact Or.inl ⟨rfl, w1, fr 0 14 (by omega) (by omega), fr 0 3 (by omega) (by omega), fr 3 2 (by omega) (by omega)⟩
    · have hb' : pContains (S m g 0 10) (nI j) = false := Bool.eq_false_iff.mpr hb
      have hne' : rNew T g j = true := by rw [hne, hi, show hasL (S m g 0 10) j = false from hb']; rfl
      by_cases hr : rSize (rOf T g 8) = T 7 0 1 2
      · have eW' : pNoRoom S m g (nI j) (S m 4 0 6) = true := by rw [eW, hi, hb', decide_eq_true hr]; rfl
        rw [if_pos eW', if_pos hne', if_pos hr]
        refine Or.inr ⟨rfl, roll_rel h hg hi5 (Or.inr rfl), ?_⟩
        simp (disch := omega) only [inc, pRoll, pEndT, sF_eq, sF_ne]
        rw [(rollL S m g).2 m g 0 14 (by omega)]
      · have eW' : pNoRoom S m g (nI j) (S m 4 0 6) = false := by rw [eW, hi, hb', decide_eq_false hr]; rfl
        rw [if_neg (nt eW'), if_pos hne', if_neg hr]
        rw [hne'] at eac h3 w1
        have hsz : (rSize (setF (pOwn S m g j) m g 2 j (S m g 0 4) m g 0 10 ||| 1 <<< (nI j &&& 31))).toNatClampNeg ≤ (setF (pOwn S m g j) m g 2 j (S m g 0 4) m 4 0 6).toNatClampNeg := by
          rw [eU10, eUb, size_inc o10 hj hb']
          obtain ⟨w, hw, ew⟩ := okI_ex (size_8 o10)
          have e2 : S m 4 0 6 = T 7 0 1 2 := h.1.1 2 (by omega)
          obtain ⟨q, hq, eq⟩ := okI_ex h.1.2.2.2.2.2.1
          unfold rB at hbb
          rw [eq, ew, nI_clamp (by omega), nI_clamp (by omega)] at hbb
          rw [← b10, ← e2, eq, ew] at hr
          have : w ≠ q := fun z => hr (by rw [z])
          rw [ew, eq, nI_1, nI_clamp (by omega), nI_clamp (by omega)]
          omega
        have hwr := wr_rel w1 hg hj eUs (by rw [eU5]; exact hi5) hsz
        have h3' : rOf (rPut (rPut (rHold T g j true) g (28 + j) (S m g 0 4)) g 8 (rOf (rPut (rHold T g j true) g (28 + j) (S m g 0 4)) g 8 ||| 1 <<< (nI j &&& 31))) g 3 = 1 := by
          rw [← h3]; simp (disch := omega) only [rPut, rBump, rOf, sF_eq, sF_ne]
        have h30 : ¬ rOf (rPut (rPut (rHold T g j true) g (28 + j) (S m g 0 4)) g 8 (rOf (rPut (rHold T g j true) g (28 + j) (S m g 0 4)) g 8 ||| 1 <<< (nI j &&& 31))) g 3 = 0 := by rw [h3']; decide
        rw [rPutV_1 eac, if_neg h30]
        refine Or.inl ⟨rfl, hwr, ?_, ?_, ?_⟩
        · rw [sF_ne (by omega)]; exact fr 0 14 (by omega) (by omega)
        · rw [sF_ne (by omega)]; exact fr 0 3 (by omega) (by omega)
        · rw [sF_ne (by omega)]; exact fr 3 2 (by omega) (by omega)
  · have hi' : pInT S m g = false := Bool.eq_false_iff.mpr hi
    have hi5 : S m g 0 5 = -1 := by
      by_cases z : S m g 0 5 = -1
      · exact z
      · exfalso; apply hi; unfold pInT; rw [decide_eq_false z]; rfl
    have hne' : rNew T g j = false := by rw [hne, hi']; rfl
    have hiU : pInT (setF (pOwn S m g j) m g 2 j (S m g 0 4)) m g = false := by unfold pInT; rw [eU5]; exact hi'
    have eW' : pNoRoom S m g (nI j) (S m 4 0 6) = false := by rw [eW, hi']; rfl
    rw [if_neg (nt eW'), if_neg (nt hiU), if_neg (nt hne')]
    rw [hne'] at eac w1 haU
    have h3 : rOf (rPut (rHold T g j false) g (28 + j) (S m g 0 4)) g 3 = 0 := haU.2.mpr (by rw [eU5]; exact hi5)
    rw [rPutV_0 eac, if_pos h3]
    obtain ⟨l1, l2, -⟩ := log_rel (t := -1) (a := 0) (b := 1 <<< (nI j &&& 31)) (m1 := m) (g1 := g) (i1 := 2) (m2 := m) (g2 := g) (i2 := 2) w1 hg (by omega) (by omega) ok8_0 (ok8_1 hj) (fun l hl z => absurd z (by rw [hasL_0 hl]; decide)) (fun l hl z => by
      rw [hasL_1 hj hl] at z
      have : l = j := of_decide_eq_true z
      subst this
      simp (disch := omega) only [rPut, rBump, rOf, sF_eq, sF_ne])
    refine Or.inl ⟨rfl, l1, ?_, ?_, ?_⟩
    · exact (l2 m g 0 14 (by omega)).trans (fr 0 14 (by omega) (by omega))
    · exact (l2 m g 0 3 (by omega)).trans (fr 0 3 (by omega) (by omega))
    · exact (l2 m g 3 2 (by omega)).trans (fr 3 2 (by omega) (by omega))
theorem write_rel {S T : St} {m N g j : Nat} {A : Int32} (h : rel S m T N A) (hgc : g < pCC S m) (hj : j < 8) :
    ((rStore T g j).1 = true ∧ rel (pWrite S m g j) m (rStore T g j).2 N A ∧ pWrite S m g j m g 0 14 = S m g 0 14 ∧ pWrite S m g j m g 0 3 = S m g 0 3 ∧ pWrite S m g j m g 3 2 = S m g 3 2) ∨ ((rStore T g j).1 = false ∧ rel (pWrite S m g j) m (rStore T g j).2 N A ∧ pWrite S m g j m g 0 14 = S m g 0 14 + 1) := by
  have hg : g < 4 := by have := (cc_eq h).2; omega
  unfold pWrite rStore
  rcases wc_rel (w := true) h hg hj with ⟨p1, p2, p3, p4, p5, p6⟩ | ⟨p1, p2, p3, p4⟩
  · rw [if_pos p1, if_pos p2]
    have hcc : pCC (pWc S m g j true).2 m = pCC S m := by show ((pWc S m g j true).2 m 4 0 4).toNatClampNeg = _; rw [p6 0 4 (by omega)]
    have hno : ∀ o, o < pCC (pWc S m g j true).2 m → o ≠ g → hasL ((pWc S m g j true).2 m o 0 10) j = false := fun o ho hog => by
      have h4 := (cc_eq p3).2
      exact hurt_w (p3.2.2.1 o (by omega)) hj (p4 o (by omega) hog)
    rcases wrb_rel p3 (by rw [hcc]; exact hgc) hj hno with ⟨q1, q2, q3, q4, q5⟩ | ⟨q1, q2, q3⟩
    · exact Or.inl ⟨q1, q2, q3.trans (p5 0 14), q4.trans (p5 0 3), q5.trans (p5 3 2)⟩
    · exact Or.inr ⟨q1, q2, by rw [q3, p5]⟩
  · rw [if_neg (nt p1), if_neg (nt p2)]
    exact Or.inr ⟨rfl, p3, p4⟩

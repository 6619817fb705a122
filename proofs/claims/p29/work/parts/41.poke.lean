/-! a write from outside -/
theorem rlogO {ev : Nat} (S : St) :
    (∀ l, l < 8 → lp (rLogO ev) 8 0 S 7 0 1 (ev + 3 + l) = 0 ∧ lp (rLogO ev) 8 0 S 7 0 1 (ev + 11 + l) = 0) ∧ (∀ m g i k, ¬ (m = 7 ∧ g = 0 ∧ i = 1 ∧ ev + 3 ≤ k ∧ k < ev + 19) → lp (rLogO ev) 8 0 S m g i k = S m g i k) := by
  have h := lp_at (rLogO ev) (fun k T => (∀ l, l < k → T 7 0 1 (ev + 3 + l) = 0 ∧ T 7 0 1 (ev + 11 + l) = 0) ∧ (∀ m g i k, ¬ (m = 7 ∧ g = 0 ∧ i = 1 ∧ ev + 3 ≤ k ∧ k < ev + 19) → T m g i k = S m g i k)) 8 (fun k T hk ⟨p1, p2⟩ => by
    unfold rLogO
    refine ⟨fun l hl => ?_, fun m g i k2 hn => ?_⟩
    · by_cases hlk : l = k
      · subst hlk; simp (disch := omega) only [sF_eq, sF_ne]; exact ⟨trivial, trivial⟩
      · simp (disch := omega) only [sF_eq, sF_ne]; exact p1 l (by omega)
    · simp (disch := omega) only [sF_eq, sF_ne]; exact p2 _ _ _ _ hn) 8 0 S (by omega) ⟨fun l hl => by omega, fun _ _ _ _ _ => rfl⟩
  exact h
def rPokE (T : St) (j : Nat) (v : Int32) : St := if 406 + 19 * rQ T < 406 + 19 * rQ (rLogX T (1 <<< (nI j &&& 31))) then setF (rLogX T (1 <<< (nI j &&& 31))) 7 0 1 (406 + 19 * rQ T + 11 + j) v else rLogX T (1 <<< (nI j &&& 31))
theorem logx_rel {S T : St} {m N j : Nat} {A v : Int32} (h : rel S m T N A) (hm : m ≠ 1) (hj : j < 8) (hv : S m 4 2 j = v) :
    rel (pAddW S m (-1) j m 4 2) m (rPokE T j v) N A ∧ (∀ m' c i k, ¬ (m' = m ∧ c = 4 ∧ 4 ≤ i) → pAddW S m (-1) j m 4 2 m' c i k = S m' c i k) ∧ (∀ m' g i k, ¬ (m' = 7 ∧ g = 0 ∧ i = 1 ∧ (k = 21 ∨ 406 ≤ k)) → rPokE T j v m' g i k = T m' g i k) := by
  obtain ⟨hm', h8, hqq, hq4, hqS, hqT⟩ := (rel_q h).resolve_left (fun z => hm z.1)
  have hrm : rmI m = 400 := by unfold rmI; rw [if_neg hm]
  by_cases hfull : pQ S m = 400
  · have e1 : pAddW S m (-1) j m 4 2 = S := by unfold pAddW pAddE; rw [if_neg (by omega)]
    have e2 : rLogX T (1 <<< (nI j &&& 31)) = T := by unfold rLogX; rw [if_pos h8, if_pos (by omega)]
    unfold rPokE
    rw [e1, e2, if_neg (by omega)]
    exact ⟨h, fun _ _ _ _ _ => rfl, fun _ _ _ _ _ => rfl⟩
  · have hlt : pQ S m < 400 := by omega
    have e2 : rLogX T (1 <<< (nI j &&& 31)) = rBump (lp (rLogO (406 + 19 * rQ T)) 8 0 (rLogH T (-1) (-1) 0 (1 <<< (nI j &&& 31)))) 21 := by unfold rLogX; rw [if_pos h8, if_neg (by omega)]
    obtain ⟨s1, s2, s3⟩ := slogL (m := m) (q := pQ S m) (a := 0) (b := 1 <<< (nI j &&& 31)) (m1 := m) (g1 := 4) (i1 := 2) (m2 := m) (g2 := 4) (i2 := 2) (by omega) (by omega) (setF (setF (setF (setF S m 4 5 (pQ S m) (-1)) m 4 6 (pQ S m) (-1)) m 4 7 (pQ S m) 0) m 4 8 (pQ S m) (1 <<< (nI j &&& 31)))
    obtain ⟨r1, r3⟩ := rlogO (ev := 406 + 19 * rQ T) (rLogH T (-1) (-1) 0 (1 <<< (nI j &&& 31)))
    have e1 : pAddW S m (-1) j m 4 2 = setF (lp (pLogF m (pQ S m) 0 m 4 2 (1 <<< (nI j &&& 31)) m 4 2) 8 0 (setF (setF (setF (setF S m 4 5 (pQ S m) (-1)) m 4 6 (pQ S m) (-1)) m 4 7 (pQ S m) 0) m 4 8 (pQ S m) (1 <<< (nI j &&& 31)))) m 4 4 7 (nI (pQ S m + 1)) := by
      unfold pAddW pAddE; rw [if_pos (by omega)]
    rw [e1]
    generalize hL1 : lp (pLogF m (pQ S m) 0 m 4 2 (1 <<< (nI j &&& 31)) m 4 2) 8 0 (setF (setF (setF (setF S m 4 5 (pQ S m) (-1)) m 4 6 (pQ S m) (-1)) m 4 7 (pQ S m) 0) m 4 8 (pQ S m) (1 <<< (nI j &&& 31))) = L1 at *
    generalize hL2 : lp (rLogO (406 + 19 * rQ T)) 8 0 (rLogH T (-1) (-1) 0 (1 <<< (nI j &&& 31))) = L2 at *
    have f21 : L2 7 0 1 21 = nI (rQ T) := by
      rw [r3 _ _ _ _ (by omega)]
      simp (disch := omega) only [rLogH, sF_eq, sF_ne]; exact hqT
    have eq2 : rQ (rBump L2 21) = rQ T + 1 := by
      show (rBump L2 21 7 0 1 21).toNatClampNeg = _
      simp (disch := omega) only [rBump, sF_eq, sF_ne]
      rw [f21, nI_1]; exact nI_clamp (by omega)
    have eE : rPokE T j v = setF (rBump L2 21) 7 0 1 (406 + 19 * rQ T + 11 + j) v := by
      unfold rPokE
      rw [e2, eq2, if_pos (by omega)]
    rw [eE]
    have fS : ∀ m' c i k, ¬ (m' = m ∧ c = 4 ∧ 4 ≤ i) → setF L1 m 4 4 7 (nI (pQ S m + 1)) m' c i k = S m' c i k := by
      intro m' c i k hn
      simp (disch := omega) only [sF_eq, sF_ne]
      rw [s3 _ _ _ _ (by omega)]
      simp (disch := omega) only [sF_eq, sF_ne]
    have fT : ∀ m' g i k, ¬ (m' = 7 ∧ g = 0 ∧ i = 1 ∧ (k = 21 ∨ 406 ≤ k)) → setF (rBump L2 21) 7 0 1 (406 + 19 * rQ T + 11 + j) v m' g i k = T m' g i k := by
      intro m' g i k hn
      simp (disch := omega) only [rBump, sF_eq, sF_ne]
      rw [r3 _ _ _ _ (by omega)]
      simp (disch := omega) only [rLogH, sF_eq, sF_ne]
    refine ⟨rel_lg h (fun c i k hn => fS m c i k (by omega)) (fun k hk h21 => fT 7 0 1 k (by omega)) (fun k => fT 7 0 0 k (by omega)) ?_ ?_ (Or.inr ⟨hm, ?_, ?_, fun q hq => ?_⟩), fS, fT⟩
    · simp (disch := omega) only [rBump, sF_eq, sF_ne]; rw [f21, nI_1]; exact okI_nI (by omega) (by omega)
    · simp (disch := omega) only [sF_eq, sF_ne]; exact okI_nI (by omega) (by omega)
    · rw [fT 7 0 0 8 (by omega)]; exact h8
    · simp (disch := omega) only [rBump, sF_eq, sF_ne]; rw [f21, nI_1, hqq]
    · have eq1 : pQ (setF L1 m 4 4 7 (nI (pQ S m + 1))) m = pQ S m + 1 := by
        show (setF L1 m 4 4 7 (nI (pQ S m + 1)) m 4 4 7).toNatClampNeg = _
        simp (disch := omega) only [sF_eq, sF_ne]; exact nI_clamp (by omega)
      rw [eq1] at hq
      by_cases hqe : q = pQ S m
      · subst hqe
        unfold rEn
        simp (disch := omega) only [rBump, sF_eq, sF_ne]
        rw [s3 m 4 5 _ (by omega), s3 m 4 6 _ (by omega), s3 m 4 7 _ (by omega), s3 m 4 8 _ (by omega), hqq, r3 7 0 1 _ (by omega), r3 7 0 1 _ (by omega), r3 7 0 1 _ (by omega)]
        simp (disch := omega) only [rLogH, sF_eq, sF_ne]
        refine ⟨trivial, trivial, trivial, ok8_0, ok8_1 hj, fun l hl => ?_⟩
        have x1 := s1 l hl
        have x2 := s2 l hl
        obtain ⟨x3, x4⟩ := r1 l hl
        rw [hqq] at x1 x2
        by_cases hlj : l = j
        · subst hlj
          simp (disch := omega) only [sF_eq, sF_ne]
          rw [x1, x2, x3, if_neg (by rw [hasL_0 hl]; decide), if_pos (by rw [hasL_1 hj hl]; exact decide_eq_true rfl)]
          simp (disch := omega) only [sF_eq, sF_ne]
          exact ⟨trivial, hv⟩
        · simp (disch := omega) only [sF_eq, sF_ne]
          rw [x1, x2, x3, x4, if_neg (by rw [hasL_0 hl]; decide), if_neg (by rw [hasL_1 hj hl, decide_eq_false hlj]; decide)]
          exact ⟨rfl, rfl⟩
      · have hqlt : q < pQ S m := by omega
        obtain ⟨-, -, -, ent⟩ := (h.2.2.2).resolve_left (fun z => hm z.1)
        obtain ⟨d1, d2, d3, d4, d5, d6⟩ := ent q hqlt
        unfold rEn
        simp (disch := omega) only [rBump, sF_eq, sF_ne]
        rw [s3 m 4 5 _ (by omega), s3 m 4 6 _ (by omega), s3 m 4 7 _ (by omega), s3 m 4 8 _ (by omega), r3 7 0 1 _ (by omega), r3 7 0 1 _ (by omega), r3 7 0 1 _ (by omega)]
        simp (disch := omega) only [rLogH, sF_eq, sF_ne]
        refine ⟨d1, d2, d3, d4, d5, fun l hl => ?_⟩
        simp (disch := omega) only [sF_eq, sF_ne]
        rw [s3 m 4 9 _ (by omega), s3 m 4 10 _ (by omega), r3 7 0 1 _ (by omega), r3 7 0 1 _ (by omega)]
        simp (disch := omega) only [rLogH, sF_eq, sF_ne]
        exact d6 l hl
theorem rPokF_T {S : St} {j k : Nat} (hj : j < 8) (hk : k < 4) : frT 1 S (rPokF j k S) := by
  unfold rPokF
  split
  · exact ((rAbort_T hk (by omega)).tr (frT.put hk (by omega))).tr (frT.put hk (by omega))
  · exact ((frT.put hk (by omega)).tr (frT.put hk (by omega))).up (by omega)
theorem frGlp (f : Nat → St → St) (N : Nat) (h : ∀ k S, k < N → frG S (f k S)) : ∀ (n k : Nat) (S : St), k + n ≤ N → frG S (lp f n k S)
  | 0, _, S, _ => frG.rf S
  | n + 1, k, S, hk => (h k S (by omega)).tr (frGlp f N h n (k + 1) (f k S) (by omega))
theorem outL_rel {S T : St} {m N j n : Nat} {A : Int32} (h : rel S m T N A) (hj : j < 8) (hn : n ≤ 4) : rel (lp (pOutF m j) n 0 S) m (lp (rPokF j) n 0 T) N A := by
  refine lp_rel (pOutF m j) (rPokF j) (fun _ U V => rel U m V N A) n (fun k U V hk q => ?_) n 0 S T (by omega) h
  have hk4 : k < 4 := by omega
  obtain ⟨e1, e2⟩ := hurt_eq (w := true) (q.2.2.1 k hk4) hj
  unfold pOutF rPokF
  rw [← e1]
  by_cases hh : pHurt U m k (nI j) true = true
  · rw [if_pos hh, if_pos hh]
    exact rel_inv (roll_rel q hk4 (e2 hh) (Or.inl rfl)) hk4 hj (by simp (disch := omega) only [inc, pRoll, pEndT, sF_eq, sF_ne]; exact hasL_0 hj)
  · rw [if_neg hh, if_neg hh]
    exact rel_inv q hk4 hj (hurt_w (q.2.2.1 k hk4) hj (Bool.eq_false_iff.mpr hh))
theorem poke_ok {S : St} {N j : Nat} {v : Int32} (h : Inv S N) (hj : j < 8) : rPokS (pOut (pSave S) 0 j v).2 j v 7 0 0 13 = (pOut (pSave S) 0 j v).1 ∧ rPokS (pOut (pSave S) 0 j v).2 j v 7 0 0 9 = 0 ∧ Inv (rPokS (pOut (pSave S) 0 j v).2 j v) N := by
  have hM : frM 0 (pSave S) (pOut (pSave S) 0 j v).2 := out_M
  obtain ⟨A, hA⟩ := cmd_rel h hM
  obtain ⟨-, u2, u3, u4, u5⟩ := keep_U (pOut (pSave S) 0 j v).2 0
  generalize hW : (pOut (pSave S) 0 j v).2 = W at *
  have h1 : rel (pSave S) 0 (rPok1 W) N (pAborts (pSave S) 0) := rel_ab0 hA
  obtain ⟨hc, hc4⟩ := cc_eq h1
  have h2 := outL_rel (n := rCC (rPok1 W)) h1 hj (by omega)
  have h3 := rel_mem (v := v) h2 hj
  have g2 : frG (rPok1 W) (lp (rPokF j) (rCC (rPok1 W)) 0 (rPok1 W)) := frGlp _ 4 (fun k S hk => (rPokF_T hj hk).1) _ 0 _ (by omega)
  obtain ⟨l1, l2, l3⟩ := logx_rel (v := v) h3 (by omega) hj (by simp (disch := omega) only [sF_eq, sF_ne])
  have eS : pOutS (pSave S) 0 j v = W := hW
  have eS' : pOutS (pSave S) 0 j v = pAddW (setF (lp (pOutF 0 j) (rCC (rPok1 W)) 0 (pSave S)) 0 4 2 j v) 0 (-1) j 0 4 2 := by
    unfold pOutS; rw [hc]
  rw [← eS', eS] at l1
  have eT : rPokS W j v = rPokE (setF (lp (rPokF j) (rCC (rPok1 W)) 0 (rPok1 W)) 7 0 1 (5 + j) v) j v := rfl
  have f0 : ∀ k, k ≠ 13 → rPokS W j v 7 0 0 k = rKeep (rCd W 0) 7 0 0 k := fun k hk => by
    rw [eT, l3 7 0 0 k (by omega), sF_ne (by omega), g2.2.1 k hk]
    unfold rPok1; simp (disch := omega) only [sF_eq, sF_ne]
  refine ⟨?_, ?_, Inv_cmd h (by rw [← eS]; exact (outL_M.tr frM.set).tr addE_M) (fun m g i hn => ?_) (fun k hk => f0 k (by omega)) (by rw [eT]; exact l1) (Nat.le_refl _)⟩
  · have e11 := l1.1.2.2.2.2.2.2.2.2.2.2
    show rPokS W j v 7 0 0 13 = pAborts (pOutS (pSave S) 0 j v) 0 - pAborts (pSave S) 0
    rw [eS]
    show rPokS W j v 7 0 0 13 = (W 0 4 3 5 + W 0 4 3 6) - pAborts (pSave S) 0
    rw [e11, Int32.add_comm, Int32.add_sub_cancel, eT]
  · rw [f0 9 (by omega)]; exact u5
  · funext q
    rw [eT, l3 m g i q (by omega), sF_ne (by omega), g2.1 m g i hn]
    unfold rPok1; simp (disch := omega) only [sF_eq, sF_ne]
/-! undo -/
theorem undo_ok {S : St} {N : Nat} (h : Inv S N) (hn1 : 1 ≤ pNs S) : okI (S ((pOs S + (pNs S - 1)) % 4 + 2) 4 4 7) 400 ∧ (rUndo (pUndo S)).1 = pUndo S 6 0 0 7 ∧ (rUndo (pUndo S)).2 7 0 0 9 = 0 ∧ Inv (rUndo (pUndo S)).2 N := by
  obtain ⟨a1, a2, ⟨b1, b2, b3⟩, c1, c2, c3, c4⟩ := h
  have hn4 : pNs S ≤ 4 := c2.2
  have ho : pOs S ≤ 3 := c1.2
  have en : S 6 0 0 7 = nI (pNs S) := c2.1
  obtain ⟨A, old⟩ := c4 (pNs S - 1) (by omega)
  have hq := old.1.2.2.2.2.2.2.2.2.2.1
  have hs : (pOs S + (pNs S - 1)) % 4 + 2 ≠ 0 := by omega
  have hM : frM 0 (setF S 6 0 0 7 (nI (pNs S - 1))) (pUndo S) := fun m' hm => by unfold pUndo; rw [pCopyM_m hm]
  have fM : ∀ m, m ≠ 0 → m ≠ 6 → pUndo S m = S m := fun m h0 h6 => by rw [hM m h0, setF_m h6]
  have f6 : ∀ g i k, ¬ (g = 0 ∧ i = 0 ∧ k = 7) → pUndo S 6 g i k = S 6 g i k := fun g i k hk => by rw [hM 6 (by omega), sF_ne (by omega)]
  have e67 : pUndo S 6 0 0 7 = nI (pNs S - 1) := by rw [hM 6 (by omega), sF_eq (by omega)]
  have e7 : pUndo S 7 = S 7 := fM 7 (by omega) (by omega)
  obtain ⟨d1, d2, d3⟩ := rCd_at (pUndo S) 0
  have hne : ¬ pUndo S 7 0 0 5 = 0 := by rw [e7, c3, en]; exact nI_ne0 (by omega) (by omega)
  obtain ⟨p1, p2⟩ := rCp_at (S := rCd (pUndo S) 0) (i1 := 2) (i2 := 1) (by decide)
  obtain ⟨q1, q2⟩ := rCp_at (S := rCp (rCd (pUndo S) 0) 2 1) (i1 := 3) (i2 := 2) (by decide)
  obtain ⟨r1, r2⟩ := rCp_at (S := rCp (rCp (rCd (pUndo S) 0) 2 1) 3 2) (i1 := 4) (i2 := 3) (by decide)
  obtain ⟨t1, t2⟩ := rCp_at (S := rCp (rCp (rCp (rCd (pUndo S) 0) 2 1) 3 2) 4 3) (i1 := 5) (i2 := 4) (by decide)
  unfold rUndo
  rw [if_neg hne]
  dsimp only
  generalize rCp (rCd (pUndo S) 0) 2 1 = U1 at *
  generalize rCp U1 3 2 = U2 at *
  generalize rCp U2 4 3 = U3 at *
  generalize rCp U3 5 4 = U4 at *
  have g0 : U4 7 0 0 = rCd (pUndo S) 0 7 0 0 := by rw [t2 7 0 0 (by omega), r2 7 0 0 (by omega), q2 7 0 0 (by omega), p2 7 0 0 (by omega)]
  have gk : ∀ k, k ≠ 9 → U4 7 0 0 k = S 7 0 0 k := fun k hk => by rw [g0, d2 k hk, e7]
  have gO : ∀ m g i, ¬ (m = 7 ∧ g = 0 ∧ i ≤ 4) → U4 m g i = pUndo S m g i := fun m g i hn => by rw [t2 m g i (by omega), r2 m g i (by omega), q2 m g i (by omega), p2 m g i (by omega), d1 m g i (by omega)]
  have gR : ∀ i k, 1 ≤ i → i ≤ 4 → k < 8006 → U4 7 0 i k = S 7 0 (i + 1) k := fun i k h1 h4 hk => by
    have hi : i = 1 ∨ i = 2 ∨ i = 3 ∨ i = 4 := by omega
    rcases hi with rfl | rfl | rfl | rfl
    · rw [t2 7 0 1 (by omega), r2 7 0 1 (by omega), q2 7 0 1 (by omega), p1 k hk, d1 7 0 2 (by omega), e7]
    · rw [t2 7 0 2 (by omega), r2 7 0 2 (by omega), q1 k hk, p2 7 0 3 (by omega), d1 7 0 3 (by omega), e7]
    · rw [t2 7 0 3 (by omega), r1 k hk, q2 7 0 4 (by omega), p2 7 0 4 (by omega), d1 7 0 4 (by omega), e7]
    · rw [t1 k hk, r2 7 0 5 (by omega), q2 7 0 5 (by omega), p2 7 0 5 (by omega), d1 7 0 5 (by omega), e7]
  have e5 : U4 7 0 0 5 - 1 = nI (pNs S - 1) := by rw [gk 5 (by omega), c3, en, show (1 : Int32) = nI 1 from rfl, pk_sub (by omega)]
  rw [e5]
  have eN : pNs (setF U4 7 0 0 5 (nI (pNs S - 1))) = pNs S - 1 := by
    show (setF U4 7 0 0 5 (nI (pNs S - 1)) 6 0 0 7).toNatClampNeg = _
    rw [sF_ne (by omega), gO 6 0 0 (by omega), e67]; exact nI_clamp (by omega)
  have eO : pOs (setF U4 7 0 0 5 (nI (pNs S - 1))) = pOs S := by
    show (setF U4 7 0 0 5 (nI (pNs S - 1)) 6 0 0 6).toNatClampNeg = _
    rw [sF_ne (by omega), gO 6 0 0 (by omega), f6 0 0 6 (by omega)]
  have eT : pTL (setF U4 7 0 0 5 (nI (pNs S - 1))) = pTL S := by
    show (setF U4 7 0 0 5 (nI (pNs S - 1)) 6 0 0 1).toNatClampNeg = _
    rw [sF_ne (by omega), gO 6 0 0 (by omega), f6 0 0 1 (by omega)]
  refine ⟨hq, by rw [sF_eq (by omega), e67], by rw [sF_ne (by omega), g0, d3], ?_, ?_, ⟨?_, ?_, fun k hk => ?_⟩, ?_, ?_, ?_, fun i hi => ?_⟩
  · have old' : rel (setF S 6 0 0 7 (nI (pNs S - 1))) ((pOs S + (pNs S - 1)) % 4 + 2) (mkT (S 7 0 (2 + (pNs S - 1 - (pNs S - 1))))) N A := rel_fr old (setF_m (by omega))
    obtain ⟨A', cp⟩ := copy_rel (T' := mkT (setF U4 7 0 0 5 (nI (pNs S - 1)) 7 0 1)) (m := 0) old' (by omega) (by omega) (by omega) (mkT_0 _ 8) (fun k hk => by
      rw [mkT_1, mkT_1, sF_ne (by omega), gR 1 k (by omega) (by omega) hk, show 2 + (pNs S - 1 - (pNs S - 1)) = 2 by omega])
    exact ⟨A', rel_fr cp (by funext g i k; rw [sF_ne (by omega), gO 0 g i (by omega)]; rfl)⟩
  · rw [sF_ne (by omega), gk 8 (by omega)]; exact a2
  · rw [sF_ne (by omega), gO 6 0 0 (by omega), f6 0 0 1 (by omega)]; exact b1
  · rw [sF_ne (by omega), sF_ne (by omega), gk 7 (by omega), gO 6 0 0 (by omega), f6 0 0 1 (by omega)]; exact b2
  · rw [eT] at hk
    rw [sF_ne (by omega), sF_ne (by omega), gO 6 0 1 (by omega), f6 0 1 k (by omega), gO 7 0 6 (by omega), e7]; exact b3 k hk
  · rw [sF_ne (by omega), gO 6 0 0 (by omega), f6 0 0 6 (by omega)]; exact c1
  · rw [sF_ne (by omega), gO 6 0 0 (by omega), e67]; exact okI_nI (by omega) (by omega)
  · rw [sF_eq (by omega), sF_ne (by omega), gO 6 0 0 (by omega), e67]
  · rw [eN] at hi ⊢
    rw [eO]
    refine relE_fr (c4 i (by omega)) (by omega) (by funext g q k; rw [sF_ne (by omega), gO _ g q (by omega), fM _ (by omega) (by omega)]) (fun k hk => ?_) (Nat.le_refl _)
    rw [sF_ne (by omega), gR _ k (by omega) (by omega) hk, show 2 + (pNs S - 1 - 1 - i) + 1 = 2 + (pNs S - 1 - i) by omega]
theorem undo_no {S : St} {N : Nat} (h : Inv S N) (hn1 : ¬ 1 ≤ pNs S) : rUndo S = (0, rCd S 1) := by
  obtain ⟨-, -, -, -, c2, c3, -⟩ := h
  have en : S 6 0 0 7 = nI (pNs S) := c2.1
  unfold rUndo
  rw [if_pos (by rw [c3, en, show pNs S = 0 by omega]; rfl)]

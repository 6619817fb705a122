/-! what the law asks of steps and runs -/
theorem roll_3 {S : St} {m g b q : Nat} : pRoll S m g m b 3 q = S m b 3 q := by
  obtain ⟨-, -, r0, rn⟩ := roll_at S m g
  by_cases h : b = g
  · subst h; exact r0 3 q (by omega) (by omega)
  · exact rn b 3 q h
theorem wc_7 {S : St} {m g j : Nat} {w : Bool} : (pWc S m g j w).2 m 4 3 7 = S m 4 3 7 :=
  lpE_ne (pWcF m g j w) (fun T => T m 4 3 7) (fun k T => by
    unfold pWcF
    split
    · rfl
    · split
      · split
        · dsimp only; rw [inc_ne (by omega), roll_3]
        · dsimp only; rw [inc_ne (by omega), roll_3]
      · rfl) _ 0 S
theorem wbe_7 {S : St} {m g j : Nat} : pWbe S m g j m 4 3 7 = S m 4 3 7 :=
  lp_ne (pWbeF m g j) (fun T => T m 4 3 7) (fun k T => by
    unfold pWbeF
    split
    · rfl
    · split
      · simp (disch := omega) only [pWB, inc, sF_eq, sF_ne]
      · rfl) _ 0 S
theorem tak_7 {S : St} {m g j n : Nat} : lp (pTakF m g j) n 0 S m 4 3 7 = S m 4 3 7 :=
  lp_ne (pTakF m g j) (fun T => T m 4 3 7) (fun k T => by
    unfold pTakF
    split
    · rfl
    · split
      · rfl
      · simp (disch := omega) only [inc, sF_eq, sF_ne]) n 0 S
theorem own_7 {S : St} {m g j : Nat} : pOwn S m g j m 4 3 7 = S m 4 3 7 := by
  unfold pOwn
  split
  · split
    · split
      · rfl
      · simp (disch := omega) only [pWB, inc, sF_eq, sF_ne]
    · rfl
  · unfold pOver
    try dsimp only
    rw [sF_ne (by omega), tak_7, wbe_7]
    split
    · exact inc_ne (by omega)
    · exact inc_ne (by omega)
theorem addE_7 {S : St} {m g1 i1 g2 i2 : Nat} {x t a b : Int32} (n1 : ¬ (g1 = 4 ∧ 4 ≤ i1)) (n2 : ¬ (g2 = 4 ∧ 4 ≤ i2)) : pAddE S m x t a m g1 i1 b m g2 i2 m 4 3 7 = S m 4 3 7 := by
  unfold pAddE
  split
  · rw [sF_ne (by omega), (slogL n1 n2 _).2.2 _ _ _ _ (by omega)]; simp (disch := omega) only [sF_eq, sF_ne]
  · rfl
theorem put_7 {S : St} {m g j : Nat} (hg : g < 4) : pPut S m g j m 4 3 7 = S m 4 3 7 := by
  unfold pPut
  split
  · simp (disch := omega) only [sF_eq, sF_ne]
  · unfold pAddW
    rw [addE_7 (by omega) (by omega)]; simp (disch := omega) only [sF_eq, sF_ne]
theorem note_ne7 {S : St} {m g j : Nat} (hg : g < 4) : pNote S m g j m 4 3 7 = S m 4 3 7 := by
  unfold pNote pNoteA
  split
  · split
    · simp (disch := omega) only [sF_eq, sF_ne]
    · simp (disch := omega) only [sF_eq, sF_ne]
  · rfl
theorem exec_7 {S : St} {m g kd j : Nat} {op : Int32} (hg : g < 4) : pExec S m g kd j op m 4 3 7 = S m 4 3 7 := by
  unfold pExec
  split
  · unfold pBegin
    split
    · rfl
    · split
      · simp (disch := omega) only [pBegT, sF_eq, sF_ne]
      · simp (disch := omega) only [pBegT, sF_eq, sF_ne]
  · split
    · unfold pCommit
      split
      · unfold pAddT; simp (disch := omega) only [pEndT, sF_eq, sF_ne]; exact addE_7 (by omega) (by omega)
      · rfl
    · split
      · unfold pRead
        split
        · unfold pGot
          try dsimp only
          rw [sF_ne (by omega), note_ne7 hg]
          split
          · unfold pMiss
            try dsimp only
            rw [sF_ne (by omega), sF_ne (by omega), wbe_7, inc_ne (by omega), wc_7]
          · exact wc_7
        · exact wc_7
      · split
        · unfold pWrite
          split
          · unfold pWrB
            split
            · rw [inc_ne (by omega), roll_3, wc_7]
            · rw [put_7 hg, own_7, wc_7]
          · exact wc_7
        · simp (disch := omega) only [sF_eq, sF_ne]
theorem step_7 {S : St} {m g : Nat} (hg : g < 4) : (pStep S m g).2 m 4 3 7 = S m 4 3 7 + 1 := by
  unfold pStep pStepK
  try dsimp only
  split
  · show setF _ m g 0 3 _ m 4 3 7 = _
    rw [sF_ne (by omega), exec_7 hg]; unfold inc; rw [sF_eq ⟨rfl, rfl, rfl, rfl⟩]
  · dsimp only; rw [exec_7 hg]; unfold inc; rw [sF_eq ⟨rfl, rfl, rfl, rfl⟩]
theorem rGo_13 {S : St} {a : Nat} (ha : a < 4) (hw : wfE S a) : okI ((rGo S a).2 7 0 0 13) 5 := by
  obtain ⟨w0, -, -, w4⟩ := wfE_go hw
  have hT : frT 5 (rBump (setF S 7 0 0 13 0) 20) (rGoB S a).2 := by
    unfold rGoB rExe
    exact rExec_T ha (fun z => by have := (w4 z).2; omega) w0.2
  have hb := hT.2 0 (okI_lit (k := 0) (by omega) (by omega) _ (by simp (disch := omega) only [rBump, sF_eq, sF_ne]; rfl)) (by omega)
  unfold rGo
  split
  · show okI (rPut (rGoB S a).2 a 1 (rOf (rGoB S a).2 a 1 + 1) 7 0 0 13) 5
    simp (disch := omega) only [rPut, rBump, rOf, sF_eq, sF_ne]
    exact hb
  · exact hb
/-- how many transactions are aborted in b steps -/
theorem oft_ab {S T : St} {m N b : Nat} {A : Int32} (hr : rel S m T N A) (hN : N + b < 2 ^ 30) : ∃ c, c ≤ 5 * b ∧ pAborts (pOft S m b) m = pAborts S m + nI c := by
  have key := lpE_rel (pOftF m) rRunF (fun k U V => (∃ c, c ≤ 5 * k ∧ pAborts U m = pAborts S m + nI c) ∧ ∃ A', rel U m V (N + k) A') (fun U _ => ∃ c, c ≤ 5 * b ∧ pAborts U m = pAborts S m + nI c) b (fun k U V hk ⟨⟨c, c1, c2⟩, A', q⟩ => by
    unfold pOftF rRunF
    rcases sch_rel q (by omega) with ⟨d1, d2, d3, -⟩ | ⟨d1, d2, d3, A2, d4⟩
    · rw [if_pos d1, d3, if_neg (show ¬ (false, V).1 = true from nt rfl), d2]
      exact Or.inr ⟨rfl, rfl, c, by omega, c2⟩
    · rw [if_neg d1, if_pos d2]
      refine Or.inl ⟨rfl, rfl, ?_, A2, d4⟩
      rcases draw_rel q with ⟨i, i1, i2, i3, -⟩ | ⟨i1, -⟩
      · have hi4 : i < 4 := by have := (cc_eq q).2; omega
        rw [i3, nI_clamp (by omega)]
        have ht := tick_rel q
        have hs := (step_rel ht (by show i < (pDrawS U m m 4 0 4).toNatClampNeg; simp (disch := omega) only [pDrawS, sF_eq, sF_ne]; exact i1) i2 (by omega)).2
        have h13 := rGo_13 hi4 (wf_rel ht hi4 i2).2
        obtain ⟨d, hd, ed⟩ := okI_ex h13
        have e11 : pAborts (pStep (pDrawS U m) m i).2 m = pAborts (pDrawS U m) m + (rGo (rTick V) i).2 7 0 0 13 := hs.1.2.2.2.2.2.2.2.2.2.2
        refine ⟨c + d, by omega, ?_⟩
        have eU : pAborts (pDrawS U m) m = pAborts U m := by unfold pAborts; simp (disch := omega) only [pDrawS, sF_eq, sF_ne]
        rw [e11, ed, eU, c2, Int32.add_assoc, nI_add]
      · rw [i1] at d1; exact absurd rfl d1) b 0 S T (by omega) ⟨⟨0, by omega, by rw [show nI 0 = 0 from rfl, Int32.add_zero]⟩, A, hr⟩
  unfold pOft
  rcases key with ⟨-, -, ⟨c, c1, c2⟩, -⟩ | ⟨-, -, c⟩
  · exact ⟨c, by omega, c2⟩
  · exact c
theorem lpE_ix {σ : Type} {f : Nat → σ → Bool × σ} (hf : ∀ k k' S, f k S = f k' S) : ∀ (n k k' : Nat) (S : σ), lpE f n k S = lpE f n k' S
  | 0, _, _, _ => rfl
  | n + 1, k, k', S => by rw [lpE, lpE, hf k k' S, lpE_ix hf n (k + 1) (k' + 1)]
/-- the reference's runs are like one (where the class's machine is beside it) -/
theorem runs_add {S T : St} {m N a b : Nat} {A : Int32} (hr : rel S m T N A) (hN : N + a + b < 2 ^ 30) : rRuns T (a + b) = rRuns (rRuns T a) b := by
  have key : ∀ (a k N : Nat) (S T : St) (A : Int32), rel S m T N A → N + a + b < 2 ^ 30 → (lpE rRunF (a + b) k T).2 = (lpE rRunF b k (lpE rRunF a k T).2).2 := by
    intro a
    induction a with
    | zero => intro k N S T A _ _; rw [Nat.zero_add]; rfl
    | succ a ih =>
      intro k N S T A hr hN
      have hf : ∀ k k' T, rRunF k T = rRunF k' T := fun _ _ _ => rfl
      rw [show a + 1 + b = (a + b) + 1 by omega, lpE, lpE]
      rcases sch_rel hr (by omega) with ⟨-, -, d3, -⟩ | ⟨-, d2, -, A2, d4⟩
      · have e : ∀ k, rRunF k T = (false, T) := fun k => by unfold rRunF; rw [d3, if_neg (show ¬ (false, T).1 = true from nt rfl)]
        rw [e k, if_neg Bool.false_ne_true, if_neg Bool.false_ne_true]
        cases b with
        | zero => rfl
        | succ b => rw [lpE, e k, if_neg Bool.false_ne_true]
      · have e : ∀ k, rRunF k T = (true, (rSch T).2) := fun k => by unfold rRunF; rw [if_pos d2]
        rw [e k, if_pos rfl, if_pos rfl]
        have := ih (k + 1) (N + 1) _ _ A2 d4 (by omega)
        rw [this, lpE_ix hf b (k + 1) k]
  exact key a 0 N S T A hr hN
/-- more steps have no fewer aborts -/
theorem abw_ok {S T : St} {N a b : Nat} {A x : Int32} (h : rel S 0 T N A) (hx : okI x 2) (ha : a ≤ 1000) (hb : b ≤ 1000) (hN : N + a + b < 2 ^ 30) : ¬ pAbW S x (a + b) < pAbW S x a := by
  obtain ⟨A', hA'⟩ := trial_rel h hx
  obtain ⟨c, c1, c2⟩ := oft_ab (b := a) hA' (by omega)
  obtain ⟨-, -, -, A2, h2⟩ := runs_rel (b := a) hA' (by omega)
  obtain ⟨d, d1, d2⟩ := oft_ab (b := b) h2 (by omega)
  have e : pOft (pTrial S x) 1 (a + b) = pOft (pOft (pTrial S x) 1 a) 1 b := by
    have key : ∀ (a k N : Nat) (S T : St) (A : Int32), rel S 1 T N A → N + a + b < 2 ^ 30 → (lpE (pOftF 1) (a + b) k S).2 = (lpE (pOftF 1) b k (lpE (pOftF 1) a k S).2).2 := by
      intro a
      induction a with
      | zero => intro k N S T A _ _; rw [Nat.zero_add]; rfl
      | succ a ih =>
        intro k N S T A hr hN
        have hf : ∀ k k' T, pOftF 1 k T = pOftF 1 k' T := fun _ _ _ => rfl
        rw [show a + 1 + b = (a + b) + 1 by omega, lpE, lpE]
        rcases sch_rel hr (by omega) with ⟨d1, d2, -, -⟩ | ⟨d1, -, -, A2, d4⟩
        · have e : ∀ k, pOftF 1 k S = (false, S) := fun k => by unfold pOftF; rw [if_pos d1, d2]
          rw [e k, if_neg Bool.false_ne_true, if_neg Bool.false_ne_true]
          cases b with
          | zero => rfl
          | succ b => rw [lpE, e k, if_neg Bool.false_ne_true]
        · have e : ∀ k, pOftF 1 k S = (true, (pStep (pDraw S 1).2 1 (pDraw S 1).1.toNatClampNeg).2) := fun k => by unfold pOftF; rw [if_neg d1]
          rw [e k, if_pos rfl, if_pos rfl]
          have := ih (k + 1) (N + 1) _ _ A2 d4 (by omega)
          rw [this, lpE_ix hf b (k + 1) k]
    exact key a 0 N _ _ A' hA' hN
  unfold pAbW
  rw [e, d2, c2, Int32.add_assoc, nI_add]
  have e1 : ∀ k, pAborts (pTrial S x) 1 + nI k - pAborts (pTrial S x) 1 = nI k := fun k => by rw [Int32.add_comm, Int32.add_sub_cancel]
  rw [e1, e1]
  exact nI_nlt (by omega) (by omega)
theorem abw_cg {S S' T : St} {N b : Nat} {A x : Int32} (h : rel S 0 T N A) (e : S' 0 = S 0) (hx : okI x 2) (hN : N + b < 2 ^ 30) : pAbW S' x b = pAbW S x b := by
  obtain ⟨-, -, u3, -⟩ := abw_key (b := b) h hx hN
  obtain ⟨-, -, v3, -⟩ := abw_key (b := b) (rel_fr h e) hx hN
  rw [← u3, ← v3]
theorem abw_0 (S : St) (x : Int32) : pAbW S x 0 = 0 := by
  unfold pAbW
  show pAborts (pTrial S x) 1 - pAborts (pTrial S x) 1 = 0
  exact Int32.sub_self _
/-- two runs, undone, and one of all their steps -/
theorem two_runs {S S6 : St} {n N P k a b : Nat} (h : LI S n N P k) (ha : a ≤ 1000) (hb : b ≤ 1000) (hN : N + a + b < 2 ^ 30) (h6 : ∀ m, m ≤ 5 → S6 m = pRunS (pRunS S a) b m) (h66 : ∀ q, S6 6 0 0 q = pRunS (pRunS S a) b 6 0 0 q) (hL6 : LI S6 n (N + a + b) P 2) (h1 : 1 ≤ pNs S6) (h2 : 1 ≤ pNs (pUndo S6)) :
    pFinC (pRunS (pUndo (pUndo S6)) (a + b)) 0 = pFinC (pRunS (pRunS S a) b) 0 ∧ pRunS (pUndo (pUndo S6)) (a + b) 0 4 3 7 = pRunS (pRunS S a) b 0 4 3 7 ∧ ∀ l, l < 8 → pCom (pRunS (pUndo (pUndo S6)) (a + b)) 0 l = pCom (pRunS (pRunS S a) b) 0 l := by
  obtain ⟨⟨hM, T, A, hr⟩, hb1, hc, hd, -⟩ := h
  have h8 := rel_8 hr (by omega)
  -- the first run
  have r1 := rel_fr hr (pSave_0 S)
  obtain ⟨-, -, -, A1, q1⟩ := runs_rel (b := a) r1 (by omega)
  obtain ⟨c1, c2, c3, c4, c5, c6, c7⟩ := sv_step (S := S) (S' := pRunS S a) hc hd (fun m h2 h5 => oft_M m (by omega)) (fun q _ => by rw [show pRunS S a 6 = pSave S 6 from oft_M 6 (by omega)])
  obtain ⟨A2, q2⟩ := copy_rel (T' := T) (m := tq (pRunS S a) 0) hr (by omega) (by omega) (by omega) h8 (fun _ _ => rfl)
  have s1 : rel (pRunS S a) (tq (pRunS S a) 0) T N A2 := rel_fr q2 c5
  -- the second
  have r2 := rel_fr q1 (pSave_0 (pRunS S a))
  obtain ⟨-, -, -, A3, q3⟩ := runs_rel (b := b) r2 (by omega)
  obtain ⟨d1, d2, d3, d4, d5, d6, d7⟩ := sv_step (S := pRunS S a) (S' := pRunS (pRunS S a) b) c1 c2 (fun m h2 h5 => oft_M m (by omega)) (fun q _ => by rw [show pRunS (pRunS S a) b 6 = pSave (pRunS S a) 6 from oft_M 6 (by omega)])
  obtain ⟨e1, e2, e3⟩ := d6 0 (by have := d7 c3; omega)
  have s2 : rel (pRunS (pRunS S a) b) (tq (pRunS (pRunS S a) b) 1) T N A2 := by rw [e2]; exact rel_fr s1 e3
  have t6 : tq S6 1 = tq (pRunS (pRunS S a) b) 1 := by
    unfold tq
    rw [show pNs S6 = pNs (pRunS (pRunS S a) b) by show (S6 6 0 0 7).toNatClampNeg = _; rw [h66], show pOs S6 = pOs (pRunS (pRunS S a) b) by show (S6 6 0 0 6).toNatClampNeg = _; rw [h66]]
  have s6 : rel S6 (tq S6 1) T N A2 := by rw [t6]; exact rel_fr s2 (h6 _ (by unfold tq; omega))
  -- undone twice
  obtain ⟨u1, -, -, u4, u5, u6, u7⟩ := LI_undo (k := 1) hL6 h1
  have t7 : tq (pUndo S6) 0 = tq S6 1 := u6 0 (by omega)
  have s7 : rel (pUndo S6) (tq (pUndo S6) 0) T N A2 := by rw [t7]; exact rel_fr s6 (u7 _ (by unfold tq; omega) (by unfold tq; omega))
  obtain ⟨v1, -, -, v4, v5, v6, v7⟩ := LI_undo (k := 0) u1 h2
  have s7' : rel (setF (pUndo S6) 6 0 0 7 (nI (pNs (pUndo S6) - 1))) (tq (pUndo S6) 0) T N A2 := rel_fr s7 (setF_m (by unfold tq; omega))
  obtain ⟨A4, q4⟩ := copy_rel (T' := T) (m := 0) s7' (by unfold tq; omega) (by omega) (by unfold tq; omega) h8 (fun _ _ => rfl)
  have s8 : rel (pUndo (pUndo S6)) 0 T N A4 := rel_fr q4 v4
  -- the run of all
  obtain ⟨-, -, -, A5, q5⟩ := runs_rel (b := a + b) (rel_fr s8 (pSave_0 _)) (by omega)
  have q5' : rel (pRunS (pUndo (pUndo S6)) (a + b)) 0 (rRuns T (a + b)) (N + (a + b)) A5 := q5
  rw [runs_add hr hN] at q5'
  have q3' : rel (pRunS (pRunS S a) b) 0 (rRuns (rRuns T a) b) (N + a + b) A3 := q3
  refine ⟨by rw [(finC_rel q5').1, (finC_rel q3').1], by rw [← q_ctr q5' (k := 7) (by omega), ← q_ctr q3' (k := 7) (by omega)], fun l hl => ?_⟩
  have z1 := q_mem q5' hl true
  have z2 := q_mem q3' hl true
  rw [if_pos rfl] at z1 z2
  rw [← z1, ← z2]

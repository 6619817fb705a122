/-! the class's machine m alone is written -/
def frM (m : Nat) (S S' : St) : Prop := ∀ m', m' ≠ m → S' m' = S m'
theorem frM.rf (m : Nat) (S : St) : frM m S S := fun _ _ => rfl
theorem frM.tr {m : Nat} {S T U : St} (h1 : frM m S T) (h2 : frM m T U) : frM m S U := fun m' h => (h2 m' h).trans (h1 m' h)
theorem frM.set {m g i k : Nat} {S : St} {v : Int32} : frM m S (setF S m g i k v) := fun m' h => setF_m h
theorem frMlp (m : Nat) (f : Nat → St → St) (h : ∀ k S, frM m S (f k S)) : ∀ (n k : Nat) (S : St), frM m S (lp f n k S)
  | 0, _, S => frM.rf m S
  | n + 1, k, S => (h k S).tr (frMlp m f h n (k + 1) (f k S))
theorem frMlpE (m : Nat) (f : Nat → St → Bool × St) (h : ∀ k S, frM m S (f k S).2) : ∀ (n k : Nat) (S : St), frM m S (lpE f n k S).2
  | 0, _, S => frM.rf m S
  | n + 1, k, S => by
    rw [lpE]
    split
    · exact (h k S).tr (frMlpE m f h n (k + 1) (f k S).2)
    · exact h k S
theorem inc_M {m k : Nat} {S : St} : frM m S (inc S m k) := frM.set
theorem endT_M {m g : Nat} {S : St} : frM m S (pEndT S m g) := ((frM.set.tr frM.set).tr frM.set).tr frM.set
theorem roll_M {m g : Nat} {S : St} : frM m S (pRoll S m g) := by
  have h1 : frM m S (lp (pRollF m g) 8 0 S) := frMlp m _ (fun k S => by
    unfold pRollF
    split
    · exact frM.set
    · exact frM.rf m S) 8 0 S
  exact ((((h1.tr frM.set).tr endT_M).tr frM.set).tr frM.set).tr frM.set
theorem wc_M {m g j : Nat} {w : Bool} {S : St} : frM m S (pWc S m g j w).2 := frMlpE m _ (fun k S => by
  unfold pWcF
  split
  · exact frM.rf m S
  · split
    · split
      · exact roll_M.tr inc_M
      · exact roll_M.tr inc_M
    · exact frM.rf m S) _ 0 S
theorem wbM {m g j : Nat} {S : St} : frM m S (pWB S m g j) := frM.set.tr inc_M
theorem wbe_M {m g j : Nat} {S : St} : frM m S (pWbe S m g j) := frMlp m _ (fun k S => by
  unfold pWbeF
  split
  · exact frM.rf m S
  · split
    · exact wbM.tr frM.set
    · exact frM.rf m S) _ 0 S
theorem miss_M {m g j : Nat} {S : St} : frM m S (pMiss S m g j) := ((inc_M.tr wbe_M).tr frM.set).tr frM.set
theorem note_M {m g j : Nat} {S : St} : frM m S (pNote S m g j) := by
  unfold pNote
  split
  · unfold pNoteA
    split
    · exact frM.set
    · exact (frM.set.tr frM.set).tr frM.set
  · exact frM.rf m S
theorem got_M {m g j : Nat} {S : St} : frM m S (pGot S m g j) := note_M.tr frM.set
theorem read_M {m g j : Nat} {S : St} : frM m S (pRead S m g j) := by
  unfold pRead
  split
  · split
    · exact (wc_M.tr miss_M).tr got_M
    · exact wc_M.tr got_M
  · exact wc_M
theorem over_M {m g j : Nat} {S : St} : frM m S (pOver S m g j) := by
  have h1 : ∀ T : St, frM m T (setF (lp (pTakF m g j) (pCC (pWbe T m g j) m) 0 (pWbe T m g j)) m g 1 j 2) := fun T => (wbe_M.tr (frMlp m _ (fun k S => by
    unfold pTakF
    split
    · exact frM.rf m S
    · split
      · exact frM.rf m S
      · exact frM.set.tr inc_M) _ 0 _)).tr frM.set
  unfold pOver
  by_cases hs : S m g 1 j = 0
  · simp only [if_pos hs]; exact inc_M.tr (h1 _)
  · simp only [if_neg hs]; exact inc_M.tr (h1 _)
theorem own_M {m g j : Nat} {S : St} : frM m S (pOwn S m g j) := by
  unfold pOwn
  split
  · split
    · split
      · exact frM.rf m S
      · exact wbM
    · exact frM.rf m S
  · exact over_M
theorem addE_M {m q1 g1 i1 q2 g2 i2 : Nat} {x t a b : Int32} {S : St} : frM m S (pAddE S m x t a q1 g1 i1 b q2 g2 i2) := by
  unfold pAddE
  split
  · exact ((((frM.set.tr frM.set).tr frM.set).tr frM.set).tr (frMlp m _ (fun k S => by unfold pLogF; exact frM.set.tr frM.set) 8 0 _)).tr frM.set
  · exact frM.rf m S
theorem put_M {m g j : Nat} {S : St} : frM m S (pPut S m g j) := by
  rw [pPut_x rfl]
  split
  · exact frM.set.tr frM.set
  · exact frM.set.tr addE_M
theorem write_M {m g j : Nat} {S : St} : frM m S (pWrite S m g j) := by
  unfold pWrite
  split
  · unfold pWrB
    split
    · exact (wc_M.tr roll_M).tr inc_M
    · exact (wc_M.tr own_M).tr put_M
  · exact wc_M
theorem begT_M {m g : Nat} {x : Int32} {S : St} : frM m S (pBegT S m g x) := ((frM.set.tr frM.set).tr frM.set).tr frM.set
theorem begin_M {m g : Nat} {S : St} : frM m S (pBegin S m g) := by
  unfold pBegin
  split
  · exact frM.rf m S
  · split
    · exact begT_M.tr frM.set
    · exact begT_M
theorem commit_M {m g : Nat} {S : St} : frM m S (pCommit S m g) := by
  unfold pCommit
  split
  · exact (addE_M.tr endT_M).tr frM.set
  · exact frM.rf m S
theorem exec_M {m g c j : Nat} {op : Int32} {S : St} : frM m S (pExec S m g c j op) := by
  unfold pExec
  split
  · exact begin_M
  · split
    · exact commit_M
    · split
      · exact read_M
      · split
        · exact write_M
        · exact frM.set
theorem step_M {m g : Nat} {S : St} : frM m S (pStep S m g).2 := by
  unfold pStep pStepK
  dsimp only
  split
  · exact (inc_M.tr exec_M).tr frM.set
  · exact inc_M.tr exec_M
theorem draw_M {m : Nat} {S : St} : frM m S (pDraw S m).2 := by
  unfold pDraw
  split
  · exact frM.set
  · exact frM.rf m S
theorem oft_M {m b : Nat} {S : St} : frM m S (pOft S m b) := frMlpE m _ (fun k S => by
  unfold pOftF
  split
  · exact draw_M
  · exact draw_M.tr step_M) _ 0 S
theorem unt_M {m : Nat} {S : St} : frM m S (pUnt S m).2 := by
  have key : ∀ (n k : Nat) (q : St × Int32), frM m q.1 (lpE (pUntF m) n k q).2.1 := by
    intro n
    induction n with
    | zero => intro k q; exact frM.rf m q.1
    | succ n ih =>
      intro k q
      have h : frM m q.1 (pUntF m k q).2.1 := by
        unfold pUntF
        split
        · exact draw_M
        · exact draw_M.tr step_M
      rw [lpE]
      split
      · exact h.tr (ih (k + 1) _)
      · exact h
  unfold pUnt
  split
  · exact key 2000 0 (S, 0)
  · exact key 2000 0 (S, 0)
theorem outL_M {m j n : Nat} {S : St} : frM m S (lp (pOutF m j) n 0 S) := frMlp m _ (fun k S => by
  unfold pOutF
  split
  · exact (roll_M.tr inc_M).tr frM.set
  · exact frM.set) _ 0 S
theorem out_M {m j : Nat} {v : Int32} {S : St} : frM m S (pOut S m j v).2 := (outL_M.tr frM.set).tr addE_M
theorem clear_M {m g : Nat} {S : St} : frM m S (pClear S m g) := by
  unfold pClear
  exact ((((((frMlp m _ (fun k S => by unfold pClearF; exact frM.set.tr frM.set) 8 0 _).tr frM.set).tr frM.set).tr frM.set).tr endT_M).tr frM.set).tr (frM.set.tr frM.set)
theorem start_M {m : Nat} {a b d : Int32} {S : St} : frM m S (pStart S m a b d) := by
  unfold pStart
  exact (((((((frM.set.tr frM.set).tr frM.set).tr frM.set).tr frM.set).tr (frMlp m _ (fun k S => clear_M) 4 0 _)).tr (frMlp m _ (fun k S => frM.set) 8 0 _)).tr (frMlp m _ (fun k S => frM.set) 8 0 _))
theorem trial_M {x : Int32} {S : St} : frM 1 S (pTrial S x) := fun m' h => by
  unfold pTrial
  rw [setF_m h, pCopyM_m h]
theorem take_M {m g m2 g2 : Nat} {S : St} : frM m S (pTake S m g m2 g2) := fun m' h => by
  unfold pTake
  rw [setF_m h, setF_m h, setF_m h, pCopyP_m h]

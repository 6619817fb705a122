/-! the questions, the trials and undo, as contracts -/
section ST
variable {l : Launch} {Z : wZ} {S : St} {h : Hl} {N : Nat}
theorem st_state (hO : zO Z = true) (hfl : l.stackTraces = false) (hI : Inv S N) (x y : Int32) : StW l Z S h N yL_state cL_state 5 [(0, 10, 13, 30)] [.ref (zA Z 6 0 0), .int x, .int y, .ref (zA Z 8 0 0)] yX6_state cX6_state 3 [.ref (zA Z 7 0 0), .int x, .int y] := by
  obtain ⟨A, hA⟩ := Inv_rel0 hI
  obtain ⟨A0, hA0⟩ := Inv_rel0 (Inv_rCd 0 hI)
  rcases core_in hA x with ⟨a, a1, a4, rfl, hc, hr⟩ | ⟨hc, hr⟩
  · rcases line_in y with ⟨j, hj, rfl, hp, hl⟩ | ⟨hp, hl⟩
    · exact StW.ask (w_state l Z hO S _ h _ _ _ (c_X5_state l Z S h a a4 hc j hj)) (c_X6_state l Z _ _ a a4 hr j hj hl) ⟨Nat.le_of_ble_eq_true rfl, Nat.le_of_ble_eq_true rfl⟩ ⟨Nat.le_of_ble_eq_true rfl, Nat.le_of_ble_eq_true rfl⟩ (q_state hA0 a4 hj).1 hI
    · exact StW.thr (by decide) (wt_state l Z S h _ y (t_X5_state l hfl Z S h _ y (fun _ q => nt hp q))) (c_X6_state_nl l Z S h a a4 hr y hl) ⟨Nat.le_of_ble_eq_true rfl, Nat.le_of_ble_eq_true rfl⟩ ⟨Nat.le_of_ble_eq_true rfl, Nat.le_of_ble_eq_true rfl⟩ hI
  · exact StW.thr (by decide) (wt_state l Z S h x y (t_X5_state l hfl Z S h x y (fun q _ => nt hc q))) (c_X6_state_no l Z S h x y hr) ⟨Nat.le_of_ble_eq_true rfl, Nat.le_of_ble_eq_true rfl⟩ ⟨Nat.le_of_ble_eq_true rfl, Nat.le_of_ble_eq_true rfl⟩ hI
theorem st_cached (hO : zO Z = true) (hfl : l.stackTraces = false) (hI : Inv S N) (x y : Int32) : StW l Z S h N yL_cached cL_cached 5 [(0, 10, 13, 30)] [.ref (zA Z 6 0 0), .int x, .int y, .ref (zA Z 8 0 0)] yX6_cached cX6_cached 3 [.ref (zA Z 7 0 0), .int x, .int y] := by
  obtain ⟨A, hA⟩ := Inv_rel0 hI
  obtain ⟨A0, hA0⟩ := Inv_rel0 (Inv_rCd 0 hI)
  rcases core_in hA x with ⟨a, a1, a4, rfl, hc, hr⟩ | ⟨hc, hr⟩
  · rcases line_in y with ⟨j, hj, rfl, hp, hl⟩ | ⟨hp, hl⟩
    · exact StW.ask (w_cached l Z hO S _ h _ _ _ (c_X5_cached l Z S h a a4 hc j hj)) (c_X6_cached l Z _ _ a a4 hr j hj hl) ⟨Nat.le_of_ble_eq_true rfl, Nat.le_of_ble_eq_true rfl⟩ ⟨Nat.le_of_ble_eq_true rfl, Nat.le_of_ble_eq_true rfl⟩ (q_state hA0 a4 hj).2 hI
    · exact StW.thr (by decide) (wt_cached l Z S h _ y (t_X5_cached l hfl Z S h _ y (fun _ q => nt hp q))) (c_X6_cached_nl l Z S h a a4 hr y hl) ⟨Nat.le_of_ble_eq_true rfl, Nat.le_of_ble_eq_true rfl⟩ ⟨Nat.le_of_ble_eq_true rfl, Nat.le_of_ble_eq_true rfl⟩ hI
  · exact StW.thr (by decide) (wt_cached l Z S h x y (t_X5_cached l hfl Z S h x y (fun q _ => nt hc q))) (c_X6_cached_no l Z S h x y hr) ⟨Nat.le_of_ble_eq_true rfl, Nat.le_of_ble_eq_true rfl⟩ ⟨Nat.le_of_ble_eq_true rfl, Nat.le_of_ble_eq_true rfl⟩ hI
theorem st_memory (hO : zO Z = true) (hfl : l.stackTraces = false) (hI : Inv S N) (x : Int32) (w : Bool) : StW l Z S h N yL_memory cL_memory 5 [(0, 10, 13, 30)] [.ref (zA Z 6 0 0), .int x, .int (bI w), .ref (zA Z 8 0 0)] yX6_memory cX6_memory 3 [.ref (zA Z 7 0 0), .int x, .int (bI w)] := by
  obtain ⟨A0, hA0⟩ := Inv_rel0 (Inv_rCd 0 hI)
  obtain ⟨⟨f1, f2, f3⟩, ⟨f4, f5⟩, f6, f7, f8⟩ := Inv_facts hI
  rcases line_in x with ⟨j, hj, rfl, hp, hl⟩ | ⟨hp, hl⟩
  · exact StW.ask (w_memory l Z hO S _ h _ w _ (c_X5_memory l Z S h j hj w f4)) (c_X6_memory l Z _ _ j hj hl w f7) ⟨Nat.le_of_ble_eq_true rfl, Nat.le_of_ble_eq_true rfl⟩ ⟨Nat.le_of_ble_eq_true rfl, Nat.le_of_ble_eq_true rfl⟩ (q_mem hA0 hj w) hI
  · exact StW.thr (by decide) (wt_memory l Z S h x w (t_X5_memory l hfl Z S h x w hp)) (c_X6_memory_nl l Z S h x w hl) ⟨Nat.le_of_ble_eq_true rfl, Nat.le_of_ble_eq_true rfl⟩ ⟨Nat.le_of_ble_eq_true rfl, Nat.le_of_ble_eq_true rfl⟩ hI
theorem st_set (hO : zO Z = true) (hfl : l.stackTraces = false) (hI : Inv S N) (x : Int32) (w : Bool) : StW l Z S h N yL_set cL_set 5 [(0, 10, 13, 30)] [.ref (zA Z 6 0 0), .int x, .int (bI w), .ref (zA Z 8 0 0)] yX6_set cX6_set 3 [.ref (zA Z 7 0 0), .int x, .int (bI w)] := by
  obtain ⟨A, hA⟩ := Inv_rel0 hI
  obtain ⟨A0, hA0⟩ := Inv_rel0 (Inv_rCd 0 hI)
  rcases core_in hA x with ⟨a, a1, a4, rfl, hc, hr⟩ | ⟨hc, hr⟩
  · exact StW.ask (w_set l Z hO S _ h _ w _ (c_X5_set l Z S h a a4 hc w)) (c_X6_set l Z _ _ a a4 hr w) ⟨Nat.le_of_ble_eq_true rfl, Nat.le_of_ble_eq_true rfl⟩ ⟨Nat.le_of_ble_eq_true rfl, Nat.le_of_ble_eq_true rfl⟩ (q_set hA0 a4 w) hI
  · exact StW.thr (by decide) (wt_set l Z S h x w (t_X5_set l hfl Z S h x w hc)) (c_X6_set_no l Z S h x w hr) ⟨Nat.le_of_ble_eq_true rfl, Nat.le_of_ble_eq_true rfl⟩ ⟨Nat.le_of_ble_eq_true rfl, Nat.le_of_ble_eq_true rfl⟩ hI
theorem st_core (hO : zO Z = true) (hfl : l.stackTraces = false) (hI : Inv S N) (x y : Int32) : StW l Z S h N yL_core cL_core 5 [(0, 10, 13, 30), (0, 10, 17, 13)] [.ref (zA Z 6 0 0), .int x, .int y, .ref (zA Z 8 0 0)] yX6_core cX6_core 3 [.ref (zA Z 7 0 0), .int x, .int y] := by
  obtain ⟨A, hA⟩ := Inv_rel0 hI
  obtain ⟨A0, hA0⟩ := Inv_rel0 (Inv_rCd 0 hI)
  rcases core_in hA x with ⟨a, a1, a4, rfl, hc, hr⟩ | ⟨hc, hr⟩
  · rcases in_ix y (n := 6) (by omega) with ⟨k, hk, rfl, h3, h4, h5⟩ | ⟨h1, h2⟩
    · exact StW.ask (w_core l Z hO S _ h _ _ _ (c_X5_core l Z S h a a4 hc k hk)) (c_X6_core l Z _ _ a a4 hr k hk h5) ⟨Nat.le_of_ble_eq_true rfl, Nat.le_of_ble_eq_true rfl⟩ ⟨Nat.le_of_ble_eq_true rfl, Nat.le_of_ble_eq_true rfl⟩ (q_core hA0 a4 hk) hI
    · exact StW.thr (by decide) (wt_core_what l Z S h _ y (t_X5_core_what l hfl Z S h _ y hc (fun q1 q2 => h1.elim q1 (fun z => Int32.not_le.mpr q2 z.2)))) (c_X6_core_nk l Z S h a a4 hr y h2) ⟨Nat.le_of_ble_eq_true rfl, Nat.le_of_ble_eq_true rfl⟩ ⟨Nat.le_of_ble_eq_true rfl, Nat.le_of_ble_eq_true rfl⟩ hI
  · exact StW.thr (by decide) (wt_core l Z S h x y (t_X5_core l hfl Z S h x y hc)) (c_X6_core_no l Z S h x y hr) ⟨Nat.le_of_ble_eq_true rfl, Nat.le_of_ble_eq_true rfl⟩ ⟨Nat.le_of_ble_eq_true rfl, Nat.le_of_ble_eq_true rfl⟩ hI
theorem st_value (hO : zO Z = true) (hfl : l.stackTraces = false) (hI : Inv S N) (y : Int32) : StW l Z S h N yL_value cL_value 4 [(0, 9, 12, 13)] [.ref (zA Z 6 0 0), .int y, .ref (zA Z 8 0 0)] yX6_value cX6_value 2 [.ref (zA Z 7 0 0), .int y] := by
  obtain ⟨A0, hA0⟩ := Inv_rel0 (Inv_rCd 0 hI)
  obtain ⟨⟨f1, f2, f3⟩, ⟨f4, f5⟩, f6, f7, f8⟩ := Inv_facts hI
  rcases in_ix y (n := 5) (by omega) with ⟨k, hk, rfl, h3, h4, h5⟩ | ⟨h1, h2⟩
  · exact StW.ask (w_value l Z hO S _ h _ _ (c_X5_value l Z S h k hk f4)) (c_X6_value l Z _ _ f7 k hk h5) ⟨Nat.le_of_ble_eq_true rfl, Nat.le_of_ble_eq_true rfl⟩ ⟨Nat.le_of_ble_eq_true rfl, Nat.le_of_ble_eq_true rfl⟩ (q_value hA0 hk) hI
  · exact StW.thr (by decide) (wt_value l Z S h y (t_X5_value l hfl Z S h y (fun q1 q2 => h1.elim q1 (fun z => Int32.not_le.mpr q2 z.2)))) (c_X6_value_nk l Z S h y h2) ⟨Nat.le_of_ble_eq_true rfl, Nat.le_of_ble_eq_true rfl⟩ ⟨Nat.le_of_ble_eq_true rfl, Nat.le_of_ble_eq_true rfl⟩ hI
theorem st_counter (hO : zO Z = true) (hfl : l.stackTraces = false) (hI : Inv S N) (y : Int32) : StW l Z S h N yL_counter cL_counter 4 [(0, 9, 12, 13)] [.ref (zA Z 6 0 0), .int y, .ref (zA Z 8 0 0)] yX6_counter cX6_counter 2 [.ref (zA Z 7 0 0), .int y] := by
  obtain ⟨A0, hA0⟩ := Inv_rel0 (Inv_rCd 0 hI)
  rcases in_ix y (n := 8) (by omega) with ⟨k, hk, rfl, h3, h4, h5⟩ | ⟨h1, h2⟩
  · exact StW.ask (w_counter l Z hO S _ h _ _ (c_X5_counter l Z S h k hk)) (c_X6_counter l Z _ _ k hk h5) ⟨Nat.le_of_ble_eq_true rfl, Nat.le_of_ble_eq_true rfl⟩ ⟨Nat.le_of_ble_eq_true rfl, Nat.le_of_ble_eq_true rfl⟩ (q_ctr hA0 hk) hI
  · exact StW.thr (by decide) (wt_counter l Z S h y (t_X5_counter l hfl Z S h y (fun q1 q2 => h1.elim q1 (fun z => Int32.not_le.mpr q2 z.2)))) (c_X6_counter_nk l Z S h y h2) ⟨Nat.le_of_ble_eq_true rfl, Nat.le_of_ble_eq_true rfl⟩ ⟨Nat.le_of_ble_eq_true rfl, Nat.le_of_ble_eq_true rfl⟩ hI
theorem st_commit (hO : zO Z = true) (hfl : l.stackTraces = false) (hI : Inv S N) (x y : Int32) : StW l Z S h N yL_commit cL_commit 5 [(0, 10, 13, 30), (0, 10, 17, 13)] [.ref (zA Z 6 0 0), .int x, .int y, .ref (zA Z 8 0 0)] yX6_commit cX6_commit 4 [.ref (zA Z 7 0 0), .int x, .int y] := by
  obtain ⟨A, hA⟩ := Inv_rel0 hI
  obtain ⟨A0, hA0⟩ := Inv_rel0 (Inv_rCd 0 hI)
  rcases ent_in hA x with ⟨q, q1, q4, rfl, hc, hr⟩ | ⟨hc, hr⟩
  · rcases in_ix y (n := 4) (by omega) with ⟨k, hk, rfl, h3, h4, h5⟩ | ⟨h1, h2⟩
    · have hC : ∀ h0, Ci l yX6_commit cX6_commit 4 .int 1 22 Z [.ref (zA Z 7 0 0), .int (nI q), .int (nI k)] S h0 (rComQ (rCd S 0) q k) (rCd S 0) h0 := fun h0 => by
        rcases (show k = 0 ∨ k = 1 ∨ k = 2 ∨ k = 3 by omega) with rfl | rfl | rfl | rfl
        · exact c_X6_commit_0 l Z S h0 q q4 hr
        · exact c_X6_commit_1 l Z S h0 q q4 hr
        · exact c_X6_commit_2 l Z S h0 q q4 hr
        · exact c_X6_commit_3 l Z S h0 q q4 hr
      exact StW.ask (w_commit l Z hO S _ h _ _ _ (c_X5_commit l Z S h q q4 hc k hk)) (hC _) ⟨Nat.le_of_ble_eq_true rfl, Nat.le_of_ble_eq_true rfl⟩ ⟨Nat.le_of_ble_eq_true rfl, Nat.le_of_ble_eq_true rfl⟩ (q_commit hA0 q1 hk) hI
    · exact StW.thr (by decide) (wt_commit_what l Z S h _ y (t_X5_commit_what l hfl Z S h _ y hc (fun q1 q2 => h1.elim q1 (fun z => Int32.not_le.mpr q2 z.2)))) (c_X6_commit_nk l Z S h q q4 hr y h2) ⟨Nat.le_of_ble_eq_true rfl, Nat.le_of_ble_eq_true rfl⟩ ⟨Nat.le_of_ble_eq_true rfl, Nat.le_of_ble_eq_true rfl⟩ hI
  · exact StW.thr (by decide) (wt_commit l Z S h x y (t_X5_commit l hfl Z S h x y hc)) (c_X6_commit_no l Z S h x y hr) ⟨Nat.le_of_ble_eq_true rfl, Nat.le_of_ble_eq_true rfl⟩ ⟨Nat.le_of_ble_eq_true rfl, Nat.le_of_ble_eq_true rfl⟩ hI
theorem st_commitValue (hO : zO Z = true) (hfl : l.stackTraces = false) (hI : Inv S N) (x y : Int32) (w : Bool) : StW l Z S h N yL_commitValue cL_commitValue 6 [(0, 12, 15, 30)] [.ref (zA Z 6 0 0), .int x, .int y, .int (bI w), .ref (zA Z 8 0 0)] yX6_commitValue cX6_commitValue 4 [.ref (zA Z 7 0 0), .int x, .int y, .int (bI w)] := by
  obtain ⟨A, hA⟩ := Inv_rel0 hI
  obtain ⟨A0, hA0⟩ := Inv_rel0 (Inv_rCd 0 hI)
  rcases ent_in hA x with ⟨q, q1, q4, rfl, hc, hr⟩ | ⟨hc, hr⟩
  · rcases line_in y with ⟨j, hj, rfl, hp, hl⟩ | ⟨hp, hl⟩
    · exact StW.ask (w_commitValue l Z hO S _ h _ _ w _ (c_X5_commitValue l Z S h q q4 hc j hj w)) (c_X6_commitValue l Z _ _ q q4 hr j hj hl w) ⟨Nat.le_of_ble_eq_true rfl, Nat.le_of_ble_eq_true rfl⟩ ⟨Nat.le_of_ble_eq_true rfl, Nat.le_of_ble_eq_true rfl⟩ (q_cval hA0 q1 hj w) hI
    · exact StW.thr (by decide) (wt_commitValue l Z S h _ y w (t_X5_commitValue l hfl Z S h _ y w (fun _ q => nt hp q))) (c_X6_commitValue_nl l Z S h q q4 hr y w hl) ⟨Nat.le_of_ble_eq_true rfl, Nat.le_of_ble_eq_true rfl⟩ ⟨Nat.le_of_ble_eq_true rfl, Nat.le_of_ble_eq_true rfl⟩ hI
  · exact StW.thr (by decide) (wt_commitValue l Z S h x y w (t_X5_commitValue l hfl Z S h x y w (fun q _ => nt hc q))) (c_X6_commitValue_no l Z S h x y w hr) ⟨Nat.le_of_ble_eq_true rfl, Nat.le_of_ble_eq_true rfl⟩ ⟨Nat.le_of_ble_eq_true rfl, Nat.le_of_ble_eq_true rfl⟩ hI
theorem st_finish (hO : zO Z = true) (hfl : l.stackTraces = false) (hI : Inv S N) (hN : N + 2000 < 2 ^ 30) (x : Int32) : StW l Z S h N yL_finish cL_finish 4 [(0, 9, 12, 13)] [.ref (zA Z 6 0 0), .int x, .ref (zA Z 8 0 0)] yX6_finish cX6_finish 2 [.ref (zA Z 7 0 0), .int x] := by
  rcases pol_in x with ⟨kx, px, rx⟩ | ⟨px, rx⟩
  · obtain ⟨q1, q2, q3, q4, q5⟩ := finish_ok hI kx hN
    exact StW.ret (w_finish l Z hO S _ h x _ (c_X5_finish l Z S h x px q1)) (c_X6_finish l Z _ _ x rx q2) ⟨Nat.le_of_ble_eq_true rfl, Nat.le_of_ble_eq_true rfl⟩ ⟨Nat.le_of_ble_eq_true rfl, Nat.le_of_ble_eq_true rfl⟩ q3 q4 q5 (by omega)
  · exact StW.thr (by decide) (wt_finish l Z S h x (t_X5_finish l hfl Z S h x px)) (c_X6_finish_no l Z S h x rx) ⟨Nat.le_of_ble_eq_true rfl, Nat.le_of_ble_eq_true rfl⟩ ⟨Nat.le_of_ble_eq_true rfl, Nat.le_of_ble_eq_true rfl⟩ hI
theorem st_abortsWith (hO : zO Z = true) (hfl : l.stackTraces = false) (hI : Inv S N) (hN : N + 2000 < 2 ^ 30) (x y : Int32) : StW l Z S h N yL_abortsWith cL_abortsWith 5 [(0, 10, 13, 13)] [.ref (zA Z 6 0 0), .int x, .int y, .ref (zA Z 8 0 0)] yX6_abortsWith cX6_abortsWith 5 [.ref (zA Z 7 0 0), .int x, .int y] := by
  obtain ⟨⟨f1, f2, f3⟩, ⟨f4, f5⟩, f6, f7, f8⟩ := Inv_facts hI
  rcases pol_in x with ⟨kx, px, rx⟩ | ⟨px, rx⟩
  · rcases run_in y with ⟨b, hb, rfl, hp, hr⟩ | ⟨hp, hr⟩
    · obtain ⟨q1, q2, q3, q4, q5⟩ := abortsWith_ok (b := b) hI kx (by omega)
      exact StW.ret (w_abortsWith l Z hO S _ h x _ _ (c_X5_abortsWith l Z S h x px b hb hp f5 q1)) (c_X6_abortsWith l Z _ _ x b hb rx hr q2) ⟨Nat.le_of_ble_eq_true rfl, Nat.le_of_ble_eq_true rfl⟩ ⟨Nat.le_of_ble_eq_true rfl, Nat.le_of_ble_eq_true rfl⟩ q3 q4 q5 (by omega)
    · exact StW.thr (by decide) (wt_abortsWith l Z S h x y (t_X5_abortsWith l hfl Z S h x y (fun _ q => nt hp q))) (c_X6_abortsWith_nr l Z S h x y rx hr) ⟨Nat.le_of_ble_eq_true rfl, Nat.le_of_ble_eq_true rfl⟩ ⟨Nat.le_of_ble_eq_true rfl, Nat.le_of_ble_eq_true rfl⟩ hI
  · exact StW.thr (by decide) (wt_abortsWith l Z S h x y (t_X5_abortsWith l hfl Z S h x y (fun q _ => nt px q))) (c_X6_abortsWith_no l Z S h x y rx) ⟨Nat.le_of_ble_eq_true rfl, Nat.le_of_ble_eq_true rfl⟩ ⟨Nat.le_of_ble_eq_true rfl, Nat.le_of_ble_eq_true rfl⟩ hI
theorem st_undo (hO : zO Z = true) (hfl : l.stackTraces = false) (hI : Inv S N) : StW l Z S h N yL_undo cL_undo 3 [(0, 8, 11, 25)] [.ref (zA Z 6 0 0), .ref (zA Z 8 0 0)] yX6_undo cX6_undo 1 [.ref (zA Z 7 0 0)] := by
  obtain ⟨⟨f1, f2, f3⟩, ⟨f4, f5⟩, f6, f7, f8⟩ := Inv_facts hI
  by_cases h1 : 1 ≤ pNs S
  · obtain ⟨q1, q2, q3, q4⟩ := undo_ok hI h1
    exact StW.ret (w_undo l Z hO S _ h _ (c_X5_undo l Z S h h1 f1 f2 q1)) (c_X6_undo l Z _ _) ⟨Nat.le_of_ble_eq_true rfl, Nat.le_of_ble_eq_true rfl⟩ ⟨Nat.le_of_ble_eq_true rfl, Nat.le_of_ble_eq_true rfl⟩ q2 q3 q4 (by omega)
  · have hC := c_X6_undo l Z S h
    rw [undo_no hI h1] at hC
    exact StW.thr (by decide) (wt_undo l Z S h (t_X5_undo l hfl Z S h (by rw [f2.1, show (S 6 0 0 7).toNatClampNeg = 0 by show pNs S = 0; omega]; rfl))) hC ⟨Nat.le_of_ble_eq_true rfl, Nat.le_of_ble_eq_true rfl⟩ ⟨Nat.le_of_ble_eq_true rfl, Nat.le_of_ble_eq_true rfl⟩ hI
end ST

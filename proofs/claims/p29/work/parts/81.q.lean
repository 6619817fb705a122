/-! what the law's calls do -/
theorem pRunI {b : Nat} (hb : b ≤ 1000) : pIsRun (nI b) = true := by
  unfold pIsRun
  rw [decide_eq_false (nI_pos (by omega)), decide_eq_false (show ¬ (1000 : Int32) < nI b from nI_nlt (a := 1000) hb (by omega))]; rfl
theorem pPolI : ∀ k, k < 3 → pIsPol (nI k) = true := by decide +kernel
theorem LI.hs {S : St} {n N P k : Nat} (h : LI S n N P k) : okI (S 6 0 0 6) 3 ∧ okI (S 6 0 0 7) 4 ∧ okI (S 0 4 4 7) 400 := ⟨h.2.2.1, h.2.2.2.1, h.1.1.1.2⟩
theorem LI.hC {S : St} {n N P k a : Nat} (h : LI S n N P k) (ha : a < n) : pHasC S 0 (nI a) = true := pHasC_n h.cc.1 h.cc.2 ha
section QL
variable {l : Launch} {Z : wZ} {S : St} {h : Hl} {n N P k : Nat}
theorem q_logs (hO : zO Z = false) (hI : LI S n N P k) : ∃ S', LI S' n N P k ∧ (∀ m, m ≠ 6 → S' m = S m) ∧ (∀ q, S' 6 0 0 q = S 6 0 0 q) ∧ Cq l yL_logs (.code yL_logs cL_logs 12 (some .int)) 1 8 5 106 Z [.ref (zA Z 6 0 0)] S h (nI (cT (tn S 0) (pQ S 0))) S' h := by
  obtain ⟨i1, i2, i3, i4, i5, i6⟩ := logs_1 hI
  obtain ⟨hn, hn4⟩ := hI.cc
  obtain ⟨hq, hq4⟩ := hI.q
  have hC := c_L_logs l Z hO S h n hn hn4 (pQ S 0) hq hq4 i1 i2 i3
  generalize lgT (upR S 8 0 0 (fun _ => 0)) (pQ S 0) = U at *
  refine ⟨fun m g i => if m = 6 ∧ g = 0 ∧ i = 7 then (pReplay U.1 0 6 0 7).2 6 0 7 else S m g i, LI_fr hI (fun m hm h1 => by funext g i; exact if_neg (by omega)) (by show okI ((if 6 = 6 ∧ 0 = 0 ∧ 0 = 7 then (pReplay U.1 0 6 0 7).2 6 0 7 else S 6 0 0) 1) 120; rw [if_neg (by omega)]; exact hI.2.1) (fun q hq => by show (if 6 = 6 ∧ 0 = 0 ∧ 0 = 7 then (pReplay U.1 0 6 0 7).2 6 0 7 else S 6 0 0) q = _; rw [if_neg (by omega)]), fun m hm => by funext g i; exact if_neg (by omega), fun q => by show (if 6 = 6 ∧ 0 = 0 ∧ 0 = 7 then (pReplay U.1 0 6 0 7).2 6 0 7 else S 6 0 0) q = _; rw [if_neg (by omega)], hC.to i4 (fun q hq => ?_)⟩
  obtain ⟨m, g, i⟩ := q
  have h8 : m < 8 := wPl_f hO _ hq
  dsimp only
  by_cases hc : m = 6 ∧ g = 0 ∧ i = 7
  · obtain ⟨rfl, rfl, rfl⟩ := hc
    rw [if_pos ⟨rfl, rfl, rfl⟩]
  · rw [if_neg hc, rep_frame U.1 m g i hc]
    funext b
    exact i6 m g i b (by omega)
theorem q_lines (hO : zO Z = false) (hI : LI S n N P k) (hN : N < 2 ^ 30) : ∃ S', LI S' n N P k ∧ (∀ m, m ≠ 6 → S' m = S m) ∧ (∀ q, S' 6 0 0 q = S 6 0 0 q) ∧ Cq l yL_lines (.code yL_lines cL_lines 12 (some .boolean)) 2 16 6 137 Z [.ref (zA Z 6 0 0)] S h (1) S' h := by
  obtain ⟨Sa, a1, a2, a3, a4⟩ := q_logs (l := l) (h := h) hO hI
  obtain ⟨Sb, b1, b2, b3, b4⟩ := q_logs (l := l) (h := h) hO a1
  obtain ⟨hn, hn4⟩ := hI.cc
  obtain ⟨t1, t2, t3⟩ := lines_3 hI
  have hq4 := hI.q.2
  have hq4' := a1.q.2
  have hc1 := cT_le (tn S 0) (pQ S 0)
  have hc2 := cT_le (tn Sa 0) (pQ Sa 0)
  refine ⟨Sb, b1, fun m hm => (b2 m hm).trans (a2 m hm), fun q => (b3 q).trans (a3 q), c_L_lines l Z S h n hn hn4 (fun j hj => lines_1 hI hj) (fun g hg => lines_2 hI hN hg) Sa Sb _ _ a4 b4 ⟨t1, t2, ?_, nI_pos (by omega)⟩⟩
  rw [t3]
  exact nI_nlt (Nat.le_refl _) (by omega)
theorem q_run {b : Nat} (hI : LI S n N P k) (hP : P < 400) (hb : b ≤ 1000) (hN : N + b < 2 ^ 30) : Cq l yL_run (.codeWith yL_run cL_run 3 (some .int) [(0, 5, 6, 15)]) 0 0 7 164 Z [.ref (zA Z 6 0 0), .int (nI b)] S h (pFinC (pRunS S b) 0) (pRunS S b) h := by
  obtain ⟨-, r2, r3, -⟩ := LI_run hI hP hN
  obtain ⟨ho, hn, hq⟩ := hI.hs
  exact w_run l Z S _ h (nI b) _ (c_X5_run l Z S h b hb (pRunI hb) ho hn hq r2 r3)
theorem q_abw {b j : Nat} (hI : LI S n N P k) (hj : j < 3) (hb : b ≤ 1000) (hN : N + b < 2 ^ 30) : Cq l yL_abortsWith (.codeWith yL_abortsWith cL_abortsWith 4 (some .int) [(0, 6, 7, 15)]) 0 0 7 166 Z [.ref (zA Z 6 0 0), .int (nI j), .int (nI b)] S h (pAbW S (nI j) b) (pOft (pTrial S (nI j)) 1 b) h :=
  w_abortsWith l Z S _ h (nI j) (nI b) _ (c_X5_abortsWith l Z S h (nI j) (pPolI j hj) b hb (pRunI hb) hI.hs.2.2 (LI_abw hI (okI_nI (by omega) (by omega)) hN).2)
theorem q_undo (hI : LI S n N P (k + 1)) (h1 : 1 ≤ pNs S) : Cq l yL_undo (.codeWith yL_undo cL_undo 2 (some .int) [(0, 4, 5, 28)]) 0 0 5 102 Z [.ref (zA Z 6 0 0)] S h (pUndo S 6 0 0 7) (pUndo S) h :=
  w_undo l Z S _ h _ (c_X5_undo l Z S h h1 hI.hs.1 hI.hs.2.1 (LI_undo hI h1).2.1)
/-- the law's runs -/
theorem q_runs (hO : zO Z = false) (hI : LI S n N P k) (hP : P < 400) (hN : N + 200 < 2 ^ 30) (x : Int32) : ∃ S', LI S' n (N + 200) P 0 ∧ Cq l yL_runs (.code yL_runs cL_runs 11 (some .boolean)) 2 16 8 189 Z [.ref (zA Z 6 0 0), .int (x)] S h (1) S' h := by
  obtain ⟨ja, ha, hja⟩ := low_ok x (k := 20) (by omega) (by omega)
  obtain ⟨jb, hb, hjb⟩ := low_ok (x >>> (5 &&& 31)) (k := 20) (by omega) (by omega)
  obtain ⟨jp, hp, hjp⟩ := low_ok (x >>> (10 &&& 31)) (k := 3) (by omega) (by omega)
  have hx : okI (nI jp) 2 := okI_nI (by omega) (by omega)
  obtain ⟨⟨hM, T, A, hr⟩, -⟩ := id hI
  -- three what-if runs
  have hA1 := q_abw (l := l) (Z := Z) (h := h) hI hp (b := ja) (by omega) (by omega)
  obtain ⟨I1, -⟩ := LI_abw (b := ja) hI hx (by omega)
  have e1 : pOft (pTrial S (nI jp)) 1 ja 0 = S 0 := (abw_key (b := ja) hr hx (by omega)).2.2.2.2 0 (by omega)
  generalize hS1 : pOft (pTrial S (nI jp)) 1 ja = S1 at *
  have hA2 := q_abw (l := l) (Z := Z) (h := h) I1 hp (b := ja + jb) (by omega) (by omega)
  obtain ⟨I2, -⟩ := LI_abw (b := ja + jb) I1 hx (by omega)
  rw [abw_cg (b := ja + jb) hr e1 hx (by omega)] at hA2
  generalize hS2 : pOft (pTrial S1 (nI jp)) 1 (ja + jb) = S2 at *
  have hA3 := q_abw (l := l) (Z := Z) (h := h) I2 hp (b := 0) (by omega) (by omega)
  obtain ⟨I3, -⟩ := LI_abw (b := 0) I2 hx (by omega)
  rw [abw_0] at hA3
  generalize hS3 : pOft (pTrial S2 (nI jp)) 1 0 = S3 at *
  -- two runs
  have hR4 := q_run (l := l) (Z := Z) (h := h) I3 hP (b := ja) (by omega) (by omega)
  obtain ⟨I4, -, -, c4⟩ := LI_run (b := ja) I3 hP (by omega)
  have hR5 := q_run (l := l) (Z := Z) (h := h) I4 hP (b := jb) (by omega) (by omega)
  obtain ⟨I5, -, -, c5⟩ := LI_run (b := jb) I4 hP (by omega)
  have I5' : LI (pRunS (pRunS S3 ja) jb) n (N + ja + jb) P 2 := LI_mono I5 (Nat.le_refl _) (Nat.le_refl _) (by omega)
  obtain ⟨s1, s2, s3, -, -, -, -⟩ := sv_step (S := S3) (S' := pRunS S3 ja) I3.2.2.1 I3.2.2.2.1 (fun m h2 h5 => oft_M m (by omega)) (fun q _ => by rw [show pRunS S3 ja 6 = pSave S3 6 from oft_M 6 (by omega)])
  obtain ⟨-, -, -, -, -, -, s7⟩ := sv_step (S := pRunS S3 ja) (S' := pRunS (pRunS S3 ja) jb) s1 s2 (fun m h2 h5 => oft_M m (by omega)) (fun q _ => by rw [show pRunS (pRunS S3 ja) jb 6 = pSave (pRunS S3 ja) 6 from oft_M 6 (by omega)])
  have h2 := s7 s3
  obtain ⟨S6, I6, f1, f2, hL6⟩ := q_lines (l := l) (h := h) hO I5' (by omega)
  have eN : pNs S6 = pNs (pRunS (pRunS S3 ja) jb) := by show (S6 6 0 0 7).toNatClampNeg = _; rw [f2]
  -- undone, and all in one
  have hU7 := q_undo (l := l) (Z := Z) (h := h) (k := 1) I6 (by omega)
  obtain ⟨I7, -, c7, -, e7, -⟩ := LI_undo (k := 1) I6 (by omega)
  have hU8 := q_undo (l := l) (Z := Z) (h := h) (k := 0) I7 (by omega)
  obtain ⟨I8, -, c8, -, -, -⟩ := LI_undo (k := 0) I7 (by omega)
  have hR9 := q_run (l := l) (Z := Z) (h := h) I8 hP (b := ja + jb) (by omega) (by omega)
  obtain ⟨I9, -, -, -⟩ := LI_run (b := ja + jb) I8 hP (by omega)
  obtain ⟨w1, w2, w3⟩ := two_runs (S6 := S6) I3 (a := ja) (b := jb) (by omega) (by omega) (by omega) (fun m hm => f1 m (by omega)) f2 I6 (by omega) (by omega)
  refine ⟨_, LI_mono I9 (by omega) (Nat.le_refl _) (Nat.zero_le _), c_L_runs l Z S h x ja jb jp hja hjb hjp S1 S2 S3 _ _ S6 _ _ _ _ _ _ _ _ _ _ _ hA1 hA2 hA3 hR4 hR5 hL6 hU7 hU8 hR9 (abw_ok hr hx (by omega) (by omega) (by omega)) rfl c4 c7 c8 w1 w2 n I9.cc.2 I5.cc.1 I9.cc.1 w3⟩
theorem q_refuses (hfl : l.stackTraces = false) (hI : LI S n N P k) : Cq l yL_refuses (.code yL_refuses cL_refuses 4 (some .boolean)) 20 120 8 130 Z [.ref (zA Z 6 0 0)] S h (1) S h := c_L_refuses l Z S h hfl (ccn hI.cc.1 hI.cc.2)
/-! a contract with some room -/
def CqX (l : Launch) (y : MethodName) (kw : Cond) (Z : wZ) (as : List Value) (S : St) (h : Hl) (r : Int32) (S2 : St) (h2 : Hl) : Prop := ∃ kc ks fr lo, kc ≤ 1 ∧ ks ≤ 6 ∧ fr ≤ 7 ∧ lo ≤ 170 ∧ Cq l y kw kc ks fr lo Z as S h r S2 h2
/-- the law's step: finished, it throws -/
theorem q_step {a : Nat} (hfl : l.stackTraces = false) (hI : LI S n N P k) (ha : a < n) (hP : P < 400) (hN : N + 1 < 2 ^ 30) : ∃ r S', LI S' n (N + 1) P (if pFin S 0 a = true then 0 else k + 1) ∧ (r = -1000000902 ↔ pFin S 0 a = true) ∧ (r < 0 → r = -1000000902) ∧ (r ≠ -1000000902 → S' 0 4 3 7 = S 0 4 3 7 + 1 ∧ 1 ≤ pNs S' ∧ S' 0 = (pStep (pSave S) 0 a).2 0 ∧ S' = (pStep (pSave S) 0 a).2) ∧ CqX l yL_step (.codeWith yL_step cL_step 3 (some .int) [(0, 5, 6, 34), (0, 5, 10, 28)]) Z [.ref (zA Z 6 0 0), .int (nI a)] S h (r) S' h := by
  have h4 := hI.cc.2
  obtain ⟨ho, hn, hq⟩ := hI.hs
  by_cases hf : pFin S 0 a = true
  · refine ⟨-1000000902, S, ?_, ⟨fun _ => hf, fun _ => rfl⟩, fun _ => rfl, fun z => absurd rfl z, 1, 6, 7, 103, by omega, by omega, by omega, by omega, wt_step_fin l Z S h (nI a) (t_X5_step_fin l hfl Z S h a (by omega) (hI.hC ha) hf)⟩
    rw [if_pos hf]
    exact LI_mono hI (by omega) (Nat.le_refl _) (Nat.zero_le _)
  · have hf' : pFin S 0 a = false := by simpa using hf
    obtain ⟨I1, i2, i3⟩ := LI_step hI ha hf' hP (by omega)
    have hne : (pStep (pSave S) 0 a).1 ≠ -1000000902 := fun z => i2 (by rw [z]; decide)
    refine ⟨(pStep (pSave S) 0 a).1, (pStep (pSave S) 0 a).2, by rw [if_neg hf]; exact I1, ⟨fun z => absurd z hne, fun z => absurd z hf⟩, fun z => absurd z i2, fun _ => ⟨?_, ?_, rfl, rfl⟩, 0, 0, 6, 141, by omega, by omega, by omega, by omega, w_step l Z S _ h (nI a) _ (c_X5_step l Z S h a (by omega) (hI.hC ha) hf' i3 ho hn hq)⟩
    · rw [step_7 (by omega), pSave_0]
    · exact (sv_step (S := S) (S' := (pStep (pSave S) 0 a).2) ho hn (fun m h2 h5 => step_M m (by omega)) (fun q _ => by rw [step_M 6 (by omega)])).2.2.1
theorem q_poke {j : Nat} {v : Int32} (hI : LI S n N P k) (hj : j < 8) (hP : P < 400) : ∃ r S', LI S' n N (P + 1) 0 ∧ ¬ r < 0 ∧ CqX l yL_poke (.codeWith yL_poke cL_poke 4 (some .int) [(0, 6, 7, 34)]) Z [.ref (zA Z 6 0 0), .int (nI j), .int (v)] S h (r) S' h := by
  obtain ⟨ho, hn, hq⟩ := hI.hs
  obtain ⟨I1, i2⟩ := LI_poke (v := v) hI hj hP
  exact ⟨_, _, LI_mono I1 (Nat.le_refl _) (Nat.le_refl _) (Nat.zero_le _), i2, 0, 0, 6, 124, by omega, by omega, by omega, by omega, w_poke l Z S _ h (nI j) v _ (c_X5_poke l Z S h j hj v (ccn hI.cc.1 hI.cc.2) ho hn hq)⟩
theorem q_again {a : Nat} (hfl : l.stackTraces = false) (hI : LI S n N P k) (ha : a < n) : ∃ r S', LI S' n N (P + 9) 0 ∧ (r < 0 → r = -1000000902) ∧ CqX l yL_again (.codeWith yL_again cL_again 3 (some .int) [(0, 5, 6, 34), (0, 5, 10, 28)]) Z [.ref (zA Z 6 0 0), .int (nI a)] S h (r) S' h := by
  have h4 := hI.cc.2
  obtain ⟨ho, hn, hq⟩ := hI.hs
  by_cases hc : pFin S 0 a = true ∧ pInT S 0 a = false
  · have ht : S 0 a 0 5 = -1 := by
      by_cases z : S 0 a 0 5 = -1
      · exact z
      · exact absurd (inT_iff.mpr z) (nt hc.2)
    obtain ⟨⟨h1, T, A, h2⟩, -⟩ := id hI
    obtain ⟨-, -, -, -, -, ⟨p1, -⟩, -⟩ := h2.2.2.1 a (by omega)
    refine ⟨_, _, LI_mono (LI_again hI ha ht) (Nat.le_refl _) (Nat.le_refl _) (Nat.zero_le _), fun z => absurd z ?_, 0, 0, 6, 123, by omega, by omega, by omega, by omega, w_again l Z S _ h (nI a) _ (c_X5_again l Z S h a (by omega) (hI.hC ha) hc.1 hc.2 ho hn hq)⟩
    show ¬ setF (pSave S) 0 a 0 3 0 0 a 3 2 < 0
    rw [sF_ne (by omega), pSave_0, p1.1]
    exact nI_pos (by have := p1.2; omega)
  · exact ⟨-1000000902, S, LI_mono hI (Nat.le_refl _) (by omega) (Nat.zero_le _), fun _ => rfl, 1, 6, 7, 103, by omega, by omega, by omega, by omega, wt_again_st l Z S h (nI a) (t_X5_again_st l hfl Z S h a (by omega) (hI.hC ha) (fun z1 z2 => hc ⟨z1, z2⟩))⟩
theorem q_pol {j : Nat} (hI : LI S n N P k) (hj : j < 3) : ∃ r S', LI S' n N P 0 ∧ ¬ r < 0 ∧ CqX l yL_setPolicy (.codeWith yL_setPolicy cL_setPolicy 3 (some .int) [(0, 5, 6, 15)]) Z [.ref (zA Z 6 0 0), .int (nI j)] S h (r) S' h := by
  obtain ⟨ho, hn, hq⟩ := hI.hs
  obtain ⟨⟨h1, T, A, h2⟩, -⟩ := id hI
  have g5 : okI (S 0 4 0 5) 2 := h2.1.2.2.2.2.1
  refine ⟨_, _, LI_mono (LI_pol hI (okI_nI (k := j) (by omega) (by omega))) (Nat.le_refl _) (Nat.le_refl _) (Nat.zero_le _), ?_, 0, 0, 6, 124, by omega, by omega, by omega, by omega, w_setPolicy l Z S _ h (nI j) _ (c_X5_setPolicy l Z S h (nI j) (pPolI j hj) ho hn hq)⟩
  show ¬ pSave S 0 4 0 5 < 0
  rw [pSave_0, g5.1]
  exact nI_pos (by have := g5.2; omega)
theorem q_runX {b : Nat} (hI : LI S n N P k) (hP : P < 400) (hb : b ≤ 1000) (hN : N + b < 2 ^ 30) : ∃ r S', LI S' n (N + b) P 0 ∧ ¬ r < 0 ∧ CqX l yL_run (.codeWith yL_run cL_run 3 (some .int) [(0, 5, 6, 15)]) Z [.ref (zA Z 6 0 0), .int (nI b)] S h (r) S' h := by
  obtain ⟨I1, -, -, c⟩ := LI_run hI hP hN
  exact ⟨_, _, LI_mono I1 (Nat.le_refl _) (Nat.le_refl _) (Nat.zero_le _), c, 0, 0, 7, 164, by omega, by omega, by omega, by omega, q_run hI hP hb hN⟩
end QL
section JX9
variable {p : Program} {l : Launch} {e : Env} {R : Room} {s : State} {m : MethodId} {args : Array Value} {below : List Frame} {meth : Method} {c : Code} {n : Nat} {Z : wZ} {A0 : Nat → Prop} {cells slots : Nat} {Q : State → Prop} {cc : ByteArray} {S S2 : St} {h h2 : Hl} {Ls : List (Nat × Value)} {pc pc2 : Nat} {st rest : List Value}
/-- a call of a method of which the room alone is known -/
theorem j_callQX (X : JX p s m args meth c cc n RL Z A0) (hSt : hStr s) (hZ : hZq A0 s s.heap) {y : MethodName} {bytes : ByteArray} {hh : List (Nat × Nat × Nat × Nat)} {ml idx na : Nat} {as : List Value} {r : Int32} {ret : FieldType} (hC : CqX l y (.codeWith y bytes ml (some ret) hh) Z as S h r S2 h2) (w1 : Cond.methodLink RL idx y ∈ wsL_law) (w2 : Cond.static y ∈ wsL_law) (w4 : Cond.initialized RL ∈ wsL_law) (w5 : Cond.codeWith y bytes ml (some ret) hh ∈ wsL_law) (hd : y.cls = RL ∧ y.cls ≠ "java/lang/invoke/MethodHandle" ∧ y.cls ≠ "java/lang/invoke/VarHandle" ∧ (parseMethodDescriptor y.desc).map (fun d => d.parameters.length) = some na) (hR : 8 ≤ R.frames ∧ 8 + (ml + 11) + 170 ≤ R.locals) (hcs : cells + 1 ≤ R.cells ∧ slots + 6 ≤ R.slots) (hna : as.length = na) (hcat : (rest.map fun v => v.category).sum ≤ 8) (hst : st = as.reverse ++ rest) (hdg : decode cc pc = .ok (.invokestatic idx, 3)) (hp : pc + 3 = pc2) (k : J p l e R s m args below meth c n Z A0 (cells + 1) (slots + 6) Q S2 h2 Ls pc2 (.int r :: rest)) : J p l e R s m args below meth c n Z A0 cells slots Q S h Ls pc st := by
  obtain ⟨kc, ks, fr, lo, h1, h2, h3, h4, hC⟩ := hC
  exact j_callQW X hSt hZ hC w1 w2 w4 w5 hd ⟨by omega, by omega⟩ ⟨by omega, by omega⟩ hna hcat hst hdg hp (j_widen (by omega) (by omega) k)
end JX9

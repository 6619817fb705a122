/-! WHAT HOLDS OF THE OBJECT in every state: of the machine, of what is saved (the last k of n cores too), of the text -/
def MI (S : St) (m n N P : Nat) : Prop := MX S m n P ∧ ∃ T A, rel S m T N A
/-- the machine that was saved last but j -/
def tq (S : St) (j : Nat) : Nat := (pOs S + (pNs S - 1 - j)) % 4 + 2
def LI (S : St) (n N P k : Nat) : Prop := MI S 0 n N P ∧ okI (S 6 0 0 1) 120 ∧ okI (S 6 0 0 6) 3 ∧ okI (S 6 0 0 7) 4 ∧ ∀ j, j < pNs S → ∃ n', MI S (tq S j) n' N P ∧ (j < k → n' = n)
theorem MI_fr {S S' : St} {m n N P : Nat} (h : MI S m n N P) (e : S' m = S m) : MI S' m n N P := by
  obtain ⟨h1, T, A, h2⟩ := h
  exact ⟨MX_fr h1 e, T, A, rel_fr h2 e⟩
theorem MI_mono {S : St} {m n N N' P P' : Nat} (h : MI S m n N P) (hN : N ≤ N') (hP : P ≤ P') : MI S m n N' P' := by
  obtain ⟨h1, T, A, h2⟩ := h
  exact ⟨MX_mono h1 hP, T, A, rel_mono h2 hN⟩
theorem rel_8 {S T : St} {m N : Nat} {A : Int32} (h : rel S m T N A) (hm : m ≠ 1) : T 7 0 0 8 = 0 := (h.2.2.2.resolve_left (fun q => hm q.1)).2.1
theorem MI_copy {S : St} {m m2 n N P : Nat} (h : MI S m2 n N P) (hne : m ≠ m2) (hm : m ≠ 1) (hm2 : m2 ≠ 1) : MI (pCopyM S m m2) m n N P := by
  obtain ⟨h1, T, A, h2⟩ := h
  obtain ⟨A', h3⟩ := copy_rel (T' := T) h2 hm2 hm hne (rel_8 h2 hm2) (fun _ _ => rfl)
  exact ⟨MX_copy h1 hne hm, T, A', h3⟩
/-- what a save does to what is saved -/
theorem sv_step {S S' : St} (c1 : okI (S 6 0 0 6) 3) (c2 : okI (S 6 0 0 7) 4) (hM : ∀ m, 2 ≤ m → m ≤ 5 → S' m = pSave S m) (hr : ∀ k, k = 6 ∨ k = 7 → S' 6 0 0 k = pSave S 6 0 0 k) :
    okI (S' 6 0 0 6) 3 ∧ okI (S' 6 0 0 7) 4 ∧ 1 ≤ pNs S' ∧ (2 ≤ tq S' 0 ∧ tq S' 0 ≤ 5) ∧ S' (tq S' 0) = pCopyM S (tq S' 0) 0 (tq S' 0) ∧ (∀ j, j + 1 < pNs S' → j < pNs S ∧ tq S' (j + 1) = tq S j ∧ S' (tq S j) = S (tq S j)) ∧ (1 ≤ pNs S → 2 ≤ pNs S') := by
  obtain ⟨s1, s2, -, s4⟩ := save_at S c1 c2
  have hn : pNs S ≤ 4 := c2.2
  have ho : pOs S ≤ 3 := c1.2
  rcases s4 with ⟨q1, q2, q3⟩ | ⟨q1, q2, q3⟩
  · have eO : pOs S' = (pOs S + 1) % 4 := by show (S' 6 0 0 6).toNatClampNeg = _; rw [hr 6 (by omega), q2, nI_clamp (by omega)]
    have eN : pNs S' = 4 := by show (S' 6 0 0 7).toNatClampNeg = _; rw [hr 7 (by omega), q3, nI_clamp (by omega)]
    have e0 : tq S' 0 = (pOs S + pNs S) % 4 + 2 := by unfold tq; rw [eO, eN]; omega
    refine ⟨by rw [hr 6 (by omega), q2]; exact okI_nI (by omega) (by omega), by rw [hr 7 (by omega), q3]; exact okI_nI (by omega) (by omega), by omega, by omega, ?_, fun j hj => ?_, fun _ => by omega⟩
    · rw [e0, hM _ (by omega) (by omega), s2]
    · rw [eN] at hj
      have e1 : tq S' (j + 1) = tq S j := by unfold tq; rw [eO, eN, q1]; omega
      refine ⟨by omega, e1, ?_⟩
      have hne : tq S j ≠ (pOs S + pNs S) % 4 + 2 := by unfold tq; rw [q1]; omega
      have h25 : 2 ≤ tq S j ∧ tq S j ≤ 5 := by unfold tq; omega
      rw [hM _ h25.1 h25.2, s1 _ (by omega) hne]
  · have eO : pOs S' = pOs S := by show (S' 6 0 0 6).toNatClampNeg = _; rw [hr 6 (by omega), q2, nI_clamp (by omega)]
    have eN : pNs S' = pNs S + 1 := by show (S' 6 0 0 7).toNatClampNeg = _; rw [hr 7 (by omega), q3, nI_clamp (by omega)]
    have e0 : tq S' 0 = (pOs S + pNs S) % 4 + 2 := by unfold tq; rw [eO, eN]; omega
    refine ⟨by rw [hr 6 (by omega), q2]; exact okI_nI (by omega) (by omega), by rw [hr 7 (by omega), q3]; exact okI_nI (by omega) (by omega), by omega, by omega, ?_, fun j hj => ?_, fun _ => by omega⟩
    · rw [e0, hM _ (by omega) (by omega), s2]
    · rw [eN] at hj
      have e1 : tq S' (j + 1) = tq S j := by unfold tq; rw [eO, eN]; omega
      refine ⟨by omega, e1, ?_⟩
      have hne : tq S j ≠ (pOs S + pNs S) % 4 + 2 := by unfold tq; omega
      have h25 : 2 ≤ tq S j ∧ tq S j ≤ 5 := by unfold tq; omega
      rw [hM _ h25.1 h25.2, s1 _ (by omega) hne]
theorem LI_fr {S S' : St} {n N P k : Nat} (h : LI S n N P k) (hM : ∀ m, m ≤ 5 → m ≠ 1 → S' m = S m) (h1 : okI (S' 6 0 0 1) 120) (h6 : ∀ q, q = 6 ∨ q = 7 → S' 6 0 0 q = S 6 0 0 q) : LI S' n N P k := by
  obtain ⟨a, b, c, d, e⟩ := h
  have eN : pNs S' = pNs S := by show (S' 6 0 0 7).toNatClampNeg = _; rw [h6 7 (by omega)]
  have eO : pOs S' = pOs S := by show (S' 6 0 0 6).toNatClampNeg = _; rw [h6 6 (by omega)]
  refine ⟨MI_fr a (hM 0 (by omega) (by omega)), h1, by rw [h6 6 (by omega)]; exact c, by rw [h6 7 (by omega)]; exact d, fun j hj => ?_⟩
  rw [eN] at hj
  have et : tq S' j = tq S j := by unfold tq; rw [eN, eO]
  obtain ⟨n', e1, e2⟩ := e j hj
  rw [et]
  exact ⟨n', MI_fr e1 (hM _ (by unfold tq; omega) (by unfold tq; omega)), e2⟩
theorem LI_mono {S : St} {n N N' P P' k k' : Nat} (h : LI S n N P k) (hN : N ≤ N') (hP : P ≤ P') (hk : k' ≤ k) : LI S n N' P' k' := by
  obtain ⟨a, b, c, d, e⟩ := h
  refine ⟨MI_mono a hN hP, b, c, d, fun j hj => ?_⟩
  obtain ⟨n', e1, e2⟩ := e j hj
  exact ⟨n', MI_mono e1 hN hP, fun z => e2 (by omega)⟩
/-- a call that saves, then changes the machine alone -/
theorem LI_mut {S S' : St} {n n1 N N' P P' k : Nat} (h : LI S n N P k) (hM : frM 0 (pSave S) S') (hI : MI S' 0 n1 N' P') (hN : N ≤ N') (hP : P ≤ P') (hk : n1 = n ∨ k = 0) : LI S' n1 N' P' (if n1 = n then k + 1 else 0) := by
  obtain ⟨a, b, c, d, e⟩ := h
  obtain ⟨v1, v2, v3, v4, v5, v6, -⟩ := sv_step (S := S) (S' := S') c d (fun m h2 h5 => hM m (by omega)) (fun q _ => by rw [hM 6 (by omega)])
  have s3 := (save_at S c d).2.2.1
  refine ⟨hI, by rw [hM 6 (by omega), s3 0 0 1 (by omega)]; exact b, v1, v2, fun j hj => ?_⟩
  cases j with
  | zero =>
    refine ⟨n, ?_, fun z => ?_⟩
    · have := MI_mono (MI_copy (m := tq S' 0) a (by omega) (by omega) (by omega)) hN hP
      exact MI_fr this v5
    · by_cases hn : n1 = n
      · exact hn.symm
      · rw [if_neg hn] at z; omega
  | succ j =>
    obtain ⟨w1, w2, w3⟩ := v6 j hj
    obtain ⟨n', e1, e2⟩ := e j w1
    rw [w2]
    refine ⟨n', MI_fr (MI_mono e1 hN hP) w3, fun z => ?_⟩
    by_cases hn : n1 = n
    · rw [if_pos hn] at z; rw [hn]; exact e2 (by omega)
    · rw [if_neg hn] at z; omega
theorem LI_mut' {S S' : St} {n N N' P P' k : Nat} (h : LI S n N P k) (hM : frM 0 (pSave S) S') (hI : MI S' 0 n N' P') (hN : N ≤ N') (hP : P ≤ P') : LI S' n N' P' (k + 1) := by
  have := LI_mut h hM hI hN hP (Or.inl rfl)
  rw [if_pos rfl] at this; exact this
theorem MI_save {S : St} {n N P : Nat} (h : MI S 0 n N P) : MI (pSave S) 0 n N P := MI_fr h (pSave_0 S)
/-! the calls -/
theorem LI_pol {S : St} {n N P k : Nat} {x : Int32} (h : LI S n N P k) (hx : okI x 2) : LI (pSetPol S x).2 n N P (k + 1) := by
  obtain ⟨h1, T, A, h2⟩ := MI_save h.1
  exact LI_mut' h frM.set ⟨MX_set h1 (by omega) (by omega), _, _, rel_pol h2 hx⟩ (Nat.le_refl _) (Nat.le_refl _)
theorem LI_seed {S : St} {n N P k : Nat} {x : Int32} (h : LI S n N P k) (hx : okI x (2 ^ 31 - 1)) : LI (pSeed S x).2 n N P (k + 1) := by
  obtain ⟨h1, T, A, h2⟩ := MI_save h.1
  exact LI_mut' h frM.set ⟨MX_set h1 (by omega) (by omega), _, _, rel_seed h2 hx⟩ (Nat.le_refl _) (Nat.le_refl _)
theorem LI_begin {S : St} {n n1 N P : Nat} {x y z : Int32} (h : LI S n N P 0) (hx : okI x 4) (hn : x.toNatClampNeg = n1) (hy : okI y 2) (hz : okI z 8) : LI (pBeginQ S x y z).2 n1 N P 0 := by
  obtain ⟨h1, T, A, h2⟩ := MI_save h.1
  have := LI_mut (S' := (pBeginQ S x y z).2) h start_M ⟨MX_mono (MX_start hn (by rw [← hn]; exact hx.2)) (Nat.zero_le P), _, _, start_rel h2 (by omega) (rel_8 h2 (by omega)) hx hy hz⟩ (Nat.le_refl _) (Nat.le_refl _) (Or.inr rfl)
  exact LI_mono this (Nat.le_refl _) (Nat.le_refl _) (Nat.zero_le _)
theorem LI_again {S : St} {n N P k a : Nat} (h : LI S n N P k) (ha : a < n) (ht : S 0 a 0 5 = -1) : LI (pAgain S a) n N (P + 9) (k + 1) := by
  obtain ⟨h1, T, A, h2⟩ := MI_save h.1
  have h4 := h1.n4
  exact LI_mut' h frM.set ⟨MX_again h1 ha (by rw [pSave_0]; exact ht), _, _, rel_pos0 h2 (by omega)⟩ (Nat.le_refl _) (Nat.le_add_right _ _)
theorem fin_save {S : St} {a : Nat} : pFin (pSave S) 0 a = pFin S 0 a := by unfold pFin; rw [pSave_0]
theorem LI_step {S : St} {n N P k a : Nat} (h : LI S n N P k) (ha : a < n) (hf : pFin S 0 a = false) (hP : P < 400) (hN : N < 2 ^ 30) : LI (pStep (pSave S) 0 a).2 n (N + 1) P (k + 1) ∧ ¬ (pStep (pSave S) 0 a).1 < 0 ∧ wfS S 0 a := by
  obtain ⟨h1, T, A, h2⟩ := MI_save h.1
  have h4 := h1.n4
  have hf' : pFin (pSave S) 0 a = false := by rw [fin_save]; exact hf
  have hw := wf_rel h2 (g := a) (by omega) hf'
  obtain ⟨s1, s2⟩ := step_rel h2 (g := a) (by rw [h1.cc]; exact ha) hf' hN
  refine ⟨LI_mut' h step_M ⟨MX_step h1 h2 ha hf' (by omega) hP hN, _, _, s2⟩ (Nat.le_succ _) (Nat.le_refl _), ?_, wfS_eq (pSave_0 S).symm hw.1⟩
  rw [s1]; exact (rGo_T (by omega) hw.2).2
theorem LI_run {S : St} {n N P k b : Nat} (h : LI S n N P k) (hP : P < 400) (hN : N + b < 2 ^ 30) : LI (pRunS S b) n (N + b) P (k + 1) ∧ okDs (pSave S) 0 b ∧ okI (pRunS S b 0 4 0 4) 4 ∧ ¬ pFinC (pRunS S b) 0 < 0 := by
  obtain ⟨h1, T, A, h2⟩ := MI_save h.1
  obtain ⟨r1, -, -, A', r4⟩ := runs_rel (b := b) h2 hN
  have hM := MX_oft h1 h2 (by omega) hP hN
  refine ⟨LI_mut' h oft_M ⟨hM, _, _, r4⟩ (Nat.le_add_right _ _) (Nat.le_refl _), r1, r4.1.2.2.2.1, ?_⟩
  have e := finC_S (S := pRunS S b) (m := 0) (cc_eq r4).2
  rw [e]
  have := (cc_eq r4).2
  exact nI_pos (by have : pCC (pRunS S b) 0 ≤ 4 := this; omega)
theorem LI_poke {S : St} {n N P k j : Nat} {v : Int32} (h : LI S n N P k) (hj : j < 8) (hP : P < 400) : LI (pOut (pSave S) 0 j v).2 n N (P + 1) (k + 1) ∧ ¬ (pOut (pSave S) 0 j v).1 < 0 := by
  obtain ⟨h1, T, A, h2⟩ := MI_save h.1
  have h3 := rel_ab0 h2
  obtain ⟨hc, hc4⟩ := cc_eq h3
  have h5 := outL_rel (n := pCC (pSave S) 0) h3 hj hc4
  have h6 := rel_mem (v := v) h5 hj
  obtain ⟨l1, l2, l3⟩ := logx_rel (v := v) h6 (by omega) hj (by simp (disch := omega) only [sF_eq, sF_ne])
  have g2 : frT (0 + pCC (pSave S) 0) (setF T 7 0 0 13 0) (lp (rPokF j) (pCC (pSave S) 0) 0 (setF T 7 0 0 13 0)) := by
    have : ∀ (c k : Nat) (U : St), k + c ≤ 4 → frT c U (lp (rPokF j) c k U) := by
      intro c
      induction c with
      | zero => intro k U _; exact frT.rf U
      | succ c ih => intro k U hk; exact ((rPokF_T hj (by omega)).tr (ih (k + 1) _ (by omega))).up (by omega)
    rw [Nat.zero_add]; exact this _ 0 _ (by omega)
  refine ⟨LI_mut' h out_M ⟨MX_out h1 hj (by omega) hP, _, _, l1⟩ (Nat.le_refl _) (Nat.le_succ _), ?_⟩
  have e11 := l1.1.2.2.2.2.2.2.2.2.2.2
  have e13 := g2.2 0 (by rw [sF_eq (by omega)]; exact okI_nI (k := 0) (by omega) (by omega)) (by omega)
  show ¬ pAborts (pOutS (pSave S) 0 j v) 0 - pAborts (pSave S) 0 < 0
  show ¬ (pOutS (pSave S) 0 j v 0 4 3 5 + pOutS (pSave S) 0 j v 0 4 3 6) - pAborts (pSave S) 0 < 0
  unfold pOutS at e11 ⊢
  rw [e11, Int32.add_comm, Int32.add_sub_cancel, l3 7 0 0 13 (by omega), sF_ne (by omega)]
  obtain ⟨q, hq, eq⟩ := okI_ex e13
  rw [eq]; exact nI_pos (by omega)
theorem LI_undo {S : St} {n N P k : Nat} (h : LI S n N P (k + 1)) (h1 : 1 ≤ pNs S) : LI (pUndo S) n N P k ∧ okI (S ((pOs S + (pNs S - 1)) % 4 + 2) 4 4 7) 400 ∧ ¬ pUndo S 6 0 0 7 < 0 ∧ pUndo S 0 = pCopyM (setF S 6 0 0 7 (nI (pNs S - 1))) 0 (tq S 0) 0 ∧ pNs (pUndo S) = pNs S - 1 ∧ (∀ j, j + 1 < pNs S → tq (pUndo S) j = tq S (j + 1)) ∧ (∀ m, m ≠ 0 → m ≠ 6 → pUndo S m = S m) := by
  obtain ⟨a, b, c, d, e⟩ := h
  have hn : pNs S ≤ 4 := d.2
  have ho : pOs S ≤ 3 := c.2
  have et : tq S 0 = (pOs S + (pNs S - 1)) % 4 + 2 := by unfold tq; omega
  have eU : pUndo S = pCopyM (setF S 6 0 0 7 (nI (pNs S - 1))) 0 (tq S 0) := by rw [et]; rfl
  obtain ⟨n', e1, e2⟩ := e 0 h1
  obtain rfl := e2 (by omega)
  have fM : ∀ m, m ≠ 0 → m ≠ 6 → pUndo S m = S m := fun m h0 h6 => by rw [eU, pCopyM_m h0, setF_m h6]
  have f6 : ∀ g i q, ¬ (g = 0 ∧ i = 0 ∧ q = 7) → pUndo S 6 g i q = S 6 g i q := fun g i q hq => by rw [eU, pCopyM_m (by omega), sF_ne (by omega)]
  have e67 : pUndo S 6 0 0 7 = nI (pNs S - 1) := by rw [eU, pCopyM_m (by omega), sF_eq (by omega)]
  have eN : pNs (pUndo S) = pNs S - 1 := by show (pUndo S 6 0 0 7).toNatClampNeg = _; rw [e67]; exact nI_clamp (by omega)
  have eO : pOs (pUndo S) = pOs S := by show (pUndo S 6 0 0 6).toNatClampNeg = _; rw [f6 0 0 6 (by omega)]
  have etj : ∀ j, j + 1 < pNs S → tq (pUndo S) j = tq S (j + 1) := fun j hj => by unfold tq; rw [eN, eO]; omega
  refine ⟨⟨?_, by rw [f6 0 0 1 (by omega)]; exact b, by rw [f6 0 0 6 (by omega)]; exact c, by rw [e67]; exact okI_nI (by omega) (by omega), fun j hj => ?_⟩, by rw [← et]; exact e1.1.1.2, by rw [e67]; exact nI_pos (by omega), by rw [eU], eN, etj, fM⟩
  · have h2 : MI (setF S 6 0 0 7 (nI (pNs S - 1))) (tq S 0) n' N P := MI_fr e1 (setF_m (by unfold tq; omega))
    rw [eU]
    exact MI_copy h2 (by unfold tq; omega) (by omega) (by unfold tq; omega)
  · rw [eN] at hj
    rw [etj j (by omega)]
    obtain ⟨n2, q1, q2⟩ := e (j + 1) (by omega)
    exact ⟨n2, MI_fr q1 (fM _ (by unfold tq; omega) (by unfold tq; omega)), fun z => q2 (by omega)⟩
theorem LI_app {S : St} {n N P k : Nat} {x : Int32} (h : LI S n N P k) (ht : pTL S < 120) : LI (pAppS S x) n N P k :=
  LI_fr h (fun m hm h1 => by unfold pAppS; rw [setF_m (by omega), setF_m (by omega)]) (by unfold pAppS; rw [sF_eq (by omega)]; exact okI_nI (by omega) (by omega)) (fun q hq => by unfold pAppS; simp (disch := omega) only [sF_eq, sF_ne])
theorem LI_clr {S : St} {n N P k : Nat} (h : LI S n N P k) : LI (setF S 6 0 0 1 0) n N P k :=
  LI_fr h (fun m hm h1 => setF_m (by omega)) (by rw [sF_eq (by omega)]; exact okI_lit (k := 0) (by omega) (by omega) 0 rfl) (fun q hq => by simp (disch := omega) only [sF_eq, sF_ne])
theorem LI_rep {S : St} {n N P k : Nat} (h : LI S n N P k) : LI (pReplay S 0 6 0 7).2 n N P k :=
  LI_fr h (fun m hm h1 => by funext g i; exact rep_frame S m g i (by omega)) (by rw [rep_frame S 6 0 0 (by omega)]; exact h.2.1) (fun q hq => by rw [rep_frame S 6 0 0 (by omega)])
theorem LI_abw {S : St} {n N P k b : Nat} {x : Int32} (h : LI S n N P k) (hx : okI x 2) (hN : N + b < 2 ^ 30) : LI (pOft (pTrial S x) 1 b) n N P k ∧ okDs (pTrial S x) 1 b := by
  obtain ⟨h1, T, A, h2⟩ := h.1
  obtain ⟨u1, -, -, -, u5⟩ := abw_key (b := b) h2 hx hN
  exact ⟨LI_fr h (fun m hm h1 => u5 m h1) (by rw [u5 6 (by omega)]; exact h.2.1) (fun q hq => by rw [u5 6 (by omega)]), u1⟩
/-- the reference's rows that a text gives, whatever the rest -/
theorem LI_load {S : St} {n N P k a i : Nat} (h : LI S n N P k) (ha : a < n) (ht : S 0 a 0 5 = -1) (hR : (pRdT S (pTL S)).1 = -1) (h3 : (pRdT S (pTL S)).2 6 0 3 2 = nI i) (hi : i ≤ 9) : LI (pLdS (pRdT S (pTL S)).2 a) n N (P + 9) (k + 1) ∧ pLdS (pRdT S (pTL S)).2 a 0 a 3 2 = nI i := by
  have fo : ∀ m g i k, rdOut m g i → (pRdT S (pTL S)).2 m g i k = S m g i k := fun m g i k hr => pRdT_o hr
  have hro := read_ok (S := S) (V := fun m g i k => if m = 7 ∧ g = 0 ∧ i = 6 then S 6 0 1 k else if m = 7 ∧ g = 0 ∧ i = 0 ∧ k = 7 then S 6 0 0 1 else 0) h.2.1 (by rw [if_neg (by omega), if_pos (by omega)]) (fun k hk => by rw [if_pos (by omega)])
  generalize (rAll (fun m g i k => if m = 7 ∧ g = 0 ∧ i = 6 then S 6 0 1 k else if m = 7 ∧ g = 0 ∧ i = 0 ∧ k = 7 then S 6 0 0 1 else 0)).2 = V at *
  generalize hRR : (pRdT S (pTL S)).2 = R at *
  rcases hro with ⟨-, -, i', i1, i2, i3, i4⟩ | ⟨z, -⟩
  · have hii : i' = i := (nI_eq (by omega) (by omega)).mp (i2.symm.trans h3)
    subst hii
    have f0 : R 0 = S 0 := by funext g i k; exact fo 0 g i k (by unfold rdOut; omega)
    have hL : LI R n N P k := LI_fr h (fun m hm h1 => by funext g i k; exact fo m g i k (by unfold rdOut; omega)) (by rw [fo 6 0 0 1 (by unfold rdOut; omega)]; exact h.2.1) (fun q hq => fo 6 0 0 q (by unfold rdOut; omega))
    obtain ⟨h1, T, A, h2⟩ := MI_save hL.1
    have h4 := h1.n4
    have s6 : ∀ q w, ¬ q = 0 → pSave R 6 0 q w = R 6 0 q w := fun q w hq => (save_at R hL.2.2.1 hL.2.2.2.1).2.2.1 0 q w (by omega)
    obtain ⟨A', h5⟩ := rel_row (T' := fun m g q w => if m = 7 ∧ g = 0 ∧ q = 7 then V 7 0 7 w else if m = 7 ∧ g = 0 ∧ q = 0 ∧ w = 11 then nI i' else T m g q w) h2 (by omega) (by rw [if_neg (by omega), if_neg (by omega)]; exact rel_8 h2 (by omega)) (fun w hw => by rw [if_neg (by omega), if_neg (by omega)])
    have hp : prog (pSave R) (fun m g q w => if m = 7 ∧ g = 0 ∧ q = 7 then V 7 0 7 w else if m = 7 ∧ g = 0 ∧ q = 0 ∧ w = 11 then nI i' else T m g q w) i' := fun q hq => by
      obtain ⟨q1, q2, q3, q4⟩ := i4 q hq
      dsimp only
      rw [s6 4 q (by omega), s6 5 q (by omega), if_pos (by omega), if_pos (by omega)]
      exact ⟨q1, q2, q3, q4⟩
    have fin := load_rel h5 (a := a) (by omega) (by rw [pSave_0, f0]; exact ht) i1 (by rw [s6 3 2 (by omega)]; exact i2) (by rw [if_neg (by omega), if_pos (by omega)]) hp
    have c32 : pLdS R a 0 a 3 2 = nI i' := by
      show pTake (pSave R) 0 a 6 0 0 a 3 2 = nI i'
      simp (disch := omega) only [pTake, pCopyP, cR_ne, sF_eq, sF_ne]
      rw [s6 3 2 (by omega)]; exact i2
    refine ⟨LI_mut' hL take_M ⟨MX_take h1 ha (by rw [pSave_0, f0]; exact ht) (by rw [s6 3 2 (by omega), i2, nI_clamp (by omega)]; exact hi), _, _, fin⟩ (Nat.le_refl _) (Nat.le_add_right _ _), c32⟩
  · exact absurd hR z

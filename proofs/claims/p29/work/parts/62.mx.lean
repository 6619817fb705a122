/-! WHAT HOLDS OF A MACHINE in every state: n cores; P bounds what the log may come to -/
def own (S : St) (m g : Nat) : Int := if S m g 0 5 = -1 then (S m g 0 6).toInt else (S m g 0 5).toInt
def bas (S : St) (m g : Nat) : Nat := if S m g 0 5 = -1 then (S m g 0 3).toNatClampNeg else (S m g 0 7).toNatClampNeg
/-- the instructions that a core may still log, if it is not sent back -/
def pt (S : St) (m g : Nat) : Nat := (S m g 3 2).toNatClampNeg - bas S m g
def tn (S : St) (m e : Nat) : Int := (S m 4 6 e).toInt
/-- the lines behind q entries of the log -/
def lgV (S : St) (m : Nat) : Nat → Nat → Int32
  | 0, _ => 0
  | e + 1, l => if hasL (S m 4 8 e) l = true then S m 4 10 (e * 8 + l) else lgV S m e l
def enOK (S : St) (m e : Nat) : Prop := ok8 (S m 4 7 e) ∧ ok8 (S m 4 8 e) ∧ (∀ l, l < 8 → S m 4 9 (e * 8 + l) = (if hasL (S m 4 7 e) l = true then lgV S m e l else 0) ∧ (hasL (S m 4 8 e) l = false → S m 4 10 (e * 8 + l) = 0)) ∧ (S m 4 6 e = -1 → S m 4 7 e = 0 ∧ ∃ l, l < 8 ∧ S m 4 8 e = 1 <<< (nI l &&& 31))
def lnS (S : St) (m n : Nat) (V : Nat → Int32) (l : Nat) : Prop := lnOK n (fun g => S m g 1 l) (fun g => S m g 2 l) (fun g => S m g 6 l) (fun g => hasL (S m g 0 10) l) (fun g => hasL (S m g 0 9) l) (fun g => hasL (S m g 0 11) l) (S m 4 2 l) (V l)
def seS (S : St) (m g : Nat) : Prop := ok8 (S m g 0 9) ∧ ok8 (S m g 0 10) ∧ ok8 (S m g 0 11) ∧ (S m g 0 5 = -1 → S m g 0 9 = 0 ∧ S m g 0 10 = 0 ∧ S m g 0 11 = 0) ∧ (S m g 0 5 ≠ -1 → (S m g 0 7).toNatClampNeg ≤ (S m g 0 3).toNatClampNeg)
def MX (S : St) (m n P : Nat) : Prop :=
  ((pCC S m = n ∧ n ≤ 4) ∧ okI (S m 4 4 7) 400) ∧ (∀ l, l < 8 → lnS S m n (lgV S m (pQ S m)) l) ∧ (∀ g, g < n → seS S m g) ∧
  nbOK n (own S m) (S m 4 0 8).toInt (pQ S m) (tn S m) ∧
  S m 4 3 5 + S m 4 3 6 = sI (fun g => S m g 0 14) n ∧ sI (fun g => S m g 0 13) n = nI (cT (tn S m) (pQ S m)) ∧
  (pQ S m + sN (pt S m) n ≤ P ∧ ∀ g, g < n → (S m g 3 2).toNatClampNeg ≤ 9) ∧ ∀ e, e < pQ S m → enOK S m e
theorem lgV_cg {S S' : St} {m m' : Nat} : ∀ (q : Nat), (∀ e, e < q → S' m' 4 8 e = S m 4 8 e) → (∀ e l, e < q → l < 8 → S' m' 4 10 (e * 8 + l) = S m 4 10 (e * 8 + l)) → ∀ l, l < 8 → lgV S' m' q l = lgV S m q l
  | 0, _, _, _, _ => rfl
  | q + 1, h1, h2, l, hl => by
    rw [lgV, lgV, h1 q (by omega), h2 q l (by omega) hl, lgV_cg q (fun e he => h1 e (by omega)) (fun e l he hl => h2 e l (by omega) hl) l hl]
theorem enOK_cg {S S' : St} {m m' e : Nat} (h : enOK S m e) (h6 : S' m' 4 6 e = S m 4 6 e) (h7 : S' m' 4 7 e = S m 4 7 e) (h8 : ∀ d, d ≤ e → S' m' 4 8 d = S m 4 8 d) (h9 : ∀ l, l < 8 → S' m' 4 9 (e * 8 + l) = S m 4 9 (e * 8 + l)) (h10 : ∀ d l, d ≤ e → l < 8 → S' m' 4 10 (d * 8 + l) = S m 4 10 (d * 8 + l)) : enOK S' m' e := by
  obtain ⟨a, b, c, d⟩ := h
  unfold enOK
  rw [h6, h7, h8 e (Nat.le_refl _)]
  refine ⟨a, b, fun l hl => ?_, d⟩
  rw [h9 l hl, h10 e l (Nat.le_refl _) hl, lgV_cg (S := S) (m := m) e (fun d hd => h8 d (by omega)) (fun d l hd hl => h10 d l (by omega) hl) l hl]
  exact c l hl
theorem seS_cg {S S' : St} {m m' g : Nat} (h : seS S m g) (e : ∀ k, k = 3 ∨ k = 5 ∨ k = 7 ∨ k = 9 ∨ k = 10 ∨ k = 11 → S' m' g 0 k = S m g 0 k) : seS S' m' g := by
  unfold seS
  rw [e 3 (by omega), e 5 (by omega), e 7 (by omega), e 9 (by omega), e 10 (by omega), e 11 (by omega)]
  exact h
theorem lnS_cg {S S' : St} {m m' n l : Nat} {V V' : Nat → Int32} (h : lnS S m n V l) (e : ∀ g i, g < n → i = 1 ∨ i = 2 ∨ i = 6 → S' m' g i l = S m g i l) (e0 : ∀ g k, g < n → k = 9 ∨ k = 10 ∨ k = 11 → S' m' g 0 k = S m g 0 k) (em : S' m' 4 2 l = S m 4 2 l) (ev : V' l = V l) : lnS S' m' n V' l :=
  ln_cg h (fun g hg => e g 1 hg (by omega)) (fun g hg => e g 2 hg (by omega)) (fun g hg => e g 6 hg (by omega)) (fun g hg => congrArg (fun x => hasL x l) (e0 g 10 hg (by omega))) (fun g hg => congrArg (fun x => hasL x l) (e0 g 9 hg (by omega))) (fun g hg => congrArg (fun x => hasL x l) (e0 g 11 hg (by omega))) em ev
/-- what does not touch the numbers and the log -/
theorem MX_gen {S S' : St} {m n P : Nat} (h : MX S m n P) (r0 : ∀ g k, g < n → k = 3 ∨ k = 5 ∨ k = 6 ∨ k = 7 ∨ k = 13 ∨ k = 14 → S' m g 0 k = S m g 0 k) (r3 : ∀ g, g < n → S' m g 3 2 = S m g 3 2) (c4 : S' m 4 0 4 = S m 4 0 4) (c8 : S' m 4 0 8 = S m 4 0 8) (c3 : ∀ k, k = 5 ∨ k = 6 → S' m 4 3 k = S m 4 3 k) (lg : ∀ i k, 4 ≤ i → S' m 4 i k = S m 4 i k) (se : ∀ g, g < n → seS S' m g) (ln : ∀ l, l < 8 → lnS S' m n (lgV S m (pQ S m)) l) : MX S' m n P := by
  obtain ⟨⟨h1, h1q⟩, h2, h3, h4, h5, h6, h7, h8⟩ := h
  have eQ : pQ S' m = pQ S m := by show (S' m 4 4 7).toNatClampNeg = (S m 4 4 7).toNatClampNeg; rw [lg 4 7 (by omega)]
  have eV : ∀ l, l < 8 → lgV S' m (pQ S m) l = lgV S m (pQ S m) l := lgV_cg _ (fun e _ => lg 8 e (by omega)) (fun e l _ _ => lg 10 _ (by omega))
  have eT : ∀ e, tn S' m e = tn S m e := fun e => by unfold tn; rw [lg 6 e (by omega)]
  unfold MX
  rw [eQ, c3 5 (by omega), c3 6 (by omega), c8, lg 4 7 (by omega)]
  refine ⟨⟨⟨by rw [← h1.1]; show (S' m 4 0 4).toNatClampNeg = _; rw [c4], h1.2⟩, h1q⟩, fun l hl => ?_, se, ?_, ?_, ?_, ⟨?_, fun g hg => by rw [r3 g hg]; exact h7.2 g hg⟩, fun e he => ?_⟩
  · have := ln l hl
    unfold lnS at *
    rw [eV l hl]; exact this
  · exact nb_cg h4 (fun g hg => by unfold own; rw [r0 g 5 hg (by omega), r0 g 6 hg (by omega)]) (fun e _ => eT e) rfl rfl
  · rw [h5]; exact (sI_cg (fun g hg => r0 g 14 hg (by omega))).symm
  · rw [cT_cg (fun e _ => eT e), ← h6]; exact sI_cg (fun g hg => r0 g 13 hg (by omega))
  · rw [sN_cg (f := pt S m) (f' := pt S' m) (fun g hg => by unfold pt bas; rw [r0 g 5 hg (by omega), r0 g 3 hg (by omega), r0 g 7 hg (by omega), r3 g hg])]; exact h7.1
  · exact enOK_cg (h8 e he) (lg 6 e (by omega)) (lg 7 e (by omega)) (fun d _ => lg 8 d (by omega)) (fun l _ => lg 9 _ (by omega)) (fun d l _ _ => lg 10 _ (by omega))
theorem MX.n4 {S : St} {m n P : Nat} (h : MX S m n P) : n ≤ 4 := h.1.1.2
theorem MX.cc {S : St} {m n P : Nat} (h : MX S m n P) : pCC S m = n := h.1.1.1
theorem MX_mono {S : St} {m n P P' : Nat} (h : MX S m n P) (hP : P ≤ P') : MX S m n P' := by
  obtain ⟨h1, h2, h3, h4, h5, h6, h7, h8⟩ := h
  exact ⟨h1, h2, h3, h4, h5, h6, ⟨Nat.le_trans h7.1 hP, h7.2⟩, h8⟩
theorem MX_inc {S : St} {m n P k : Nat} (h : MX S m n P) (h5 : k ≠ 5) (h6 : k ≠ 6) : MX (inc S m k) m n P := by
  have hn := h.n4
  refine MX_gen h (fun g i hg _ => by simp (disch := omega) only [inc, sF_eq, sF_ne]) (fun g hg => by simp (disch := omega) only [inc, sF_eq, sF_ne]) (by simp (disch := omega) only [inc, sF_eq, sF_ne]) (by simp (disch := omega) only [inc, sF_eq, sF_ne]) (fun i hi => by simp (disch := omega) only [inc, sF_eq, sF_ne]) (fun i k hi => by simp (disch := omega) only [inc, sF_eq, sF_ne]) (fun g hg => seS_cg (h.2.2.1 g hg) (fun i _ => by simp (disch := omega) only [inc, sF_eq, sF_ne])) (fun l hl => lnS_cg (h.2.1 l hl) (fun g i hg _ => by simp (disch := omega) only [inc, sF_eq, sF_ne]) (fun g i hg _ => by simp (disch := omega) only [inc, sF_eq, sF_ne]) (by simp (disch := omega) only [inc, sF_eq, sF_ne]) rfl)
theorem MX_acc {S : St} {m n P a : Nat} {v : Int32} (h : MX S m n P) (ha : a < n) : MX (setF S m a 0 4 v) m n P := by
  have hn := h.n4
  refine MX_gen h (fun g i hg _ => by simp (disch := omega) only [sF_eq, sF_ne]) (fun g hg => by simp (disch := omega) only [sF_eq, sF_ne]) (by simp (disch := omega) only [sF_eq, sF_ne]) (by simp (disch := omega) only [sF_eq, sF_ne]) (fun i hi => by simp (disch := omega) only [sF_eq, sF_ne]) (fun i k hi => by simp (disch := omega) only [sF_eq, sF_ne]) (fun g hg => seS_cg (h.2.2.1 g hg) (fun i _ => by simp (disch := omega) only [sF_eq, sF_ne])) (fun l hl => lnS_cg (h.2.1 l hl) (fun g i hg _ => by simp (disch := omega) only [sF_eq, sF_ne]) (fun g i hg _ => by simp (disch := omega) only [sF_eq, sF_ne]) (by simp (disch := omega) only [sF_eq, sF_ne]) rfl)
/-- a modified line elsewhere is written back -/
theorem MX_wb {S : St} {m n P a j : Nat} (h : MX S m n P) (ha : a < n) (hj : j < 8) (hs : S m a 1 j = 2) (hw : hasL (S m a 0 10) j = false) : MX (setF (pWB S m a j) m a 1 j 1) m n P := by
  have hn := h.n4
  refine MX_gen h (fun g i hg _ => by simp (disch := omega) only [pWB, inc, sF_eq, sF_ne]) (fun g hg => by simp (disch := omega) only [pWB, inc, sF_eq, sF_ne]) (by simp (disch := omega) only [pWB, inc, sF_eq, sF_ne]) (by simp (disch := omega) only [pWB, inc, sF_eq, sF_ne]) (fun i hi => by simp (disch := omega) only [pWB, inc, sF_eq, sF_ne]) (fun i k hi => by simp (disch := omega) only [pWB, inc, sF_eq, sF_ne]) (fun g hg => seS_cg (h.2.2.1 g hg) (fun i _ => by simp (disch := omega) only [pWB, inc, sF_eq, sF_ne])) (fun l hl => ?_)
  by_cases hlj : l = j
  · subst hlj
    exact ln_shr (h.2.1 l hl) ha hs hw (fun g hg hne => by simp (disch := omega) only [pWB, inc, sF_eq, sF_ne]) (by simp (disch := omega) only [pWB, inc, sF_eq, sF_ne]) (fun g hg => by simp (disch := omega) only [pWB, inc, sF_eq, sF_ne]) (fun g hg => by simp (disch := omega) only [pWB, inc, sF_eq, sF_ne]) (fun g hg => by simp (disch := omega) only [pWB, inc, sF_eq, sF_ne]) (fun g hg => by simp (disch := omega) only [pWB, inc, sF_eq, sF_ne]) (fun g hg => by simp (disch := omega) only [pWB, inc, sF_eq, sF_ne]) (by simp (disch := omega) only [pWB, inc, sF_eq, sF_ne]) rfl
  · exact lnS_cg (h.2.1 l hl) (fun g i hg _ => by simp (disch := omega) only [pWB, inc, sF_eq, sF_ne]) (fun g i hg _ => by simp (disch := omega) only [pWB, inc, sF_eq, sF_ne]) (by simp (disch := omega) only [pWB, inc, sF_eq, sF_ne]) rfl
theorem MX_inv {S : St} {m n P a j : Nat} (h : MX S m n P) (ha : a < n) (hj : j < 8) (hs : S m a 1 j ≠ 2) : MX (setF S m a 1 j 0) m n P := by
  have hn := h.n4
  refine MX_gen h (fun g i hg _ => by simp (disch := omega) only [sF_eq, sF_ne]) (fun g hg => by simp (disch := omega) only [sF_eq, sF_ne]) (by simp (disch := omega) only [sF_eq, sF_ne]) (by simp (disch := omega) only [sF_eq, sF_ne]) (fun i hi => by simp (disch := omega) only [sF_eq, sF_ne]) (fun i k hi => by simp (disch := omega) only [sF_eq, sF_ne]) (fun g hg => seS_cg (h.2.2.1 g hg) (fun i _ => by simp (disch := omega) only [sF_eq, sF_ne])) (fun l hl => ?_)
  by_cases hlj : l = j
  · subst hlj
    exact ln_inv (h.2.1 l hl) ha hs (fun g hg hne => by simp (disch := omega) only [sF_eq, sF_ne]) (by simp (disch := omega) only [sF_eq, sF_ne]) (fun g hg => by simp (disch := omega) only [sF_eq, sF_ne]) (fun g hg => by simp (disch := omega) only [sF_eq, sF_ne]) (fun g hg => by simp (disch := omega) only [sF_eq, sF_ne]) (fun g hg => by simp (disch := omega) only [sF_eq, sF_ne]) (fun g hg => by simp (disch := omega) only [sF_eq, sF_ne]) (by simp (disch := omega) only [sF_eq, sF_ne]) rfl
  · exact lnS_cg (h.2.1 l hl) (fun g i hg _ => by simp (disch := omega) only [sF_eq, sF_ne]) (fun g i hg _ => by simp (disch := omega) only [sF_eq, sF_ne]) (by simp (disch := omega) only [sF_eq, sF_ne]) rfl

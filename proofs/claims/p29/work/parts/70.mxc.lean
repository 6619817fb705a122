/-! copies, a fresh start, programs, settings -/
theorem MX_cong {S S' : St} {m m' n P : Nat} (h : MX S m n P) (hC : ∀ g, g < 4 → sameC S' m' S m g) (c0 : ∀ k, 4 ≤ k → k ≤ 8 → S' m' 4 0 k = S m 4 0 k) (c2 : ∀ i k, i = 2 ∨ i = 3 → k < 8 → S' m' 4 i k = S m 4 i k) (cq : S' m' 4 4 7 = S m 4 4 7) (c5 : ∀ i k, 5 ≤ i → i ≤ 8 → k < pQ S m → S' m' 4 i k = S m 4 i k) (c9 : ∀ i k, i = 9 ∨ i = 10 → k < pQ S m * 8 → S' m' 4 i k = S m 4 i k) : MX S' m' n P := by
  obtain ⟨⟨h1, h1q⟩, h2, h3, h4, h5, h6, h7, h8⟩ := h
  have hn := h1.2
  have e0 : ∀ g k, g < n → (3 ≤ k ∧ k ≤ 11) ∨ k = 13 ∨ k = 14 → S' m' g 0 k = S m g 0 k := fun g k hg hk => (hC g (by omega)).1 k hk
  have e3 : ∀ g, g < n → S' m' g 3 2 = S m g 3 2 := fun g hg => (hC g (by omega)).2.1
  have eL : ∀ g i k, g < n → i = 1 ∨ i = 2 ∨ i = 6 → k < 8 → S' m' g i k = S m g i k := fun g i k hg hi hk => (hC g (by omega)).2.2.1 i k hi hk
  have eQ : pQ S' m' = pQ S m := by show (S' m' 4 4 7).toNatClampNeg = (S m 4 4 7).toNatClampNeg; rw [cq]
  have eV : ∀ l, l < 8 → lgV S' m' (pQ S m) l = lgV S m (pQ S m) l := lgV_cg _ (fun e he => c5 8 e (by omega) (by omega) he) (fun e l he hl => c9 10 _ (by omega) (by omega))
  have eT : ∀ e, e < pQ S m → tn S' m' e = tn S m e := fun e he => by unfold tn; rw [c5 6 e (by omega) (by omega) he]
  unfold MX
  rw [eQ, c2 3 5 (by omega) (by omega), c2 3 6 (by omega) (by omega), c0 8 (by omega) (by omega), cq]
  refine ⟨⟨⟨by rw [← h1.1]; show (S' m' 4 0 4).toNatClampNeg = _; rw [c0 4 (by omega) (by omega)], h1.2⟩, h1q⟩, fun l hl => ?_, fun g hg => seS_cg (h3 g hg) (fun k hk => e0 g k hg (by omega)), ?_, ?_, ?_, ⟨?_, fun g hg => by rw [e3 g hg]; exact h7.2 g hg⟩, fun e he => ?_⟩
  · exact lnS_cg (h2 l hl) (fun g i hg hi => eL g i l hg hi hl) (fun g k hg hk => e0 g k hg (by omega)) (c2 2 l (by omega) hl) (eV l hl)
  · exact nb_cg h4 (fun g hg => by unfold own; rw [e0 g 5 hg (by omega), e0 g 6 hg (by omega)]) (fun e he => eT e he) rfl rfl
  · rw [h5]; exact (sI_cg (fun g hg => e0 g 14 hg (by omega))).symm
  · rw [cT_cg (fun e he => eT e he), ← h6]; exact sI_cg (fun g hg => e0 g 13 hg (by omega))
  · rw [sN_cg (f := pt S m) (f' := pt S' m') (fun g hg => by unfold pt bas; rw [e0 g 5 hg (by omega), e0 g 3 hg (by omega), e0 g 7 hg (by omega), e3 g hg])]; exact h7.1
  · exact enOK_cg (h8 e he) (c5 6 e (by omega) (by omega) he) (c5 7 e (by omega) (by omega) he) (fun d hd => c5 8 d (by omega) (by omega) (by omega)) (fun l hl => c9 9 _ (by omega) (by omega)) (fun d l hd hl => c9 10 _ (by omega) (by omega))
theorem MX_fr {S S' : St} {m n P : Nat} (h : MX S m n P) (e : S' m = S m) : MX S' m n P :=
  MX_cong h (fun g _ => by unfold sameC; rw [e]; exact ⟨fun _ _ => rfl, rfl, fun _ _ _ _ => rfl, fun _ _ _ _ => rfl⟩) (fun k _ _ => by rw [e]) (fun i k _ _ => by rw [e]) (by rw [e]) (fun i k _ _ _ => by rw [e]) (fun i k _ _ => by rw [e])
theorem MX_copy {S : St} {m m2 n P : Nat} (h : MX S m2 n P) (hne : m ≠ m2) (hm : m ≠ 1) : MX (pCopyM S m m2) m n P := by
  obtain ⟨a1, a2, a3, a4, a5, a6⟩ := copyM_at (S := S) hne
  have hk : pKept S m m2 = pQ S m2 := by
    have hq : pQ S m2 ≤ 400 := h.1.2.2
    unfold pKept rmI; rw [if_neg hm]; split <;> omega
  rw [hk] at a4 a5 a6
  exact MX_cong h a1 a2 a3 (by rw [a4]; exact h.1.2.1.symm) a5 a6
theorem sI_0 {f : Nat → Int32} : ∀ {n : Nat}, (∀ g, g < n → f g = 0) → sI f n = 0
  | 0, _ => rfl
  | n + 1, h => by rw [sI, sI_0 (n := n) (fun g hg => h g (by omega)), h n (by omega)]; rfl
theorem sN_0 {f : Nat → Nat} : ∀ {n : Nat}, (∀ g, g < n → f g = 0) → sN f n = 0
  | 0, _ => rfl
  | n + 1, h => by rw [sN, sN_0 (n := n) (fun g hg => h g (by omega)), h n (by omega)]
theorem MX_clear {S : St} {m n : Nat} (hC : ∀ g, g < 4 → clC S m g) (hcc : pCC S m = n) (hn : n ≤ 4) (hq : S m 4 4 7 = 0) (h8 : S m 4 0 8 = 0) (hm : ∀ j, j < 8 → S m 4 2 j = 0) (hc : ∀ j, j < 8 → S m 4 3 j = 0) : MX S m n 0 := by
  have eQ : pQ S m = 0 := by show (S m 4 4 7).toNatClampNeg = 0; rw [hq]; rfl
  have z8 : (0 : Int32).toInt = 0 := by decide
  unfold MX
  rw [eQ, h8, hc 5 (by omega), hc 6 (by omega), hq, z8]
  refine ⟨⟨⟨hcc, hn⟩, okI_nI (k := 0) (by omega) (by omega)⟩, fun l hl => ?_, fun g hg => ?_, ?_, ?_, ?_, ⟨?_, fun g hg => ?_⟩, fun e he => absurd he (by omega)⟩
  · refine ln_poke (fun g hg => (hC g (by omega)).1 l hl) (fun g hg => ?_) (fun g hg => ?_) (fun g hg => ?_) (hm l hl)
    · show hasL (S m g 0 10) l = false; rw [(hC g (by omega)).2.2.2.2.2.2.2.1]; exact hasL_0 hl
    · show hasL (S m g 0 9) l = false; rw [(hC g (by omega)).2.2.2.2.2.2.1]; exact hasL_0 hl
    · show hasL (S m g 0 11) l = false; rw [(hC g (by omega)).2.2.2.2.2.2.2.2.1]; exact hasL_0 hl
  · obtain ⟨-, -, -, -, c5, -, c9, c10, c11, -⟩ := hC g (by omega)
    unfold seS
    rw [c9, c10, c11]
    exact ⟨ok8_0, ok8_0, ok8_0, fun _ => ⟨rfl, rfl, rfl⟩, fun z => absurd c5 z⟩
  · have ho : ∀ g, g < n → own S m g = -1 := fun g hg => by
      obtain ⟨-, -, -, -, c5, c6, -⟩ := hC g (by omega)
      unfold own; rw [if_pos c5, c6]; rfl
    exact ⟨fun g hg => Or.inl (ho g hg), fun g b hg _ _ _ => ho g hg, fun e he => absurd he (by omega), fun e he => absurd he (by omega), fun e d he => absurd he (by omega), Int.le_refl _⟩
  · rw [sI_0 (fun g hg => (hC g (by omega)).2.2.2.2.2.2.2.2.2.2)]; rfl
  · rw [sI_0 (fun g hg => (hC g (by omega)).2.2.2.2.2.2.2.2.2.1)]; rfl
  · rw [sN_0 (fun g hg => by
      obtain ⟨-, c2, -⟩ := hC g (by omega)
      unfold pt; rw [c2]; exact Nat.zero_sub _)]; exact Nat.le_refl _
  · rw [(hC g (by omega)).2.1]; exact Nat.zero_le _
theorem MX_start {S : St} {m n : Nat} {a b d : Int32} (ha : a.toNatClampNeg = n) (hn : n ≤ 4) : MX (pStart S m a b d) m n 0 := by
  obtain ⟨s1, s2, s3, s4, s5, s6, s7, s8, s9⟩ := start_at S m a b d
  exact MX_clear s1 (by show (pStart S m a b d m 4 0 4).toNatClampNeg = n; rw [s2]; exact ha) hn s7 s6 s8 s9
theorem MX_set {S : St} {m n P k : Nat} {v : Int32} (h : MX S m n P) (h4 : k ≠ 4) (h8 : k ≠ 8) : MX (setF S m 4 0 k v) m n P := by
  have hn := h.n4
  refine MX_gen h (fun g i hg _ => by simp (disch := omega) only [sF_eq, sF_ne]) (fun g hg => by simp (disch := omega) only [sF_eq, sF_ne]) (by simp (disch := omega) only [sF_eq, sF_ne]) (by simp (disch := omega) only [sF_eq, sF_ne]) (fun i hi => by simp (disch := omega) only [sF_eq, sF_ne]) (fun i k hi => by simp (disch := omega) only [sF_eq, sF_ne]) (fun g hg => seS_cg (h.2.2.1 g hg) (fun i _ => by simp (disch := omega) only [sF_eq, sF_ne])) (fun l hl => lnS_cg (h.2.1 l hl) (fun g i hg _ => by simp (disch := omega) only [sF_eq, sF_ne]) (fun g i hg _ => by simp (disch := omega) only [sF_eq, sF_ne]) (by simp (disch := omega) only [sF_eq, sF_ne]) rfl)
/-- a core's program begins anew, or another one -/
theorem MX_prog {S S' : St} {m n P a : Nat} (h : MX S m n P) (ha : a < n) (ht : S m a 0 5 = -1) (en : ∀ g i k, g < n → g ≠ a → S' m g i k = S m g i k) (e4 : ∀ i k, S' m 4 i k = S m 4 i k) (e0 : ∀ k, k = 5 ∨ k = 7 ∨ k = 9 ∨ k = 10 ∨ k = 11 ∨ k = 13 ∨ k = 14 → S' m a 0 k = S m a 0 k) (eL : ∀ i k, i = 1 ∨ i = 2 ∨ i = 6 → S' m a i k = S m a i k) (e6 : S' m a 0 6 = S m a 0 6 ∨ S' m a 0 6 = -1) (e3 : S' m a 0 3 = 0) (el : (S' m a 3 2).toNatClampNeg ≤ 9) : MX S' m n (P + 9) := by
  obtain ⟨⟨h1, h1q⟩, h2, h3, h4, h5, h6, h7, h8⟩ := h
  have eQ : pQ S' m = pQ S m := by show (S' m 4 4 7).toNatClampNeg = (S m 4 4 7).toNatClampNeg; rw [e4]
  have eV : ∀ l, l < 8 → lgV S' m (pQ S m) l = lgV S m (pQ S m) l := lgV_cg _ (fun e _ => e4 8 e) (fun e l _ _ => e4 10 _)
  have eT : ∀ e, tn S' m e = tn S m e := fun e => by unfold tn; rw [e4]
  unfold MX
  rw [eQ, e4, e4, e4, e4]
  refine ⟨⟨⟨by rw [← h1.1]; show (S' m 4 0 4).toNatClampNeg = _; rw [e4], h1.2⟩, h1q⟩, fun l hl => ?_, fun g hg => ?_, ?_, ?_, ?_, ⟨?_, fun g hg => ?_⟩, fun e he => ?_⟩
  · refine lnS_cg (h2 l hl) (fun g i hg hi => ?_) (fun g k hg hk => ?_) (e4 2 l) (eV l hl)
    · by_cases hga : g = a
      · subst hga; exact eL i l hi
      · exact en g i l hg hga
    · by_cases hga : g = a
      · subst hga; exact e0 k (by omega)
      · exact en g 0 k hg hga
  · by_cases hga : g = a
    · subst hga
      obtain ⟨s1, s2, s3, s4, s5⟩ := h3 g hg
      unfold seS
      rw [e0 5 (by omega), e0 7 (by omega), e0 9 (by omega), e0 10 (by omega), e0 11 (by omega)]
      exact ⟨s1, s2, s3, s4, fun z => absurd ht z⟩
    · exact seS_cg (h3 g hg) (fun k _ => en g 0 k hg hga)
  · have eo : ∀ g, g < n → g ≠ a → own S' m g = own S m g := fun g hg hga => by unfold own; rw [en g 0 5 hg hga, en g 0 6 hg hga]
    rcases e6 with e6 | e6
    · refine nb_cg h4 (fun g hg => ?_) (fun e _ => eT e) rfl rfl
      by_cases hga : g = a
      · subst hga; unfold own; rw [e0 5 (by omega), e6]
      · exact eo g hg hga
    · refine nb_none (a := a) h4 (fun g hg hga => eo g hg hga) ?_ (fun e _ => eT e) rfl rfl
      unfold own; rw [e0 5 (by omega), if_pos ht, e6]; rfl
  · rw [h5]; exact (sI_cg (fun g hg => by
      by_cases hga : g = a
      · subst hga; exact e0 14 (by omega)
      · exact en g 0 14 hg hga)).symm
  · rw [cT_cg (fun e _ => eT e), ← h6]; exact sI_cg (fun g hg => by
      by_cases hga : g = a
      · subst hga; exact e0 13 (by omega)
      · exact en g 0 13 hg hga)
  · have := sN_up (f := pt S m) (f' := pt S' m) (a := a) (d := (S' m a 3 2).toNatClampNeg) (d' := pt S m a) ha (fun g hg hga => by unfold pt bas; rw [en g 0 5 hg hga, en g 0 3 hg hga, en g 0 7 hg hga, en g 3 2 hg hga]) (by
      have e1 : pt S' m a = (S' m a 3 2).toNatClampNeg := by
        unfold pt bas; rw [e0 5 (by omega), if_pos ht, e3]; rfl
      rw [e1]; omega)
    have h71 := h7.1
    omega
  · by_cases hga : g = a
    · subst hga; exact el
    · rw [en g 3 2 hg hga]; exact h7.2 g hg
  · exact enOK_cg (h8 e he) (e4 6 e) (e4 7 e) (fun d _ => e4 8 d) (fun l _ => e4 9 _) (fun d l _ _ => e4 10 _)
theorem MX_again {S : St} {m n P a : Nat} (h : MX S m n P) (ha : a < n) (ht : S m a 0 5 = -1) : MX (setF S m a 0 3 0) m n (P + 9) := by
  have hn := h.n4
  exact MX_prog h ha ht (fun g i k _ hga => by simp (disch := omega) only [sF_eq, sF_ne]) (fun i k => by simp (disch := omega) only [sF_eq, sF_ne]) (fun k _ => by simp (disch := omega) only [sF_eq, sF_ne]) (fun i k _ => by simp (disch := omega) only [sF_eq, sF_ne]) (Or.inl (by simp (disch := omega) only [sF_eq, sF_ne])) (by simp (disch := omega) only [sF_eq, sF_ne]) (by simp (disch := omega) only [sF_eq, sF_ne]; exact h.2.2.2.2.2.2.1.2 a ha)
theorem MX_take {S : St} {n P a : Nat} (h : MX S 0 n P) (ha : a < n) (ht : S 0 a 0 5 = -1) (hl : (S 6 0 3 2).toNatClampNeg ≤ 9) : MX (pTake S 0 a 6 0) 0 n (P + 9) := by
  have hn := h.n4
  have eP : ∀ g i k, ¬ (g = a ∧ (i = 3 ∨ i = 4 ∨ i = 5)) → pCopyP S 0 a 6 0 0 g i k = S 0 g i k := fun g i k hne => by
    unfold pCopyP; rw [sF_ne (by omega), cR_ne (by omega), cR_ne (by omega)]
  have el : pCopyP S 0 a 6 0 0 a 3 2 = S 6 0 3 2 := by
    unfold pCopyP; rw [sF_eq ⟨rfl, rfl, rfl, rfl⟩, cR_ne (by omega), cR_ne (by omega)]
  unfold pTake
  refine MX_prog h ha ht (fun g i k hg hga => ?_) (fun i k => ?_) (fun k hk => ?_) (fun i k hi => ?_) (Or.inr (by simp (disch := omega) only [sF_eq, sF_ne])) (by simp (disch := omega) only [sF_eq, sF_ne]) ?_
  · simp (disch := omega) only [sF_eq, sF_ne]; exact eP _ _ _ (by omega)
  · simp (disch := omega) only [sF_eq, sF_ne]; exact eP _ _ _ (by omega)
  · simp (disch := omega) only [sF_eq, sF_ne]; exact eP _ _ _ (by omega)
  · simp (disch := omega) only [sF_eq, sF_ne]; exact eP _ _ _ (by omega)
  · simp (disch := omega) only [sF_eq, sF_ne]; rw [el]; exact hl

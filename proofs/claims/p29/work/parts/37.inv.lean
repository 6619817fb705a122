/-! the whole state: the class's object beside the reference -/
def mkT (r : Nat → Int32) : St := fun m g i k => if m = 7 ∧ g = 0 ∧ i = 1 then r k else 0
theorem mkT_1 (r : Nat → Int32) (k : Nat) : mkT r 7 0 1 k = r k := by unfold mkT; rw [if_pos ⟨rfl, rfl, rfl⟩]
theorem mkT_0 (r : Nat → Int32) (k : Nat) : mkT r 7 0 0 k = 0 := by unfold mkT; rw [if_neg (by omega)]
def relE (S : St) (m : Nat) (r : Nat → Int32) (N : Nat) : Prop := ∃ A, rel S m (mkT r) N A
theorem sameC_rf (S : St) (m g : Nat) : sameC S m S m g := ⟨fun _ _ => rfl, rfl, fun _ _ _ _ => rfl, fun _ _ _ _ => rfl⟩
theorem rel_row {S T T' : St} {m N : Nat} {A : Int32} (h : rel S m T N A) (hm : m ≠ 1) (h8 : T' 7 0 0 8 = 0) (hT : ∀ k, k < 8006 → T' 7 0 1 k = T 7 0 1 k) : ∃ A', rel S m T' N A' :=
  rel_cong h (fun g _ => sameC_rf S m g) (fun _ _ _ => rfl) (fun _ _ _ _ => rfl) h.1.2.2.2.2.2.2.2.2.2.1 (fun k hk => hT k (by omega)) (rL_cong h.2.2.2 hm hm h8 rfl h.1.2.2.2.2.2.2.2.2.2.1.2 (fun _ _ _ _ _ => rfl) (fun _ _ _ _ => rfl) hT)
theorem relE_of {S T : St} {m N : Nat} {A : Int32} {r : Nat → Int32} (h : rel S m T N A) (hm : m ≠ 1) (hr : ∀ k, k < 8006 → r k = T 7 0 1 k) : relE S m r N :=
  rel_row h hm (mkT_0 r 8) (fun k hk => by rw [mkT_1]; exact hr k hk)
theorem relE_to {S T : St} {m N : Nat} {r : Nat → Int32} (h : relE S m r N) (hm : m ≠ 1) (h8 : T 7 0 0 8 = 0) (hr : ∀ k, k < 8006 → T 7 0 1 k = r k) : ∃ A, rel S m T N A := by
  obtain ⟨A, hA⟩ := h
  exact rel_row hA hm h8 (fun k hk => by rw [mkT_1]; exact hr k hk)
theorem rel_fr {S S' T : St} {m N : Nat} {A : Int32} (h : rel S m T N A) (e : S' m = S m) : rel S' m T N A := by
  unfold rel rG rU rCr rA rT1 rT2 rT3 rV rP rB rL rEn at *
  simp only [pCC, pLn, pPs, pQ, e] at *
  exact h
theorem relE_fr {S S' : St} {m N N' : Nat} {r r' : Nat → Int32} (h : relE S m r N) (hm : m ≠ 1) (e : S' m = S m) (hr : ∀ k, k < 8006 → r' k = r k) (hN : N ≤ N') : relE S' m r' N' := by
  obtain ⟨A, hA⟩ := h
  exact relE_of (rel_mono (rel_fr hA e) hN) hm (fun k hk => by rw [mkT_1]; exact hr k hk)
/-- what undo has -/
def svI (S : St) (N : Nat) : Prop := okI (S 6 0 0 6) 3 ∧ okI (S 6 0 0 7) 4 ∧ S 7 0 0 5 = S 6 0 0 7 ∧ ∀ i, i < pNs S → relE S ((pOs S + i) % 4 + 2) (S 7 0 (2 + (pNs S - 1 - i))) N
/-- the text -/
def txI (S : St) : Prop := okI (S 6 0 0 1) 120 ∧ S 7 0 0 7 = S 6 0 0 1 ∧ ∀ k, k < pTL S → S 6 0 1 k = S 7 0 6 k
def Inv (S : St) (N : Nat) : Prop := relE S 0 (S 7 0 1) N ∧ S 7 0 0 8 = 0 ∧ txI S ∧ svI S N
theorem rCp_at {S : St} {i1 i2 : Nat} (h : i1 ≠ i2) : (∀ k, k < 8006 → rCp S i1 i2 7 0 i2 k = S 7 0 i1 k) ∧ ∀ m g i, ¬ (m = 7 ∧ g = 0 ∧ i = i2) → rCp S i1 i2 m g i = S m g i := by
  have key := lp_at (rCpF i1 i2) (fun k T => (∀ q, q < k → T 7 0 i2 q = S 7 0 i1 q) ∧ ∀ m g i, ¬ (m = 7 ∧ g = 0 ∧ i = i2) → T m g i = S m g i) 8006 (fun k T hk ⟨p1, p2⟩ => by
    unfold rCpF
    refine ⟨fun q hq => ?_, fun m g i hn => ?_⟩
    · by_cases hqk : q = k
      · subst hqk; simp (disch := omega) only [sF_eq, sF_ne]; rw [p2 7 0 i1 (by omega)]
      · simp (disch := omega) only [sF_eq, sF_ne]; exact p1 q (by omega)
    · funext q; simp (disch := omega) only [sF_eq, sF_ne]; rw [p2 m g i hn]) 8006 0 S (by omega) ⟨fun q hq => by omega, fun _ _ _ _ => rfl⟩
  rw [Nat.zero_add] at key
  exact key
theorem rKeep_at (S : St) : (∀ i k, 1 ≤ i → i ≤ 4 → k < 8006 → rKeep S 7 0 (i + 1) k = S 7 0 i k) ∧ (∀ m g i, ¬ (m = 7 ∧ g = 0 ∧ (i = 0 ∨ (2 ≤ i ∧ i ≤ 5))) → rKeep S m g i = S m g i) ∧ (∀ k, k ≠ 5 → rKeep S 7 0 0 k = S 7 0 0 k) ∧ rKeep S 7 0 0 5 = S 7 0 0 5 + (if 4 ≤ S 7 0 0 5 then 0 else 1) := by
  obtain ⟨a1, a2⟩ := rCp_at (S := S) (i1 := 4) (i2 := 5) (by decide)
  obtain ⟨b1, b2⟩ := rCp_at (S := rCp S 4 5) (i1 := 3) (i2 := 4) (by decide)
  obtain ⟨c1, c2⟩ := rCp_at (S := rCp (rCp S 4 5) 3 4) (i1 := 2) (i2 := 3) (by decide)
  obtain ⟨d1, d2⟩ := rCp_at (S := rCp (rCp (rCp S 4 5) 3 4) 2 3) (i1 := 1) (i2 := 2) (by decide)
  unfold rKeep
  try dsimp only
  generalize rCp S 4 5 = U1 at *
  generalize rCp U1 3 4 = U2 at *
  generalize rCp U2 2 3 = U3 at *
  generalize rCp U3 1 2 = U4 at *
  have e5 : U4 7 0 0 = S 7 0 0 := by rw [d2 7 0 0 (by omega), c2 7 0 0 (by omega), b2 7 0 0 (by omega), a2 7 0 0 (by omega)]
  refine ⟨fun i k h1 h4 hk => ?_, fun m g i hn => ?_, fun k hk => ?_, ?_⟩
  · have hi : i = 1 ∨ i = 2 ∨ i = 3 ∨ i = 4 := by omega
    rcases hi with rfl | rfl | rfl | rfl
    · simp (disch := omega) only [sF_eq, sF_ne]; rw [d1 k hk, c2 7 0 1 (by omega), b2 7 0 1 (by omega), a2 7 0 1 (by omega)]
    · simp (disch := omega) only [sF_eq, sF_ne]; rw [d2 7 0 3 (by omega), c1 k hk, b2 7 0 2 (by omega), a2 7 0 2 (by omega)]
    · simp (disch := omega) only [sF_eq, sF_ne]; rw [d2 7 0 4 (by omega), c2 7 0 4 (by omega), b1 k hk, a2 7 0 3 (by omega)]
    · simp (disch := omega) only [sF_eq, sF_ne]; rw [d2 7 0 5 (by omega), c2 7 0 5 (by omega), b2 7 0 5 (by omega), a1 k hk]
  · funext q; simp (disch := omega) only [sF_eq, sF_ne]; rw [d2 m g i (by omega), c2 m g i (by omega), b2 m g i (by omega), a2 m g i (by omega)]
  · simp (disch := omega) only [sF_eq, sF_ne]; rw [e5]
  · rw [sF_eq (by omega), e5]
theorem rCd_at (S : St) (v : Int32) : (∀ m g i, ¬ (m = 7 ∧ g = 0 ∧ i = 0) → rCd S v m g i = S m g i) ∧ (∀ k, k ≠ 9 → rCd S v 7 0 0 k = S 7 0 0 k) ∧ rCd S v 7 0 0 9 = v :=
  ⟨fun m g i hn => by funext q; simp (disch := omega) only [rCd, sF_eq, sF_ne], fun k hk => by simp (disch := omega) only [rCd, sF_eq, sF_ne], by simp (disch := omega) only [rCd, sF_eq, sF_ne]⟩
/-- nothing that counts has changed -/
theorem Inv_fr {S S' : St} {N N' : Nat} (h : Inv S N) (hM : ∀ m, m ≤ 5 → m ≠ 1 → S' m = S m) (h6 : ∀ k, S' 6 0 0 k = S 6 0 0 k) (h61 : ∀ k, S' 6 0 1 k = S 6 0 1 k) (h7 : ∀ i k, 1 ≤ i → i ≤ 6 → k < 8006 → S' 7 0 i k = S 7 0 i k) (h70 : ∀ k, k = 5 ∨ k = 7 ∨ k = 8 → S' 7 0 0 k = S 7 0 0 k) (hN : N ≤ N') : Inv S' N' := by
  obtain ⟨a1, a2, ⟨b1, b2, b3⟩, c1, c2, c3, c4⟩ := h
  have eT : pTL S' = pTL S := by show (S' 6 0 0 1).toNatClampNeg = _; rw [h6]
  have eN : pNs S' = pNs S := by show (S' 6 0 0 7).toNatClampNeg = _; rw [h6]
  have eO : pOs S' = pOs S := by show (S' 6 0 0 6).toNatClampNeg = _; rw [h6]
  have hn4 : pNs S ≤ 4 := c2.2
  have ht : pTL S ≤ 120 := b1.2
  refine ⟨relE_fr a1 (by omega) (hM 0 (by omega) (by omega)) (fun k hk => h7 1 k (by omega) (by omega) hk) hN, by rw [h70 8 (by omega)]; exact a2, ⟨by rw [h6]; exact b1, by rw [h70 7 (by omega), h6]; exact b2, fun k hk => ?_⟩, by rw [h6]; exact c1, by rw [h6]; exact c2, by rw [h70 5 (by omega), h6]; exact c3, fun i hi => ?_⟩
  · rw [eT] at hk
    rw [h61, h7 6 k (by omega) (by omega) (by omega)]; exact b3 k hk
  · rw [eN] at hi ⊢
    rw [eO]
    exact relE_fr (c4 i hi) (by omega) (hM _ (by omega) (by omega)) (fun k hk => h7 _ k (by omega) (by omega) hk) hN
theorem Inv_mono {S : St} {N N' : Nat} (h : Inv S N) (hN : N ≤ N') : Inv S N' := Inv_fr h (fun _ _ _ => rfl) (fun _ => rfl) (fun _ => rfl) (fun _ _ _ _ _ => rfl) (fun _ _ => rfl) hN
theorem Inv_rCd {S : St} {N : Nat} (v : Int32) (h : Inv S N) : Inv (rCd S v) N := by
  obtain ⟨c1, c2, -⟩ := rCd_at S v
  exact Inv_fr h (fun m hm _ => by funext g i; exact c1 m g i (by omega)) (fun k => by rw [c1 6 0 0 (by omega)]) (fun k => by rw [c1 6 0 1 (by omega)]) (fun i k h1 h6 _ => by rw [c1 7 0 i (by omega)]) (fun k hk => c2 k (by omega)) (Nat.le_refl _)
theorem save_at (S : St) (h6 : okI (S 6 0 0 6) 3) (h7 : okI (S 6 0 0 7) 4) : (∀ m, m ≠ 6 → m ≠ (pOs S + pNs S) % 4 + 2 → pSave S m = S m) ∧ pSave S ((pOs S + pNs S) % 4 + 2) = pCopyM S ((pOs S + pNs S) % 4 + 2) 0 ((pOs S + pNs S) % 4 + 2) ∧ (∀ g i k, ¬ (g = 0 ∧ i = 0 ∧ (k = 6 ∨ k = 7)) → pSave S 6 g i k = S 6 g i k) ∧ ((pNs S = 4 ∧ pSave S 6 0 0 6 = nI ((pOs S + 1) % 4) ∧ pSave S 6 0 0 7 = nI 4) ∨ (pNs S < 4 ∧ pSave S 6 0 0 6 = nI (pOs S) ∧ pSave S 6 0 0 7 = nI (pNs S + 1))) := by
  have f6 : ∀ g i k, pCopyM S ((pOs S + pNs S) % 4 + 2) 0 6 g i k = S 6 g i k := fun g i k => by rw [pCopyM_m (by omega)]
  have hn : pNs S ≤ 4 := h7.2
  have e6 : S 6 0 0 6 = nI (pOs S) := h6.1
  have e7 : S 6 0 0 7 = nI (pNs S) := h7.1
  unfold pSave
  by_cases h4 : 4 ≤ pNs S
  · rw [if_pos h4]
    refine ⟨fun m hm hs => ?_, ?_, fun g i k hk => ?_, Or.inl ⟨by omega, ?_, ?_⟩⟩
    · rw [setF_m hm, pCopyM_m hs]
    · rw [setF_m (by omega)]
    · rw [sF_ne (by omega), f6]
    · rw [sF_eq (by omega)]
    · rw [sF_ne (by omega), f6, e7, show pNs S = 4 by omega]
  · rw [if_neg h4]
    refine ⟨fun m hm hs => ?_, ?_, fun g i k hk => ?_, Or.inr ⟨by omega, ?_, ?_⟩⟩
    · rw [setF_m hm, pCopyM_m hs]
    · rw [setF_m (by omega)]
    · rw [sF_ne (by omega), f6]
    · rw [sF_ne (by omega), f6, e6]
    · rw [sF_eq (by omega)]
/-- both have saved -/
theorem sv_keep {S S' : St} {N N' : Nat} (h : Inv S N) (hM : ∀ m, 2 ≤ m → m ≤ 5 → S' m = pSave S m) (h6 : ∀ k, k = 6 ∨ k = 7 → S' 6 0 0 k = pSave S 6 0 0 k) (hR : ∀ i k, 2 ≤ i → i ≤ 5 → k < 8006 → S' 7 0 i k = S 7 0 (i - 1) k) (h5 : S' 7 0 0 5 = S 7 0 0 5 + (if 4 ≤ S 7 0 0 5 then 0 else 1)) (hN : N ≤ N') : svI S' N' := by
  obtain ⟨a1, a2, -, c1, c2, c3, c4⟩ := h
  obtain ⟨s1, s2, -, s4⟩ := save_at S c1 c2
  have hn : pNs S ≤ 4 := c2.2
  have ho : pOs S ≤ 3 := c1.2
  have e7 : S 6 0 0 7 = nI (pNs S) := c2.1
  have new : ∀ (r : Nat → Int32), (∀ k, k < 8006 → r k = S 7 0 1 k) → relE S' ((pOs S + pNs S) % 4 + 2) r N' := fun r hr => by
    obtain ⟨A, hA⟩ := a1
    obtain ⟨A', hA'⟩ := copy_rel (T' := mkT r) (m := (pOs S + pNs S) % 4 + 2) hA (by omega) (by omega) (by omega) (mkT_0 r 8) (fun k hk => by rw [mkT_1, mkT_1]; exact hr k hk)
    exact ⟨A', rel_mono (rel_fr hA' (by rw [hM _ (by omega) (by omega), s2])) hN⟩
  rcases s4 with ⟨q1, q2, q3⟩ | ⟨q1, q2, q3⟩
  · have eO : pOs S' = (pOs S + 1) % 4 := by show (S' 6 0 0 6).toNatClampNeg = _; rw [h6 6 (by omega), q2, nI_clamp (by omega)]
    have eN : pNs S' = 4 := by show (S' 6 0 0 7).toNatClampNeg = _; rw [h6 7 (by omega), q3, nI_clamp (by omega)]
    refine ⟨by rw [h6 6 (by omega), q2]; exact okI_nI (by omega) (by omega), by rw [h6 7 (by omega), q3]; exact okI_nI (by omega) (by omega), ?_, fun i hi => ?_⟩
    · rw [h5, h6 7 (by omega), q3, c3, e7, q1, if_pos (by decide)]; rfl
    · rw [eN] at hi ⊢
      rw [eO]
      by_cases hi3 : i = 3
      · subst hi3
        rw [show ((pOs S + 1) % 4 + 3) % 4 + 2 = (pOs S + pNs S) % 4 + 2 by omega]
        exact new _ (fun k hk => hR 2 k (by omega) (by omega) hk)
      · have old := c4 (i + 1) (by omega)
        rw [show ((pOs S + 1) % 4 + i) % 4 + 2 = (pOs S + (i + 1)) % 4 + 2 by omega]
        exact relE_fr old (by omega) (by rw [hM _ (by omega) (by omega), s1 _ (by omega) (by omega)]) (fun k hk => by rw [hR _ k (by omega) (by omega) hk, show 2 + (4 - 1 - i) - 1 = 2 + (pNs S - 1 - (i + 1)) by omega]) hN
  · have eO : pOs S' = pOs S := by show (S' 6 0 0 6).toNatClampNeg = _; rw [h6 6 (by omega), q2, nI_clamp (by omega)]
    have eN : pNs S' = pNs S + 1 := by show (S' 6 0 0 7).toNatClampNeg = _; rw [h6 7 (by omega), q3, nI_clamp (by omega)]
    refine ⟨by rw [h6 6 (by omega), q2]; exact okI_nI (by omega) (by omega), by rw [h6 7 (by omega), q3]; exact okI_nI (by omega) (by omega), ?_, fun i hi => ?_⟩
    · rw [h5, h6 7 (by omega), q3, c3, e7, if_neg (show ¬ (4 : Int32) ≤ nI (pNs S) from nI_ge (b := 4) (by omega) (by omega)), nI_1]
    · rw [eN] at hi ⊢
      rw [eO]
      by_cases hin : i = pNs S
      · subst hin
        rw [show 2 + (pNs S + 1 - 1 - pNs S) = 2 by omega]
        exact new _ (fun k hk => hR 2 k (by omega) (by omega) hk)
      · have old := c4 i (by omega)
        exact relE_fr old (by omega) (by rw [hM _ (by omega) (by omega), s1 _ (by omega) (by omega)]) (fun k hk => by rw [hR _ k (by omega) (by omega) hk, show 2 + (pNs S + 1 - 1 - i) - 1 = 2 + (pNs S - 1 - i) by omega]) hN

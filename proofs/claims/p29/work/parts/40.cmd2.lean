/-! begin -/
theorem lpq4 {σ : Type} (f : Nat → σ → σ) (S : σ) : lp f 4 0 S = f 3 (f 2 (f 1 (f 0 S))) := rfl
theorem zero_at (m2 g2 i2 n : Nat) (S : St) : (∀ q, q < n → lp (pZeroF m2 g2 i2) n 0 S m2 g2 i2 q = 0) ∧ ∀ m g i q, ¬ (m = m2 ∧ g = g2 ∧ i = i2 ∧ q < n) → lp (pZeroF m2 g2 i2) n 0 S m g i q = S m g i q := by
  have key := lp_at (pZeroF m2 g2 i2) (fun k T => (∀ q, q < k → T m2 g2 i2 q = 0) ∧ ∀ m g i q, ¬ (m = m2 ∧ g = g2 ∧ i = i2 ∧ q < n) → T m g i q = S m g i q) n (fun k T hk ⟨p1, p2⟩ => by
    unfold pZeroF
    refine ⟨fun q hq => ?_, fun m g i q hn => ?_⟩
    · by_cases hqk : q = k
      · subst hqk; simp (disch := omega) only [sF_eq, sF_ne]
      · simp (disch := omega) only [sF_eq, sF_ne]; exact p1 q (by omega)
    · simp (disch := omega) only [sF_eq, sF_ne]; exact p2 m g i q hn) n 0 S (by omega) ⟨fun q hq => by omega, fun _ _ _ _ _ => rfl⟩
  rw [Nat.zero_add] at key
  exact key
/-- a core that is cleared -/
def clC (S : St) (m g : Nat) : Prop := (∀ l, l < 8 → S m g 1 l = 0) ∧ S m g 3 2 = 0 ∧ S m g 0 3 = 0 ∧ S m g 0 4 = 0 ∧ S m g 0 5 = -1 ∧ S m g 0 6 = -1 ∧ S m g 0 9 = 0 ∧ S m g 0 10 = 0 ∧ S m g 0 11 = 0 ∧ S m g 0 13 = 0 ∧ S m g 0 14 = 0
theorem clear_at (S : St) (m g : Nat) : clC (pClear S m g) m g ∧ ∀ b i k, b ≠ g → pClear S m g m b i k = S m b i k := by
  have key := lp_at (pClearF m g) (fun k T => (∀ l, l < k → T m g 1 l = 0) ∧ ∀ b i q, b ≠ g → T m b i q = S m b i q) 8 (fun k T hk ⟨p1, p2⟩ => by
    unfold pClearF
    refine ⟨fun l hl => ?_, fun b i q hb => ?_⟩
    · by_cases hlk : l = k
      · subst hlk; simp (disch := omega) only [sF_eq, sF_ne]
      · simp (disch := omega) only [sF_eq, sF_ne]; exact p1 l (by omega)
    · simp (disch := omega) only [sF_eq, sF_ne]; exact p2 b i q hb) 8 0 S (by omega) ⟨fun l hl => by omega, fun _ _ _ _ => rfl⟩
  unfold pClear
  generalize lp (pClearF m g) 8 0 S = U at *
  obtain ⟨p1, p2⟩ := key
  unfold clC
  refine ⟨⟨fun l hl => ?_, ?_, ?_, ?_, ?_, ?_, ?_, ?_, ?_, ?_, ?_⟩, fun b i k hb => ?_⟩
  · simp (disch := omega) only [pEndT, sF_eq, sF_ne]; exact p1 l (by omega)
  all_goals simp (disch := omega) only [pEndT, sF_eq, sF_ne]
  exact p2 b i k hb
theorem start_at (S : St) (m : Nat) (a b d : Int32) : (∀ g, g < 4 → clC (pStart S m a b d) m g) ∧ pStart S m a b d m 4 0 4 = a ∧ pStart S m a b d m 4 0 5 = b ∧ pStart S m a b d m 4 0 6 = d ∧ pStart S m a b d m 4 0 7 = S m 4 0 7 ∧ pStart S m a b d m 4 0 8 = 0 ∧ pStart S m a b d m 4 4 7 = 0 ∧ (∀ j, j < 8 → pStart S m a b d m 4 2 j = 0) ∧ ∀ j, j < 8 → pStart S m a b d m 4 3 j = 0 := by
  have h1 := lp_at (fun k T => pClear T m k) (fun k T => (∀ g, g < k → clC T m g) ∧ ∀ i q, T m 4 i q = setF (setF (setF (setF (setF S m 4 0 4 a) m 4 0 5 b) m 4 0 6 d) m 4 0 8 0) m 4 4 7 0 m 4 i q) 4 (fun k T hk ⟨p1, p2⟩ => by
    obtain ⟨c1, c2⟩ := clear_at T m k
    refine ⟨fun g hg => ?_, fun i q => by rw [c2 4 i q (by omega)]; exact p2 i q⟩
    by_cases hgk : g = k
    · subst hgk; exact c1
    · have := p1 g (by omega)
      unfold clC at *
      simp only [c2 g _ _ hgk]
      exact this) 4 0 (setF (setF (setF (setF (setF S m 4 0 4 a) m 4 0 5 b) m 4 0 6 d) m 4 0 8 0) m 4 4 7 0) (by omega) ⟨fun g hg => by omega, fun _ _ => rfl⟩
  unfold pStart
  dsimp only
  generalize lp (fun k T => pClear T m k) 4 0 (setF (setF (setF (setF (setF S m 4 0 4 a) m 4 0 5 b) m 4 0 6 d) m 4 0 8 0) m 4 4 7 0) = U at *
  obtain ⟨p1, p2⟩ := h1
  obtain ⟨z1, z2⟩ := zero_at m 4 2 8 U
  obtain ⟨y1, y2⟩ := zero_at m 4 3 8 (lp (pZeroF m 4 2) 8 0 U)
  refine ⟨fun g hg => ?_, ?_, ?_, ?_, ?_, ?_, ?_, fun j hj => ?_, fun j hj => y1 j hj⟩
  · have := p1 g (by omega)
    unfold clC at *
    have e : ∀ i q, lp (pZeroF m 4 3) 8 0 (lp (pZeroF m 4 2) 8 0 U) m g i q = U m g i q := fun i q => by rw [y2 m g i q (by omega), z2 m g i q (by omega)]
    simp only [e]
    exact this
  all_goals first | (rw [y2 m 4 2 j (by omega)]; exact z1 j hj) | (rw [y2 _ _ _ _ (by omega), z2 _ _ _ _ (by omega), p2]; simp (disch := omega) only [sF_eq, sF_ne])
theorem clear_row (T : St) (a b d : Int32) : rClear T a b d 7 0 1 0 = a ∧ rClear T a b d 7 0 1 1 = b ∧ rClear T a b d 7 0 1 2 = d ∧ rClear T a b d 7 0 1 3 = T 7 0 1 3 ∧ (∀ c, c < 4 → rOf (rClear T a b d) c 4 = -1) ∧ (∀ k, 4 ≤ k → k < 8006 → (∀ c, c < 4 → k ≠ 22 + 96 * c + 4) → rClear T a b d 7 0 1 k = 0) ∧ ∀ m g i, ¬ (m = 7 ∧ g = 0 ∧ i = 1) → rClear T a b d m g i = T m g i := by
  obtain ⟨z1, z2⟩ := zero_at 7 0 1 8006 T
  unfold rClear
  dsimp only
  rw [lpq4]
  generalize lp (pZeroF 7 0 1) 8006 0 T = U at *
  refine ⟨by simp (disch := omega) only [rPut, rBump, rOf, sF_eq, sF_ne], by simp (disch := omega) only [rPut, rBump, rOf, sF_eq, sF_ne], by simp (disch := omega) only [rPut, rBump, rOf, sF_eq, sF_ne], by simp (disch := omega) only [rPut, rBump, rOf, sF_eq, sF_ne], fun c hc => ?_, fun k h4 hk hn => ?_, fun m g i hn => ?_⟩
  · have hc' : c = 0 ∨ c = 1 ∨ c = 2 ∨ c = 3 := by omega
    rcases hc' with rfl | rfl | rfl | rfl
    all_goals simp (disch := omega) only [rPut, rBump, rOf, sF_eq, sF_ne]
  · have n0 := hn 0 (by omega)
    have n1 := hn 1 (by omega)
    have n2 := hn 2 (by omega)
    have n3 := hn 3 (by omega)
    simp (disch := omega) only [rPut, rBump, rOf, sF_eq, sF_ne]
    exact z1 k hk
  · funext q
    simp (disch := omega) only [rPut, rBump, rOf, sF_eq, sF_ne]
    exact z2 m g i q (by omega)
theorem start_rel {S T : St} {m N : Nat} {A a b d : Int32} (h : rel S m T N A) (hm : m ≠ 1) (h8 : T 7 0 0 8 = 0) (ha : okI a 4) (hb : okI b 2) (hd : okI d 8) : rel (pStart S m a b d) m (rClear T a b d) N (0 - T 7 0 0 13) := by
  obtain ⟨s1, s4, s5, s6, s7, s8, s47, s2, s3⟩ := start_at S m a b d
  obtain ⟨r0, r1, r2, r3, r4, rz, rf⟩ := clear_row T a b d
  have e7 : S m 4 0 7 = T 7 0 1 3 := h.1.1 3 (by omega)
  have o7 := h.1.2.2.2.2.2.2.1
  have o0 : ∀ n, n < 2 ^ 31 → okI 0 n := fun n hn => okI_lit (k := 0) (by omega) hn 0 rfl
  have eW : ∀ g w, g < 4 → w < 96 → w ≠ 4 → rOf (rClear T a b d) g w = 0 := fun g w hg hw hw4 => rz _ (by omega) (by omega) (fun c hc => by omega)
  have e13 : rClear T a b d 7 0 0 13 = T 7 0 0 13 := by rw [rf 7 0 0 (by omega)]
  refine ⟨⟨fun k hk => ?_, fun j hj => ?_, fun j hj => ?_, by rw [s4]; exact ha, by rw [s5]; exact hb, by rw [s6]; exact hd, by rw [s7]; exact o7, by rw [s8]; exact ⟨by decide, by rw [show (0 : Int32).toNatClampNeg = 0 by decide]; omega⟩, ?_, by rw [s47]; exact o0 _ (by omega), ?_⟩, ?_, fun g hg => ?_, Or.inr ⟨hm, ?_, ?_, fun q hq => ?_⟩⟩
  · have hk' : k = 0 ∨ k = 1 ∨ k = 2 ∨ k = 3 ∨ k = 4 := by omega
    rcases hk' with rfl | rfl | rfl | rfl | rfl
    · exact s4.trans r0.symm
    · exact s5.trans r1.symm
    · exact s6.trans r2.symm
    · exact s7.trans (e7.trans r3.symm)
    · exact s8.trans (rz 4 (by omega) (by omega) (fun c hc => by omega)).symm
  · rw [s2 j hj, rz (5 + j) (by omega) (by omega) (fun c hc => by omega)]
  · rw [s3 j hj, rz (13 + j) (by omega) (by omega) (fun c hc => by omega)]
  · rw [rz 21 (by omega) (by omega) (fun c hc => by omega)]; exact o0 _ (by omega)
  · rw [s3 5 (by omega), s3 6 (by omega), e13, Int32.sub_add_cancel]; rfl
  · intro j hj g hg c hc hgc z
    have hcc : pCC (pStart S m a b d) m ≤ 4 := by show (pStart S m a b d m 4 0 4).toNatClampNeg ≤ 4; rw [s4]; exact ha.2
    rw [(s1 g (by omega)).1 j hj] at z
    exact absurd z (by decide)
  · obtain ⟨c1, c2, c3, c4, c5, c6, c9, c10, c11, c13, c14⟩ := s1 g hg
    refine ⟨?_, ?_, ?_, ?_, fun l hl => ?_, ?_, ?_⟩
    · unfold rA
      rw [c2, c3, c4, c13, c14, eW g 0 hg (by omega) (by omega), eW g 1 hg (by omega) (by omega), eW g 2 hg (by omega) (by omega), eW g 9 hg (by omega) (by omega), eW g 10 hg (by omega) (by omega)]
      exact ⟨rfl, rfl, rfl, rfl, rfl⟩
    · unfold rT1
      rw [c5, c6, eW g 3 hg (by omega) (by omega), r4 g hg, if_pos rfl, if_pos rfl]
      exact ⟨rfl, rfl⟩
    · unfold rT2
      rw [c9, c10, c11, eW g 7 hg (by omega) (by omega), eW g 8 hg (by omega) (by omega), eW g 11 hg (by omega) (by omega)]
      exact ⟨rfl, rfl, rfl, ok8_0, ok8_0, ok8_0⟩
    · unfold rT3
      rw [c5, c6, c9, c10, c11]
      exact ⟨fun _ => ⟨rfl, rfl, rfl⟩, Or.inl rfl, Or.inl rfl, fun z => absurd rfl z⟩
    · rw [c1 l hl, c10, c11, eW g (20 + l) hg (by omega) (by omega), eW g (28 + l) hg (by omega) (by omega)]
      exact ⟨rfl, o0 _ (by omega), by rw [if_pos rfl], fun z => absurd z (by rw [hasL_0 hl]; decide), fun z => absurd z (by rw [hasL_0 hl]; decide)⟩
    · unfold rP pPs pLn
      rw [c2, c3]
      exact ⟨o0 _ (by omega), o0 _ (by omega), Nat.le_refl _, fun k hk => absurd hk (by show ¬ k < (0 : Int32).toNatClampNeg; rw [show (0 : Int32).toNatClampNeg = 0 by decide]; omega)⟩
    · unfold rB
      rw [c10, rSize_0]; exact Nat.zero_le _
  · rw [rf 7 0 0 (by omega)]; exact h8
  · rw [s47, rz 21 (by omega) (by omega) (fun c hc => by omega)]
  · exfalso
    have : pQ (pStart S m a b d) m = 0 := by show (pStart S m a b d m 4 4 7).toNatClampNeg = 0; rw [s47]; decide
    omega
theorem begin_ok {S : St} {N : Nat} {x y z : Int32} (h : Inv S N) (hx : okI x 4) (hy : okI y 2) (hz : okI z 8) (h1 : rIn x 2 4 = true) (h2 : rIn y 0 2 = true) (h3 : rIn z 1 8 = true) : (rBegin (pBeginQ S x y z).2 x y z).1 = (pBeginQ S x y z).1 ∧ (rBegin (pBeginQ S x y z).2 x y z).2 7 0 0 9 = 0 ∧ Inv (rBegin (pBeginQ S x y z).2 x y z).2 N := by
  have hM : frM 0 (pSave S) (pBeginQ S x y z).2 := start_M
  obtain ⟨A, hA⟩ := cmd_rel h hM
  obtain ⟨-, u2, u3, u4, u5⟩ := keep_U (pBeginQ S x y z).2 0
  have e7 : (pBeginQ S x y z).2 7 = S 7 := (hM 7 (by omega)).trans (save_7 S)
  have h8 : rKeep (rCd (pBeginQ S x y z).2 0) 7 0 0 8 = 0 := by rw [u3 8 (by omega) (by omega), e7]; exact h.2.1
  have eA : (pBeginQ S x y z).1 = pSave S 0 4 4 7 := rfl
  have e1 : pSave S 0 4 4 7 = rKeep (rCd (pBeginQ S x y z).2 0) 7 0 1 21 := (hA.2.2.2.resolve_left (fun q => absurd q.1 (by decide))).2.2.1
  obtain ⟨r0, r1, r2, r3, r4, rz, rf⟩ := clear_row (rKeep (rCd (pBeginQ S x y z).2 0)) x y z
  unfold rBegin
  rw [if_pos h1, if_pos h2, if_pos h3, eA]
  dsimp only
  refine ⟨e1.symm, by rw [rf 7 0 0 (by omega)]; exact u5, Inv_cmd h hM (fun m g i hn => rf m g i (by omega)) (fun k hk => by rw [rf 7 0 0 (by omega)]) (start_rel hA (by omega) h8 hx hy hz) (Nat.le_refl _)⟩
/-! the text -/
theorem append_ok {S : St} {N : Nat} {x : Int32} (h : Inv S N) (hi : rIn x 0 127 = true) (ht : pTL S < 120) : (rAppend (pAppS S x) x).1 = pAppS S x 6 0 0 1 ∧ (rAppend (pAppS S x) x).2 7 0 0 9 = 0 ∧ Inv (rAppend (pAppS S x) x).2 N := by
  obtain ⟨a1, a2, ⟨b1, b2, b3⟩, hsv⟩ := h
  have e7 : pAppS S x 7 = S 7 := by unfold pAppS; rw [setF_m (by omega), setF_m (by omega)]
  have et : rTL (pAppS S x) = pTL S := by show (pAppS S x 7 0 0 7).toNatClampNeg = _; rw [e7, b2]
  have hn : ¬ rTL (pAppS S x) = 120 := by omega
  unfold rAppend
  rw [if_pos hi, if_neg hn]
  dsimp only
  have eW : rAppS (pAppS S x) x = setF (setF (setF (setF (setF S 6 0 1 (pTL S) x) 6 0 0 1 (nI (pTL S + 1))) 7 0 0 9 0) 7 0 6 (pTL S) x) 7 0 0 7 (nI (pTL S + 1)) := by
    unfold rAppS
    rw [et]; rfl
  rw [eW]
  refine ⟨by unfold pAppS; simp (disch := omega) only [sF_eq, sF_ne], by simp (disch := omega) only [sF_eq, sF_ne], ?_⟩
  have I0 : Inv S N := ⟨a1, a2, ⟨b1, b2, b3⟩, hsv⟩
  obtain ⟨c1, c2, c3, c4⟩ := hsv
  refine ⟨relE_fr a1 (by omega) (by funext g i k; simp (disch := omega) only [sF_eq, sF_ne]) (fun k hk => by simp (disch := omega) only [sF_eq, sF_ne]) (Nat.le_refl _), by simp (disch := omega) only [sF_eq, sF_ne]; exact a2, ⟨?_, ?_, fun k hk => ?_⟩, ?_, ?_, ?_, fun i hi => ?_⟩
  · simp (disch := omega) only [sF_eq, sF_ne]; exact okI_nI (by omega) (by omega)
  · simp (disch := omega) only [sF_eq, sF_ne]
  · have e : pTL (setF (setF (setF (setF (setF S 6 0 1 (pTL S) x) 6 0 0 1 (nI (pTL S + 1))) 7 0 0 9 0) 7 0 6 (pTL S) x) 7 0 0 7 (nI (pTL S + 1))) = pTL S + 1 := by
      show (setF (setF (setF (setF (setF S 6 0 1 (pTL S) x) 6 0 0 1 (nI (pTL S + 1))) 7 0 0 9 0) 7 0 6 (pTL S) x) 7 0 0 7 (nI (pTL S + 1)) 6 0 0 1).toNatClampNeg = _
      simp (disch := omega) only [sF_eq, sF_ne]
      exact nI_clamp (by omega)
    rw [e] at hk
    by_cases hkt : k = pTL S
    · subst hkt; simp (disch := omega) only [sF_eq, sF_ne]
    · simp (disch := omega) only [sF_eq, sF_ne]; exact b3 k (by omega)
  · simp (disch := omega) only [sF_eq, sF_ne]; exact c1
  · simp (disch := omega) only [sF_eq, sF_ne]; exact c2
  · simp (disch := omega) only [sF_eq, sF_ne]; exact c3
  · have e : pNs (setF (setF (setF (setF (setF S 6 0 1 (pTL S) x) 6 0 0 1 (nI (pTL S + 1))) 7 0 0 9 0) 7 0 6 (pTL S) x) 7 0 0 7 (nI (pTL S + 1))) = pNs S := by
      show (setF (setF (setF (setF (setF S 6 0 1 (pTL S) x) 6 0 0 1 (nI (pTL S + 1))) 7 0 0 9 0) 7 0 6 (pTL S) x) 7 0 0 7 (nI (pTL S + 1)) 6 0 0 7).toNatClampNeg = _
      simp (disch := omega) only [sF_eq, sF_ne]
    have eo : pOs (setF (setF (setF (setF (setF S 6 0 1 (pTL S) x) 6 0 0 1 (nI (pTL S + 1))) 7 0 0 9 0) 7 0 6 (pTL S) x) 7 0 0 7 (nI (pTL S + 1))) = pOs S := by
      show (setF (setF (setF (setF (setF S 6 0 1 (pTL S) x) 6 0 0 1 (nI (pTL S + 1))) 7 0 0 9 0) 7 0 6 (pTL S) x) 7 0 0 7 (nI (pTL S + 1)) 6 0 0 6).toNatClampNeg = _
      simp (disch := omega) only [sF_eq, sF_ne]
    rw [e] at hi ⊢
    rw [eo]
    have hn4 : pNs S ≤ 4 := c2.2
    exact relE_fr (c4 i hi) (by omega) (by funext g i k; simp (disch := omega) only [sF_eq, sF_ne]) (fun k hk => by simp (disch := omega) only [sF_eq, sF_ne]) (Nat.le_refl _)
theorem clearT_ok {S : St} {N : Nat} (h : Inv S N) : (rClearT (setF S 6 0 0 1 0)).1 = S 6 0 0 1 ∧ Inv (rClearT (setF S 6 0 0 1 0)).2 N := by
  obtain ⟨a1, a2, ⟨b1, b2, b3⟩, c1, c2, c3, c4⟩ := h
  unfold rClearT
  dsimp only
  have eW : setF (rCd (setF S 6 0 0 1 0) 0) 7 0 0 7 0 = setF (setF (setF S 6 0 0 1 0) 7 0 0 9 0) 7 0 0 7 0 := rfl
  rw [eW]
  refine ⟨by show setF (setF S 6 0 0 1 0) 7 0 0 9 0 7 0 0 7 = _; simp (disch := omega) only [sF_eq, sF_ne]; exact b2, relE_fr a1 (by omega) (by funext g i k; simp (disch := omega) only [sF_eq, sF_ne]) (fun k hk => by simp (disch := omega) only [sF_eq, sF_ne]) (Nat.le_refl _), by simp (disch := omega) only [sF_eq, sF_ne]; exact a2, ⟨?_, ?_, fun k hk => ?_⟩, ?_, ?_, ?_, fun i hi => ?_⟩
  · simp (disch := omega) only [sF_eq, sF_ne]; exact okI_lit (k := 0) (by omega) (by omega) 0 rfl
  · simp (disch := omega) only [sF_eq, sF_ne]
  · have e : pTL (setF (setF (setF S 6 0 0 1 0) 7 0 0 9 0) 7 0 0 7 0) = 0 := by
      show (setF (setF (setF S 6 0 0 1 0) 7 0 0 9 0) 7 0 0 7 0 6 0 0 1).toNatClampNeg = _
      simp (disch := omega) only [sF_eq, sF_ne]
      decide
    rw [e] at hk; omega
  · simp (disch := omega) only [sF_eq, sF_ne]; exact c1
  · simp (disch := omega) only [sF_eq, sF_ne]; exact c2
  · simp (disch := omega) only [sF_eq, sF_ne]; exact c3
  · have e : pNs (setF (setF (setF S 6 0 0 1 0) 7 0 0 9 0) 7 0 0 7 0) = pNs S := by
      show (setF (setF (setF S 6 0 0 1 0) 7 0 0 9 0) 7 0 0 7 0 6 0 0 7).toNatClampNeg = _
      simp (disch := omega) only [sF_eq, sF_ne]
    have eo : pOs (setF (setF (setF S 6 0 0 1 0) 7 0 0 9 0) 7 0 0 7 0) = pOs S := by
      show (setF (setF (setF S 6 0 0 1 0) 7 0 0 9 0) 7 0 0 7 0 6 0 0 6).toNatClampNeg = _
      simp (disch := omega) only [sF_eq, sF_ne]
    rw [e] at hi ⊢
    rw [eo]
    have hn4 : pNs S ≤ 4 := c2.2
    exact relE_fr (c4 i hi) (by omega) (by funext g i k; simp (disch := omega) only [sF_eq, sF_ne]) (fun k hk => by simp (disch := omega) only [sF_eq, sF_ne]) (Nat.le_refl _)

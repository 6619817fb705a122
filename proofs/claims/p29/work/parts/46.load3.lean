/-! load: what it leaves, and the relation behind it -/
def frD (S S' : St) : Prop := (∀ m g i, ¬ (m = 7 ∧ g = 0 ∧ (i = 0 ∨ i = 7)) → S' m g i = S m g i) ∧ ∀ k, k ≠ 10 → k ≠ 11 → S' 7 0 0 k = S 7 0 0 k
theorem frD.rf (S : St) : frD S S := ⟨fun _ _ _ _ => rfl, fun _ _ _ => rfl⟩
theorem frD.tr {S T U : St} (h1 : frD S T) (h2 : frD T U) : frD S U := ⟨fun m g i hn => (h2.1 m g i hn).trans (h1.1 m g i hn), fun k a b => (h2.2 k a b).trans (h1.2 k a b)⟩
theorem frD.d {S : St} {k : Nat} {v : Int32} : frD S (setF S 7 0 7 k v) := ⟨fun m g i hn => by funext q; simp (disch := omega) only [sF_eq, sF_ne], fun q _ _ => by simp (disch := omega) only [sF_eq, sF_ne]⟩
theorem frD.o {S : St} {k : Nat} {v : Int32} (hk : k = 10 ∨ k = 11) : frD S (setF S 7 0 0 k v) := ⟨fun m g i hn => by funext q; simp (disch := omega) only [sF_eq, sF_ne], fun q _ _ => by simp (disch := omega) only [sF_eq, sF_ne]⟩
theorem adv_D {S : St} : frD S (rAdv S) := frD.o (Or.inl rfl)
theorem take_D {S : St} {x : Int32} : frD S (rTake S x).2 := by
  unfold rTake
  split
  · exact adv_D
  · show frD S (rSty S); rw [rSty_id]; exact frD.rf S
theorem insA_D {S : St} : frD S (rInsA S) := (adv_D.tr frD.d).tr frD.d
theorem numL_D : ∀ (n d : Nat) (S : St) (v : Int32), frD S (rNumL n d S v).2.1
  | 0, _, S, _ => frD.rf S
  | n + 1, d, S, v => by
    rw [rNumL_s]
    split
    · exact adv_D.tr (numL_D n (d + 1) (rAdv S) _)
    · exact frD.rf S
theorem num_D {S : St} : frD S (rNum S).2 := by
  have h1 : frD S (rNumR S).2.1 := by unfold rNumR; exact take_D.tr (numL_D 3 0 _ 0)
  unfold rNum
  exact h1.tr frD.d
theorem line_D {S : St} : frD S (rLine S).2 := by
  unfold rLine
  split
  · exact frD.d.tr adv_D
  · show frD S (rSty _); rw [rSty_id]; exact frD.d
theorem ins_D {S : St} : frD S (rIns S).2 := by
  rw [rIns_s]
  have hB : frD S (rInsB S).2 := by
    unfold rInsB
    split
    · exact insA_D
    · split
      · exact insA_D
      · split
        · exact insA_D.tr num_D
        · exact insA_D.tr line_D
  split
  · exact frD.rf S
  · split
    · split
      · unfold endI
        split
        · unfold rInsC
          exact (hB.tr take_D).tr (frD.o (Or.inr rfl))
        · exact hB.tr take_D
      · exact hB
    · exact frD.rf S
theorem allL_D : ∀ (n : Nat) (S : St), frD S (rAllL n S).2
  | 0, S => frD.rf S
  | n + 1, S => by
    rw [rAllL_s]
    split
    · exact frD.rf S
    · unfold thn
      split
      · exact ins_D.tr (allL_D n _)
      · exact ins_D
theorem all_D {S : St} : frD S (rAll S).2 := ((frD.o (Or.inl rfl)).tr (frD.o (Or.inr rfl))).tr (allL_D 120 _)
theorem ldL_at (T : St) (a : Nat) : (∀ k, k < 2 * rIs T → rOf (rLdL T a) a (36 + k) = T 7 0 7 k) ∧ ∀ m g i k, ¬ (m = 7 ∧ g = 0 ∧ i = 1 ∧ 22 + 96 * a + 36 ≤ k ∧ k < 22 + 96 * a + 36 + 2 * rIs T) → rLdL T a m g i k = T m g i k := by
  have key := lp_at (rLdF a) (fun k U => (∀ q, q < k → rOf U a (36 + q) = T 7 0 7 q) ∧ ∀ m g i q, ¬ (m = 7 ∧ g = 0 ∧ i = 1 ∧ 22 + 96 * a + 36 ≤ q ∧ q < 22 + 96 * a + 36 + 2 * rIs T) → U m g i q = T m g i q) (2 * rIs T) (fun k U hk ⟨p1, p2⟩ => by
    unfold rLdF
    refine ⟨fun q hq => ?_, fun m g i q hn => ?_⟩
    · by_cases hqk : q = k
      · subst hqk; simp (disch := omega) only [rPut, rBump, rOf, sF_eq, sF_ne]; rw [p2 7 0 7 q (by omega)]
      · simp (disch := omega) only [rPut, rBump, rOf, sF_eq, sF_ne]; exact p1 q (by omega)
    · simp (disch := omega) only [rPut, rBump, rOf, sF_eq, sF_ne]; exact p2 m g i q hn) (2 * rIs T) 0 T (by omega) ⟨fun q hq => by omega, fun _ _ _ _ _ => rfl⟩
  rw [Nat.zero_add] at key
  exact key
theorem load_rel {S T : St} {N a i : Nat} {A : Int32} (h : rel S 0 T N A) (ha : a < 4) (hnt : S 0 a 0 5 = -1) (hi : i ≤ 30) (h3 : S 6 0 3 2 = nI i) (h11 : T 7 0 0 11 = nI i) (hp : prog S T i) : rel (pTake S 0 a 6 0) 0 (rLdT (rLdL T a) a) N A := by
  obtain ⟨hA, h1, h2, hT3, hV, hP, hb⟩ := h.2.2.1 a ha
  have eI : rIs T = i := by show (T 7 0 0 11).toNatClampNeg = i; rw [h11]; exact nI_clamp (by omega)
  obtain ⟨l1, l2⟩ := ldL_at T a
  rw [eI] at l1 l2
  have f6 : ∀ b q k, ¬ (b = a ∧ (q = 3 ∨ q = 4 ∨ q = 5)) → pCopyP S 0 a 6 0 0 b q k = S 0 b q k := fun b q k hn => by simp (disch := omega) only [pCopyP, cR_ne, sF_eq, sF_ne]
  have c32 : pCopyP S 0 a 6 0 0 a 3 2 = nI i := by simp (disch := omega) only [pCopyP, cR_ne, sF_eq, sF_ne]; exact h3
  have c4 : ∀ k, k < 30 → pCopyP S 0 a 6 0 0 a 4 k = S 6 0 4 k := fun k hk => by simp (disch := omega) only [pCopyP, cR_eq, cR_ne, sF_eq, sF_ne]
  have c5 : ∀ k, k < 30 → pCopyP S 0 a 6 0 0 a 5 k = S 6 0 5 k := fun k hk => by simp (disch := omega) only [pCopyP, cR_eq, cR_ne, sF_eq, sF_ne]
  unfold pTake
  generalize pCopyP S 0 a 6 0 = U at *
  generalize rLdL T a = V at *
  unfold rLdT
  have v11 : V 7 0 0 11 = nI i := by rw [l2 7 0 0 11 (by omega)]; exact h11
  rw [v11]
  refine rel_core h ha (fun b q k hb => by simp (disch := omega) only [sF_eq, sF_ne]; exact f6 b q k (by omega)) (fun k hk => by simp (disch := omega) only [rPut, rBump, rOf, sF_eq, sF_ne]; exact l2 _ _ _ _ (by omega)) (fun k => by simp (disch := omega) only [rPut, rBump, rOf, sF_eq, sF_ne]; exact l2 _ _ _ _ (by omega)) ?_ ⟨?_, ?_, ?_, ?_, ?_, ?_, ?_⟩
  · intro l hl c hcl d hdl hcd
    have hcc : pCC (setF (setF (setF U 0 a 0 3 0) 0 a 0 4 0) 0 a 0 6 (-1)) 0 = pCC S 0 := by show (setF (setF (setF U 0 a 0 3 0) 0 a 0 4 0) 0 a 0 6 (-1) 0 4 0 4).toNatClampNeg = _; simp (disch := omega) only [sF_eq, sF_ne]; rw [f6 4 0 4 (by omega)]
    rw [hcc] at hcl hdl
    simp (disch := omega) only [sF_eq, sF_ne]
    rw [f6 c 1 l (by omega), f6 d 1 l (by omega)]
    exact h.2.1 l hl c hcl d hdl hcd
  · unfold rA at *
    obtain ⟨q0, q1, q2, q3, q4⟩ := hA
    simp (disch := omega) only [rPut, rBump, rOf, sF_eq, sF_ne]
    rw [f6 a 0 13 (by omega), f6 a 0 14 (by omega), c32, l2 _ _ _ _ (by omega), l2 _ _ _ _ (by omega)]
    exact ⟨trivial, trivial, rfl, q3, q4⟩
  · unfold rT1 at *
    simp (disch := omega) only [rPut, rBump, rOf, sF_eq, sF_ne]
    rw [f6 a 0 5 (by omega), hnt, if_pos rfl, if_pos rfl, l2 _ _ _ _ (by omega)]
    rw [hnt, if_pos rfl] at h1
    exact ⟨h1.1, rfl⟩
  · unfold rT2 at *
    simp (disch := omega) only [rPut, rBump, rOf, sF_eq, sF_ne]
    rw [f6 a 0 9 (by omega), f6 a 0 10 (by omega), f6 a 0 11 (by omega), l2 _ _ _ _ (by omega), l2 _ _ _ _ (by omega), l2 _ _ _ _ (by omega)]
    exact h2
  · unfold rT3 at *
    simp (disch := omega) only [rPut, rBump, rOf, sF_eq, sF_ne]
    rw [f6 a 0 5 (by omega), f6 a 0 9 (by omega), f6 a 0 10 (by omega), f6 a 0 11 (by omega)]
    exact ⟨hT3.1, Or.inl trivial, hT3.2.2.1, fun z => absurd hnt z⟩
  · intro l hl
    obtain ⟨v1, v2, v3, v4, v5⟩ := hV l hl
    simp (disch := omega) only [rPut, rBump, rOf, sF_eq, sF_ne]
    rw [f6 a 1 l (by omega), f6 a 2 l (by omega), f6 a 6 l (by omega), f6 a 0 10 (by omega), f6 a 0 11 (by omega), l2 _ _ _ _ (by omega), l2 _ _ _ _ (by omega), l2 _ _ _ _ (by omega)]
    exact ⟨v1, v2, v3, v4, v5⟩
  · unfold rP pPs pLn
    simp (disch := omega) only [sF_eq, sF_ne]
    rw [c32, nI_clamp (by omega)]
    refine ⟨okI_nI hi (by omega), okI_lit (k := 0) (by omega) (by omega) 0 rfl, Nat.zero_le _, fun k hk => ?_⟩
    obtain ⟨p1, p2, p3, p4⟩ := hp k hk
    rw [c4 k (by omega), c5 k (by omega)]
    have e1 := l1 (2 * k) (by omega)
    have e2 := l1 (2 * k + 1) (by omega)
    refine ⟨e1.trans p1, p2, ?_, p4⟩
    rw [p3, ← e2]
    rfl
  · unfold rB at *
    simp (disch := omega) only [sF_eq, sF_ne]
    rw [f6 a 0 10 (by omega), f6 4 0 6 (by omega)]; exact hb
theorem load_ok {S : St} {N a : Nat} (h : Inv S N) (ha : a < 4) (hnt : pInT S 0 a = false) : (rLoadQ (pLoadQ S a).2 a).1 = (pLoadQ S a).1 ∧ (rLoadQ (pLoadQ S a).2 a).2 7 0 0 9 = 0 ∧ Inv (rLoadQ (pLoadQ S a).2 a).2 N := by
  have hx := h.2.2.1
  have fo : ∀ m g i k, rdOut m g i → (pRdT S (pTL S)).2 m g i k = S m g i k := fun m g i k hr => pRdT_o hr
  have f7 : (pRdT S (pTL S)).2 7 = S 7 := by funext g i k; exact fo 7 g i k (by unfold rdOut; omega)
  have f0 : (pRdT S (pTL S)).2 0 = S 0 := by funext g i k; exact fo 0 g i k (by unfold rdOut; omega)
  have I0 : Inv (pRdT S (pTL S)).2 N := Inv_fr h (fun m hm h1 => by funext g i k; exact fo m g i k (by unfold rdOut; omega)) (fun k => fo 6 0 0 k (by unfold rdOut; omega)) (fun k => fo 6 0 1 k (by unfold rdOut; omega)) (fun i k h1 h6 hk => by rw [f7]) (fun k hk => by rw [f7]) (Nat.le_refl _)
  have hi5 : S 0 a 0 5 = -1 := by
    by_cases z : S 0 a 0 5 = -1
    · exact z
    · exact absurd (inT_iff.mpr z) (nt hnt)
  have e3 : ∀ (W : St), W 7 = S 7 → ¬ rOf W a 3 = 1 := fun W hW z => by
    obtain ⟨A, hA⟩ := Inv_rel0 h
    obtain ⟨-, h1, -⟩ := hA.2.2.1 a ha
    have : rOf S a 3 = 1 := by rw [← z]; show S 7 0 1 _ = W 7 0 1 _; rw [hW]
    exact (act_iff h1).1.mp this hi5
  have key : ∀ (W : St), W 7 = S 7 → _ := fun W hW => read_ok (S := S) (V := rCd W 0) hx.1 (by rw [(rCd_at W 0).2.1 7 (by omega), hW]; exact hx.2.1) (fun k hk => by rw [(rCd_at W 0).1 7 0 6 (by omega), hW]; exact hx.2.2 k hk)
  by_cases h1 : (pRdT S (pTL S)).1 = -1
  · have eQ : pLoadQ S a = (pLdS (pRdT S (pTL S)).2 a 0 a 3 2, pLdS (pRdT S (pTL S)).2 a) := by unfold pLoadQ; rw [if_pos h1]
    rw [eQ]
    dsimp only
    generalize hR : (pRdT S (pTL S)).2 = R at *
    have hM : frM 0 (pSave R) (pLdS R a) := take_M
    have w7 : pLdS R a 7 = S 7 := by rw [hM 7 (by omega), save_7, f7]
    rcases key (pLdS R a) w7 with ⟨-, k2, i, k3, k4, k5, k6⟩ | ⟨k1, -⟩
    · have eL : rLdR (pLdS R a) = rAll (rCd (pLdS R a) 0) := rfl
      have eQ2 : rLoadQ (pLdS R a) a = (rLdE (pLdS R a) a 7 0 0 11, rLdE (pLdS R a) a) := by
        unfold rLoadQ; rw [if_neg (e3 _ w7), eL, if_pos k2]
      rw [eQ2]
      dsimp only
      obtain ⟨A, hA⟩ := cmd_rel I0 hM
      obtain ⟨d1, d2⟩ := all_D (S := rCd (pLdS R a) 0)
      have eE : rLdE (pLdS R a) a = rLdT (rLdL (rKeep (rAll (rCd (pLdS R a) 0)).2) a) a := rfl
      rw [eE]
      generalize hD : (rAll (rCd (pLdS R a) 0)).2 = D at *
      obtain ⟨b1, b2, b3, b4⟩ := rKeep_at D
      obtain ⟨u1, u2, u3, u4, u5⟩ := keep_U (pLdS R a) 0
      obtain ⟨c1, c2, c3⟩ := rCd_at (pLdS R a) 0
      have kf : ∀ k, k ≠ 10 → k ≠ 11 → rKeep D 7 0 0 k = rKeep (rCd (pLdS R a) 0) 7 0 0 k := fun k h10 h11 => by
        by_cases h5 : k = 5
        · subst h5; rw [b4, u4, d2 5 (by omega) (by omega), c2 5 (by omega)]
        · by_cases h9 : k = 9
          · subst h9; rw [b3 9 (by omega), u5, d2 9 (by omega) (by omega), c3]
          · rw [b3 k h5, u3 k h5 h9, d2 k h10 h11, c2 k h9]
      have kM : ∀ m g i, ¬ (m = 7 ∧ g = 0 ∧ (i ≤ 5 ∨ i = 7)) → rKeep D m g i = rKeep (rCd (pLdS R a) 0) m g i := fun m g i hn => by
        rw [b2 m g i (by omega), u2 m g i (by omega), d1 m g i (by omega), c1 m g i (by omega)]
      have kr : ∀ k, rKeep D 7 0 1 k = rKeep (rCd (pLdS R a) 0) 7 0 1 k := fun k => by
        rw [b2 7 0 1 (by omega), u2 7 0 1 (by omega), d1 7 0 1 (by omega), c1 7 0 1 (by omega)]
      have kR : ∀ i k, 2 ≤ i → i ≤ 5 → k < 8006 → rKeep D 7 0 i k = rKeep (rCd (pLdS R a) 0) 7 0 i k := fun i k h2 h5 hk => by
        have q1 := b1 (i - 1) k (by omega) (by omega) hk
        have q2 := u1 (i - 1) k (by omega) (by omega) hk
        rw [show i - 1 + 1 = i by omega] at q1 q2
        rw [q1, q2, d1 7 0 (i - 1) (by omega), c1 7 0 (i - 1) (by omega)]
      have h8 : rKeep D 7 0 0 8 = 0 := by rw [kf 8 (by omega) (by omega), u3 8 (by omega) (by omega), w7]; exact h.2.1
      obtain ⟨A', hA'⟩ := rel_row hA (by omega) h8 (fun k _ => kr k)
      have s6 : ∀ i k, ¬ i = 0 → pSave R 6 0 i k = R 6 0 i k := fun i k hi => (save_at R I0.2.2.2.1 I0.2.2.2.2.1).2.2.1 0 i k (by omega)
      have e11 : rKeep D 7 0 0 11 = nI i := by rw [b3 11 (by omega)]; exact k5
      have hp : prog (pSave R) (rKeep D) i := fun q hq => by
        obtain ⟨q1, q2, q3, q4⟩ := k6 q hq
        rw [s6 4 q (by omega), s6 5 q (by omega), b2 7 0 7 (by omega)]
        exact ⟨q1, q2, q3, q4⟩
      have fin := load_rel hA' ha (by rw [pSave_0, f0]; exact hi5) k3 (by rw [s6 3 2 (by omega)]; exact k4) e11 hp
      obtain ⟨l1, l2⟩ := ldL_at (rKeep D) a
      have gf : ∀ m g i k, ¬ (m = 7 ∧ g = 0 ∧ i = 1) → rLdT (rLdL (rKeep D) a) a m g i k = rKeep D m g i k := fun m g i k hn => by
        unfold rLdT
        simp (disch := omega) only [rPut, rBump, rOf, sF_eq, sF_ne]
        exact l2 m g i k (by omega)
      have c32 : pLdS R a 0 a 3 2 = nI i := by
        show pTake (pSave R) 0 a 6 0 0 a 3 2 = nI i
        simp (disch := omega) only [pTake, pCopyP, cR_ne, sF_eq, sF_ne]
        rw [s6 3 2 (by omega)]; exact k4
      refine ⟨by rw [gf 7 0 0 11 (by omega), e11, c32], by rw [gf 7 0 0 9 (by omega), kf 9 (by omega) (by omega), u5], ?_⟩
      have I1 : Inv (rLdT (rLdL (rKeep D) a) a) N := by
        have hI := I0
        refine ⟨?_, ?_, ⟨?_, ?_, fun k hk => ?_⟩, ?_⟩
        · exact relE_fr (relE_of fin (by omega) (fun _ _ => rfl)) (by omega) (by funext g i k; rw [gf 0 g i k (by omega), kM 0 g i (by omega), u2 0 g i (by omega)]; rfl) (fun _ _ => rfl) (Nat.le_refl _)
        · rw [gf 7 0 0 8 (by omega)]; exact h8
        · rw [gf 6 0 0 1 (by omega), kM 6 0 0 (by omega), u2 6 0 0 (by omega), hM 6 (by omega), (save_at R I0.2.2.2.1 I0.2.2.2.2.1).2.2.1 0 0 1 (by omega)]; exact I0.2.2.1.1
        · rw [gf 7 0 0 7 (by omega), kf 7 (by omega) (by omega), u3 7 (by omega) (by omega), hM 7 (by omega), save_7, gf 6 0 0 1 (by omega), kM 6 0 0 (by omega), u2 6 0 0 (by omega), hM 6 (by omega), (save_at R I0.2.2.2.1 I0.2.2.2.2.1).2.2.1 0 0 1 (by omega)]; exact I0.2.2.1.2.1
        · have eT : pTL (rLdT (rLdL (rKeep D) a) a) = pTL R := by
            show (rLdT (rLdL (rKeep D) a) a 6 0 0 1).toNatClampNeg = _
            rw [gf 6 0 0 1 (by omega), kM 6 0 0 (by omega), u2 6 0 0 (by omega), hM 6 (by omega), (save_at R I0.2.2.2.1 I0.2.2.2.2.1).2.2.1 0 0 1 (by omega)]
          rw [eT] at hk
          rw [gf 6 0 1 k (by omega), kM 6 0 1 (by omega), u2 6 0 1 (by omega), hM 6 (by omega), s6 1 k (by omega), gf 7 0 6 k (by omega), kM 7 0 6 (by omega), u2 7 0 6 (by omega), hM 7 (by omega), save_7]
          exact I0.2.2.1.2.2 k hk
        · refine sv_keep hI (fun m h2 h5 => ?_) (fun k hk => ?_) (fun i k h2 h5 hk => ?_) ?_ (Nat.le_refl _)
          · funext g i k; rw [gf m g i k (by omega), kM m g i (by omega), u2 m g i (by omega), hM m (by omega)]
          · rw [gf 6 0 0 k (by omega), kM 6 0 0 (by omega), u2 6 0 0 (by omega), hM 6 (by omega)]
          · rw [gf 7 0 i k (by omega), kR i k h2 h5 hk]
            have := u1 (i - 1) k (by omega) (by omega) hk
            rw [show i - 1 + 1 = i by omega] at this
            rw [this, hM 7 (by omega), save_7]
          · rw [gf 7 0 0 5 (by omega), kf 5 (by omega) (by omega), u4, hM 7 (by omega), save_7]
      exact I1
    · exact absurd h1 k1
  · have eQ : pLoadQ S a = (-10 - (pRdT S (pTL S)).1, (pRdT S (pTL S)).2) := by unfold pLoadQ; rw [if_neg h1]
    rw [eQ]
    dsimp only
    rcases key (pRdT S (pTL S)).2 f7 with ⟨k1, -⟩ | ⟨-, k2, k3⟩
    · exact absurd k1 h1
    · have eL : rLdR (pRdT S (pTL S)).2 = rAll (rCd (pRdT S (pTL S)).2 0) := rfl
      have eQ2 : rLoadQ (pRdT S (pTL S)).2 a = (-10 - (rAll (rCd (pRdT S (pTL S)).2 0)).2 7 0 0 10, (rAll (rCd (pRdT S (pTL S)).2 0)).2) := by
        unfold rLoadQ; rw [if_neg (e3 _ f7), eL, if_neg (nt k2)]
      rw [eQ2]
      dsimp only
      obtain ⟨d1, d2⟩ := all_D (S := rCd (pRdT S (pTL S)).2 0)
      obtain ⟨c1, c2, c3⟩ := rCd_at (pRdT S (pTL S)).2 0
      refine ⟨by rw [k3], by rw [d2 9 (by omega) (by omega)]; exact c3, Inv_fr I0 (fun m hm h1 => ?_) (fun k => ?_) (fun k => ?_) (fun i k h1 h6 hk => ?_) (fun k hk => ?_) (Nat.le_refl _)⟩
      · funext g i; rw [d1 m g i (by omega), c1 m g i (by omega)]
      · rw [d1 6 0 0 (by omega), c1 6 0 0 (by omega)]
      · rw [d1 6 0 1 (by omega), c1 6 0 1 (by omega)]
      · rw [d1 7 0 i (by omega), c1 7 0 i (by omega)]
      · rw [d2 k (by omega) (by omega), c2 k (by omega)]

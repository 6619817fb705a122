/-! what-if runs -/
theorem trF_at (T : St) : (∀ k, k < 406 → lp rTrF 406 0 T 7 0 9 k = T 7 0 1 k) ∧ ∀ m g i, ¬ (m = 7 ∧ g = 0 ∧ i = 9) → lp rTrF 406 0 T m g i = T m g i := by
  have key := lp_at rTrF (fun k U => (∀ q, q < k → U 7 0 9 q = T 7 0 1 q) ∧ ∀ m g i, ¬ (m = 7 ∧ g = 0 ∧ i = 9) → U m g i = T m g i) 406 (fun k U hk ⟨p1, p2⟩ => by
    unfold rTrF
    refine ⟨fun q hq => ?_, fun m g i hn => ?_⟩
    · by_cases hqk : q = k
      · subst hqk; simp (disch := omega) only [sF_eq, sF_ne]; rw [p2 7 0 1 (by omega)]
      · simp (disch := omega) only [sF_eq, sF_ne]; exact p1 q (by omega)
    · funext q; simp (disch := omega) only [sF_eq, sF_ne]; rw [p2 m g i hn]) 406 0 T (by omega) ⟨fun q hq => by omega, fun _ _ _ _ => rfl⟩
  rw [Nat.zero_add] at key
  exact key
theorem enF_at (T : St) : (∀ k, k < 406 → lp rEnF 406 0 T 7 0 1 k = T 7 0 9 k) ∧ (∀ k, 406 ≤ k → lp rEnF 406 0 T 7 0 1 k = T 7 0 1 k) ∧ ∀ m g i, ¬ (m = 7 ∧ g = 0 ∧ i = 1) → lp rEnF 406 0 T m g i = T m g i := by
  have key := lp_at rEnF (fun k U => (∀ q, q < k → U 7 0 1 q = T 7 0 9 q) ∧ (∀ q, 406 ≤ q → U 7 0 1 q = T 7 0 1 q) ∧ ∀ m g i, ¬ (m = 7 ∧ g = 0 ∧ i = 1) → U m g i = T m g i) 406 (fun k U hk ⟨p1, p3, p2⟩ => by
    unfold rEnF
    refine ⟨fun q hq => ?_, fun q hq => ?_, fun m g i hn => ?_⟩
    · by_cases hqk : q = k
      · subst hqk; simp (disch := omega) only [sF_eq, sF_ne]; rw [p2 7 0 9 (by omega)]
      · simp (disch := omega) only [sF_eq, sF_ne]; exact p1 q (by omega)
    · simp (disch := omega) only [sF_eq, sF_ne]; exact p3 q hq
    · funext q; simp (disch := omega) only [sF_eq, sF_ne]; rw [p2 m g i hn]) 406 0 T (by omega) ⟨fun q hq => by omega, fun _ _ => rfl, fun _ _ _ _ => rfl⟩
  rw [Nat.zero_add] at key
  exact key
theorem begT_at (T : St) (x : Int32) : (∀ k, k < 406 → rBegT T x 7 0 9 k = T 7 0 1 k) ∧ (∀ k, k ≠ 1 → rBegT T x 7 0 1 k = T 7 0 1 k) ∧ (∀ k, k ≠ 8 → rBegT T x 7 0 0 k = T 7 0 0 k) ∧ rBegT T x 7 0 0 8 = 1 ∧ ∀ m g i, ¬ (m = 7 ∧ g = 0 ∧ (i ≤ 1 ∨ i = 9)) → rBegT T x m g i = T m g i := by
  obtain ⟨t1, t2⟩ := trF_at T
  unfold rBegT
  generalize lp rTrF 406 0 T = U at *
  refine ⟨fun k hk => ?_, fun k hk => ?_, fun k hk => ?_, ?_, fun m g i hn => ?_⟩
  · simp (disch := omega) only [sF_eq, sF_ne]; exact t1 k hk
  · simp (disch := omega) only [sF_eq, sF_ne]; rw [t2 7 0 1 (by omega)]
  · simp (disch := omega) only [sF_eq, sF_ne]; rw [t2 7 0 0 (by omega)]
  · simp (disch := omega) only [sF_eq, sF_ne]
  · funext q; simp (disch := omega) only [sF_eq, sF_ne]; rw [t2 m g i (by omega)]
theorem trial_rel {S T : St} {N : Nat} {A x : Int32} (h : rel S 0 T N A) (hx : okI x 2) : ∃ A', rel (pTrial S x) 1 (rBegT T x) N A' := by
  obtain ⟨c1, c2, c3, c4, -, -⟩ := copyM_at (S := S) (m := 1) (m2 := 0) (by decide)
  obtain ⟨t1, t2⟩ := trF_at T
  have hk : pKept S 1 0 = 0 := by
    unfold pKept rmI
    rw [if_pos rfl]
    split <;> omega
  obtain ⟨A', hA'⟩ := rel_cong (T' := setF (lp rTrF 406 0 T) 7 0 0 8 1) h c1 c2 c3 (by rw [c4, hk]; exact okI_nI (by omega) (by omega)) (fun k hk => by rw [sF_ne (by omega), t2 7 0 1 (by omega)]) (Or.inl ⟨rfl, by rw [sF_eq (by omega)]⟩)
  exact ⟨A', rel_pol hA' hx⟩
/-- the reference after a trial -/
def trB (T T2 : St) : Prop := (∀ k, T2 7 0 1 k = T 7 0 1 k) ∧ (∀ k, k ≠ 13 → k ≠ 8 → T2 7 0 0 k = T 7 0 0 k) ∧ T2 7 0 0 8 = 0 ∧ ∀ m g i, ¬ (m = 7 ∧ g = 0 ∧ (i ≤ 1 ∨ i = 9)) → T2 m g i = T m g i
theorem endT_at {T V : St} {x : Int32} (h : frG (rBegT T x) V) : trB T (rEndT V) := by
  obtain ⟨b1, b2, b3, b4, b5⟩ := begT_at T x
  obtain ⟨g1, g2, g3⟩ := h
  obtain ⟨e1, e2, e3⟩ := enF_at (setF V 7 0 0 8 0)
  unfold rEndT
  generalize lp rEnF 406 0 (setF V 7 0 0 8 0) = U at *
  refine ⟨fun k => ?_, fun k h13 h8 => ?_, ?_, fun m g i hn => ?_⟩
  · by_cases hk : k < 406
    · rw [e1 k hk, sF_ne (by omega), g1 7 0 9 (by omega)]; exact b1 k hk
    · rw [e2 k (by omega), sF_ne (by omega), g3 b4 k (by omega)]; exact b2 k (by omega)
  · rw [e3 7 0 0 (by omega), sF_ne (by omega), g2 k h13]; exact b3 k h8
  · rw [e3 7 0 0 (by omega), sF_eq (by omega)]
  · funext q
    rw [e3 m g i (by omega), sF_ne (by omega), g1 m g i (by omega), b5 m g i hn]
theorem trB.rf {T : St} (h8 : T 7 0 0 8 = 0) : trB T T := ⟨fun _ => rfl, fun _ _ _ => rfl, h8, fun _ _ _ _ => rfl⟩
theorem trB.tr {T U V : St} (h1 : trB T U) (h2 : trB U V) : trB T V :=
  ⟨fun k => (h2.1 k).trans (h1.1 k), fun k a b => (h2.2.1 k a b).trans (h1.2.1 k a b), h2.2.2.1, fun m g i hn => (h2.2.2.2 m g i hn).trans (h1.2.2.2 m g i hn)⟩
theorem trB_rel {S T T2 : St} {N : Nat} {A : Int32} (h : rel S 0 T N A) (hB : trB T T2) : ∃ A', rel S 0 T2 N A' := rel_row h (by omega) hB.2.2.1 (fun k _ => hB.1 k)
theorem fin_key {S T : St} {N : Nat} {A x : Int32} (h : rel S 0 T N A) (hx : okI x 2) (hN : N + 2000 < 2 ^ 30) : okT S x ∧ okF T x ∧ rFoN T x = (pFoL S x).1 ∧ trB T (rFoS T x) ∧ frM 1 S (pFoL S x).2 := by
  obtain ⟨A', hA'⟩ := trial_rel h hx
  obtain ⟨u1, u2, u3, u4, u5⟩ := unt_rel hA' hN
  have e3 : rFoN T x = (pFoL S x).1 := by unfold rFoN rFoL pFoL; exact u5.symm
  have e4 : okI ((rFoL T x).2.1 7 0 1 0) 4 := by unfold rFoL; exact u4
  have e5 : trB T (rFoS T x) := by unfold rFoS rFoL; exact endT_at u3
  have e6 : frM 1 S (pFoL S x).2 := by unfold pFoL; exact trial_M.tr unt_M
  exact ⟨⟨h.1.2.2.2.2.2.2.2.2.2.1, u1⟩, ⟨u2, e4⟩, e3, e5, e6⟩
theorem abw_key {S T : St} {N b : Nat} {A x : Int32} (h : rel S 0 T N A) (hx : okI x 2) (hN : N + b < 2 ^ 30) : okDs (pTrial S x) 1 b ∧ okRs (rBegT T x) b ∧ rAbW T x b = pAbW S x b ∧ trB T (rEndT (rRuns (rBegT T x) b)) ∧ frM 1 S (pOft (pTrial S x) 1 b) := by
  obtain ⟨A', hA'⟩ := trial_rel h hx
  obtain ⟨u1, u2, u3, A2, u4⟩ := runs_rel (b := b) hA' hN
  have e : ∀ {U V : St} {N : Nat} {A : Int32}, rel U 1 V N A → pAborts U 1 = V 7 0 1 18 + V 7 0 1 19 := fun q => by
    unfold pAborts
    rw [q.1.2.2.1 5 (by omega), q.1.2.2.1 6 (by omega)]
  exact ⟨u1, u2, by unfold rAbW pAbW; rw [e hA', e u4], endT_at u3, trial_M.tr oft_M⟩
theorem best_key {S T : St} {N : Nat} {A : Int32} (h : rel S 0 T N A) (h8 : T 7 0 0 8 = 0) (hN : N + 2000 < 2 ^ 30) : (∀ i, i < 3 → okT (lp pBesF i 0 (S, -1, 0)).1 (nI i)) ∧ (∀ i, i < 3 → okF (lp rBesF i 0 (T, -1, 0)).1 (nI i)) ∧ (lp pBesF 3 0 (S, -1, 0)).2 = (lp rBesF 3 0 (T, -1, 0)).2 ∧ trB T (lp rBesF 3 0 (T, -1, 0)).1 ∧ frM 1 S (lp pBesF 3 0 (S, -1, 0)).1 := by
  have key := lp_rel pBesF rBesF (fun _ U V => U.2 = V.2 ∧ (∃ A', rel U.1 0 V.1 N A') ∧ trB T V.1 ∧ frM 1 S U.1) 3 (fun k U V hk ⟨p1, ⟨A', p2⟩, p3, p4⟩ => by
    obtain ⟨q1, q2, q3, q4, q5⟩ := fin_key p2 (x := nI k) (okI_nI (by omega) (by omega)) hN
    obtain ⟨A2, q6⟩ := trB_rel p2 q4
    have q7 : ∃ A', rel (pFoL U.1 (nI k)).2 0 (rFoS V.1 (nI k)) N A' := ⟨A2, rel_fr q6 (q5 0 (by omega))⟩
    unfold pBesF rBesF
    rw [q3, ← p1]
    split
    · dsimp only; exact ⟨rfl, q7, p3.tr q4, p4.tr q5⟩
    · split
      · dsimp only; exact ⟨rfl, q7, p3.tr q4, p4.tr q5⟩
      · split
        · dsimp only; exact ⟨rfl, q7, p3.tr q4, p4.tr q5⟩
        · dsimp only; exact ⟨rfl, q7, p3.tr q4, p4.tr q5⟩)
  have k0 : ∀ n, n ≤ 3 → _ := fun n hn => key n 0 (S, -1, 0) (T, -1, 0) (by omega) ⟨rfl, ⟨A, h⟩, trB.rf h8, frM.rf 1 S⟩
  refine ⟨fun i hi => ?_, fun i hi => ?_, ?_⟩
  · obtain ⟨-, ⟨A', p2⟩, -⟩ := k0 i (by omega)
    exact (fin_key p2 (okI_nI (by omega) (by omega)) hN).1
  · obtain ⟨-, ⟨A', p2⟩, -⟩ := k0 i (by omega)
    exact (fin_key p2 (okI_nI (by omega) (by omega)) hN).2.1
  · obtain ⟨p1, -, p3, p4⟩ := k0 3 (by omega)
    exact ⟨p1, p3, p4⟩
theorem Inv_tr {S S1 S2 : St} {N : Nat} (h : Inv S N) (hM : frM 1 S S1) (hB : trB (rCd S1 0) S2) : Inv S2 N := by
  obtain ⟨c1, c2, -⟩ := rCd_at S1 0
  obtain ⟨b1, b2, b3, b4⟩ := hB
  refine Inv_fr h (fun m hm h1 => ?_) (fun k => ?_) (fun k => ?_) (fun i k h1 h6 hk => ?_) (fun k hk => ?_) (Nat.le_refl _)
  · funext g i
    rw [b4 m g i (by omega), c1 m g i (by omega), hM m h1]
  · rw [b4 6 0 0 (by omega), c1 6 0 0 (by omega), hM 6 (by omega)]
  · rw [b4 6 0 1 (by omega), c1 6 0 1 (by omega), hM 6 (by omega)]
  · by_cases hi : i = 1
    · subst hi; rw [b1 k, c1 7 0 1 (by omega), hM 7 (by omega)]
    · rw [b4 7 0 i (by omega), c1 7 0 i (by omega), hM 7 (by omega)]
  · by_cases hk8 : k = 8
    · subst hk8; rw [b3]; exact h.2.1.symm
    · rw [b2 k (by omega) hk8, c2 k (by omega), hM 7 (by omega)]
/-- the relation where nothing was saved -/
theorem Inv_rel {S S1 : St} {N : Nat} (h : Inv S N) (hM : frM 1 S S1) (v : Int32) : ∃ A, rel S 0 (rCd S1 v) N A := by
  obtain ⟨c1, c2, -⟩ := rCd_at S1 v
  exact relE_to h.1 (by omega) (by rw [c2 8 (by omega), hM 7 (by omega)]; exact h.2.1) (fun k _ => by rw [c1 7 0 1 (by omega), hM 7 (by omega)])
theorem Inv_rel0 {S : St} {N : Nat} (h : Inv S N) : ∃ A, rel S 0 S N A := relE_to h.1 (by omega) h.2.1 (fun _ _ => rfl)
theorem finish_ok {S : St} {N : Nat} {x : Int32} (h : Inv S N) (hx : okI x 2) (hN : N + 2000 < 2 ^ 30) : okT S x ∧ okF (rCd (pFoL S x).2 0) x ∧ rFoN (rCd (pFoL S x).2 0) x = (pFoL S x).1 ∧ rFoS (rCd (pFoL S x).2 0) x 7 0 0 9 = 0 ∧ Inv (rFoS (rCd (pFoL S x).2 0) x) N := by
  have hM : frM 1 S (pFoL S x).2 := by unfold pFoL; exact trial_M.tr unt_M
  obtain ⟨A, hA⟩ := Inv_rel h hM 0
  obtain ⟨f1, f2, f3, f4, f5⟩ := fin_key hA hx hN
  exact ⟨f1, f2, f3, by rw [f4.2.1 9 (by omega) (by omega)]; exact (rCd_at _ 0).2.2, Inv_tr h hM f4⟩
theorem abortsWith_ok {S : St} {N b : Nat} {x : Int32} (h : Inv S N) (hx : okI x 2) (hN : N + b < 2 ^ 30) : okDs (pTrial S x) 1 b ∧ okRs (rBegT (rCd (pOft (pTrial S x) 1 b) 0) x) b ∧ rAbW (rCd (pOft (pTrial S x) 1 b) 0) x b = pAbW S x b ∧ rEndT (rRuns (rBegT (rCd (pOft (pTrial S x) 1 b) 0) x) b) 7 0 0 9 = 0 ∧ Inv (rEndT (rRuns (rBegT (rCd (pOft (pTrial S x) 1 b) 0) x) b)) N := by
  have hM : frM 1 S (pOft (pTrial S x) 1 b) := trial_M.tr oft_M
  obtain ⟨A, hA⟩ := Inv_rel h hM 0
  obtain ⟨f1, f2, f3, f4, f5⟩ := abw_key (b := b) hA hx hN
  exact ⟨f1, f2, f3, by rw [f4.2.1 9 (by omega) (by omega)]; exact (rCd_at _ 0).2.2, Inv_tr h hM f4⟩
theorem best_ok {S : St} {N : Nat} (h : Inv S N) (hN : N + 2000 < 2 ^ 30) : (∀ i, i < 3 → okT (lp pBesF i 0 (S, -1, 0)).1 (nI i)) ∧ (∀ i, i < 3 → okF (lp rBesF i 0 (rCd (pBest S).1 0, -1, 0)).1 (nI i)) ∧ (rBest (pBest S).1).2.1 = (pBest S).2.1 ∧ Inv (rBest (pBest S).1).1 N := by
  obtain ⟨A0, hA0⟩ := Inv_rel0 h
  have hM : frM 1 S (pBest S).1 := (best_key hA0 h.2.1 hN).2.2.2.2
  obtain ⟨A, hA⟩ := Inv_rel h hM 0
  have h8 : rCd (pBest S).1 0 7 0 0 8 = 0 := by rw [(rCd_at _ 0).2.1 8 (by omega), hM 7 (by omega)]; exact h.2.1
  obtain ⟨f1, f2, f3, f4, f5⟩ := best_key hA h8 hN
  refine ⟨f1, f2, ?_, Inv_tr h hM f4⟩
  have e : (pBest S).2 = (rBest (pBest S).1).2 := f3
  rw [e]

/-! the scheduler, side by side -/
def uf (P : Nat → Bool) : Nat → Nat → Nat
  | 0, _ => 0
  | n + 1, k => (if P k = true then 0 else 1) + uf P n (k + 1)
theorem uf_le (P : Nat → Bool) : ∀ n k, uf P n k ≤ n
  | 0, _ => Nat.le_refl _
  | n + 1, k => by
    have := uf_le P n (k + 1)
    unfold uf
    split <;> omega
theorem finC_uf (f : Nat → Int32 → Int32) (P : Nat → Bool) (N : Nat) (hf : ∀ k a, k < N → f k (nI a) = if P k = true then nI (a + 1) else nI a) : ∀ n k a, k + n ≤ N → lp f n k (nI a) = nI (a + (n - uf P n k))
  | 0, k, a, _ => by show nI a = _; rw [Nat.zero_sub, Nat.add_zero]
  | n + 1, k, a, hk => by
    have hle := uf_le P n (k + 1)
    rw [lp, hf k a (by omega), uf]
    by_cases hp : P k = true
    · rw [if_pos hp, if_pos hp, finC_uf f P N hf n (k + 1) (a + 1) (by omega)]
      congr 1; omega
    · rw [if_neg hp, if_neg hp, finC_uf f P N hf n (k + 1) a (by omega)]
      congr 1; omega
theorem sel_uf (f : Nat → Int32 × Int32 → Bool × Int32 × Int32) (P : Nat → Bool) (N : Nat) (hf : ∀ k t r, k < N → t < 2 ^ 30 → f k (nI t, r) = if P k = true then (true, nI t, r) else if t = 0 then (false, nI 0, nI k) else (true, nI (t - 1), r)) : ∀ n k t r, k + n ≤ N → t < uf P n k → t < 2 ^ 30 → ∃ i, k ≤ i ∧ i < k + n ∧ P i = false ∧ uf P (i - k) k = t ∧ lpE f n k (nI t, r) = (false, nI 0, nI i)
  | 0, k, t, r, _, ht, _ => absurd ht (Nat.not_lt_zero _)
  | n + 1, k, t, r, hk, ht, h30 => by
    rw [lpE, hf k t r (by omega) h30]
    rw [uf] at ht
    by_cases hp : P k = true
    · rw [if_pos hp] at ht
      rw [if_pos hp, if_pos rfl]
      obtain ⟨i, h1, h2, h3, h4, h5⟩ := sel_uf f P N hf n (k + 1) t r (by omega) (by omega) h30
      refine ⟨i, by omega, by omega, h3, ?_, h5⟩
      rw [show i - k = (i - (k + 1)) + 1 by omega, uf, if_pos hp, h4, Nat.zero_add]
    · rw [if_neg hp] at ht
      rw [if_neg hp]
      by_cases h0 : t = 0
      · rw [if_pos h0, if_neg (show ¬ (false, nI 0, nI k).1 = true from nt rfl)]
        refine ⟨k, Nat.le_refl _, by omega, Bool.eq_false_iff.mpr hp, ?_, rfl⟩
        rw [Nat.sub_self, uf, h0]
      · rw [if_neg h0, if_pos rfl]
        obtain ⟨i, h1, h2, h3, h4, h5⟩ := sel_uf f P N hf n (k + 1) (t - 1) r (by omega) (by omega) (by omega)
        refine ⟨i, by omega, by omega, h3, ?_, h5⟩
        rw [show i - k = (i - (k + 1)) + 1 by omega, uf, if_neg hp, h4]
        omega
theorem uf_at (P : Nat → Bool) : ∀ n k i i', k ≤ i → i < k + n → k ≤ i' → i' < k + n → P i = false → P i' = false → uf P (i - k) k = uf P (i' - k) k → i = i'
  | 0, k, i, i', h1, h2, _, _, _, _, _ => by omega
  | n + 1, k, i, i', h1, h2, h3, h4, p1, p2, e => by
    by_cases hi : i = k
    · by_cases hi' : i' = k
      · omega
      · subst hi
        rw [Nat.sub_self, uf, show i' - i = (i' - (i + 1)) + 1 by omega, uf, if_neg (by rw [p1]; decide)] at e
        omega
    · by_cases hi' : i' = k
      · subst hi'
        rw [Nat.sub_self, uf, show i - i' = (i - (i' + 1)) + 1 by omega, uf, if_neg (by rw [p2]; decide)] at e
        omega
      · refine uf_at P n (k + 1) i i' (by omega) (by omega) (by omega) (by omega) p1 p2 ?_
        rw [show i - k = (i - (k + 1)) + 1 by omega, show i' - k = (i' - (k + 1)) + 1 by omega, uf, uf] at e
        omega
theorem uf_congr (P Q : Nat → Bool) (N : Nat) (h : ∀ k, k < N → P k = Q k) : ∀ n k, k + n ≤ N → uf P n k = uf Q n k
  | 0, _, _ => rfl
  | n + 1, k, hk => by rw [uf, uf, h k (by omega), uf_congr P Q N h n (k + 1) (by omega)]
theorem next_ok {x : Int32} (h : okI x (2 ^ 31 - 1)) : okI (pNext x) (2 ^ 31 - 1) := by
  obtain ⟨n, hn, e⟩ := okI_ex h
  have e1 : pNext x = nI ((1103515245 * n + 12345) % 2147483648) := by
    unfold pNext
    rw [e]
    dsimp only
    rw [nI_l (by omega), show (1103515245 : Int64) = lN 1103515245 from rfl, show (12345 : Int64) = lN 12345 from rfl, show (2147483648 : Int64) = lN 2147483648 from rfl, lN_mul, lN_add, pk_lRem (by omega) (by decide) (by decide), lN_i]
  rw [e1]
  exact okI_nI (by omega) (by omega)
theorem tick_rel {S T : St} {m N : Nat} {A : Int32} (h : rel S m T N A) : rel (pDrawS S m) m (rTick T) N A := by
  obtain ⟨a1, a2, a3, a4, a5, a6, a7, a8, a9⟩ := h.1
  have e7 : S m 4 0 7 = T 7 0 1 3 := a1 3 (by omega)
  refine rel_mach h (fun g i q hg => by simp (disch := omega) only [pDrawS, sF_eq, sF_ne]) (fun i q hi => by simp (disch := omega) only [pDrawS, sF_eq, sF_ne]) (fun q hq => by simp (disch := omega) only [rTick, sF_eq, sF_ne]) (by simp (disch := omega) only [rTick, sF_eq, sF_ne]) (by simp (disch := omega) only [rTick, sF_eq, sF_ne]) (by simp (disch := omega) only [pDrawS, sF_eq, sF_ne]) (by simp (disch := omega) only [pDrawS, sF_eq, sF_ne]; exact Nat.le_refl _) (Nat.le_refl _) ?_
  unfold rG
  refine ⟨fun q hq => ?_, fun j hj => ?_, fun j hj => ?_, ?_⟩
  · by_cases hq3 : q = 3
    · subst hq3; simp (disch := omega) only [pDrawS, rTick, sF_eq, sF_ne]; rw [e7]
    · simp (disch := omega) only [pDrawS, rTick, sF_eq, sF_ne]; exact a1 q hq
  · simp (disch := omega) only [pDrawS, rTick, sF_eq, sF_ne]; exact a2 j hj
  · simp (disch := omega) only [pDrawS, rTick, sF_eq, sF_ne]; exact a3 j hj
  · simp (disch := omega) only [pDrawS, rTick, sF_eq, sF_ne]
    exact ⟨a4, a5, a6, next_ok a7, a8, a9⟩
theorem finC_S {S : St} {m : Nat} (hc : pCC S m ≤ 4) : pFinC S m = nI (pCC S m - uf (pFin S m) (pCC S m) 0) := by
  unfold pFinC
  have := finC_uf (pFinCF S m) (pFin S m) (pCC S m) (fun k a hk => by unfold pFinCF; split <;> simp only [nI_1]) (pCC S m) 0 0 (by omega)
  rw [Nat.zero_add] at this
  exact this
theorem finC_T {T : St} (hc : rCC T ≤ 4) : rFinC T = nI (rCC T - uf (rFin T) (rCC T) 0) := by
  unfold rFinC
  have := finC_uf (rFinCF T) (rFin T) (rCC T) (fun k a hk => by unfold rFinCF; split <;> simp only [nI_1, Int32.add_zero]) (rCC T) 0 0 (by omega)
  rw [Nat.zero_add] at this
  exact this
theorem finC_rel {S T : St} {m N : Nat} {A : Int32} (h : rel S m T N A) : pFinC S m = rFinC T ∧ uf (pFin S m) (pCC S m) 0 = uf (rFin T) (rCC T) 0 := by
  obtain ⟨hc, hc4⟩ := cc_eq h
  have e : uf (pFin S m) (pCC S m) 0 = uf (rFin T) (rCC T) 0 := by
    rw [← hc]
    exact uf_congr _ _ (pCC S m) (fun k hk => (fin_eq (h.2.2.1 k (by omega))).1) _ 0 (by omega)
  exact ⟨by rw [finC_S hc4, finC_T (by omega), e, hc], e⟩
theorem pRun_uf {S T : St} {m N : Nat} {A : Int32} (h : rel S m T N A) : pRun S m = nI (uf (pFin S m) (pCC S m) 0) ∧ rRun T = nI (uf (pFin S m) (pCC S m) 0) := by
  obtain ⟨hc, hc4⟩ := cc_eq h
  have hle := uf_le (pFin S m) (pCC S m) 0
  have ecc : S m 4 0 4 = nI (pCC S m) := h.1.2.2.2.1.1
  have e0 : S m 4 0 4 = T 7 0 1 0 := h.1.1 0 (by omega)
  have key : nI (pCC S m) - nI (pCC S m - uf (pFin S m) (pCC S m) 0) = nI (uf (pFin S m) (pCC S m) 0) := by
    rw [pk_sub (by omega)]; congr 1; omega
  refine ⟨?_, ?_⟩
  · unfold pRun; rw [finC_S hc4, ecc]; exact key
  · unfold rRun; rw [← (finC_rel h).1, finC_S hc4, ← e0, ecc]; exact key
theorem draw_rel {S T : St} {m N : Nat} {A : Int32} (h : rel S m T N A) :
    (∃ i, i < pCC S m ∧ pFin (pDrawS S m) m i = false ∧ pDraw S m = (nI i, pDrawS S m) ∧ ¬ rRun T = 0 ∧ (rSelL T).1 = false ∧ rSel T = i) ∨ (pDraw S m = (-1, S) ∧ rRun T = 0) := by
  obtain ⟨hc, hc4⟩ := cc_eq h
  obtain ⟨r1, r2⟩ := pRun_uf h
  have hle := uf_le (pFin S m) (pCC S m) 0
  by_cases h0 : uf (pFin S m) (pCC S m) 0 = 0
  · refine Or.inr ⟨?_, by rw [r2, h0]; rfl⟩
    unfold pDraw
    rw [r1, h0, if_neg (by decide)]
  · have hp : 0 < pRun S m := by rw [r1]; exact nI_lt (a := 0) (by omega) (by omega)
    have hD := tick_rel h
    obtain ⟨hcD, -⟩ := cc_eq hD
    have ecD : pCC (pDrawS S m) m = pCC S m := by show (pDrawS S m m 4 0 4).toNatClampNeg = _; simp (disch := omega) only [pDrawS, sF_eq, sF_ne]
    have ecT : rCC (rTick T) = rCC T := rCC_eq (by simp (disch := omega) only [rTick, sF_eq, sF_ne])
    have efD : ∀ k, k < 4 → pFin (pDrawS S m) m k = pFin S m k := fun k hk => by unfold pFin; simp (disch := omega) only [pDrawS, sF_eq, sF_ne]
    have efT : ∀ k, k < 4 → rFin (rTick T) k = pFin S m k := fun k hk => by rw [rFin_tick, (fin_eq (h.2.2.1 k hk)).1]
    obtain ⟨x, hx, ex⟩ := okI_ex hD.1.2.2.2.2.2.2.1
    have e7 : pDrawS S m m 4 0 7 = rTick T 7 0 1 3 := hD.1.1 3 (by omega)
    have ht : pTurn (nI x) (nI (uf (pFin S m) (pCC S m) 0)) = nI (x / 65536 % uf (pFin S m) (pCC S m) 0) := by
      unfold pTurn
      dsimp only
      rw [show (65536 : Int32) = nI 65536 from rfl, pk_div (by omega) (by decide) (by decide), pk_rem (by omega) (by omega) (by omega)]
    have htl : x / 65536 % uf (pFin S m) (pCC S m) 0 < uf (pFin S m) (pCC S m) 0 := Nat.mod_lt _ (by omega)
    have uD : uf (pFin (pDrawS S m) m) (pCC S m) 0 = uf (pFin S m) (pCC S m) 0 := uf_congr _ _ 4 efD _ 0 (by omega)
    have uT : uf (rFin (rTick T)) (pCC S m) 0 = uf (pFin S m) (pCC S m) 0 := uf_congr _ _ 4 efT _ 0 (by omega)
    obtain ⟨i, h1, h2, h3, h4, h5⟩ := sel_uf (pDrawF (pDrawS S m) m) (pFin (pDrawS S m) m) 4 (fun k t r hk ht30 => by
      unfold pDrawF
      split
      · rfl
      · show (if nI t = 0 then (false, nI t, nI k) else (true, nI t + -1, r)) = _
        by_cases t0 : t = 0
        · subst t0; rw [if_pos nI_0, if_pos rfl]
        · rw [if_neg (fun z => t0 ((nI_eq (by omega) (by omega)).mp (z.trans nI_0.symm))), if_neg t0]
          obtain ⟨t', rfl⟩ : ∃ t', t = t' + 1 := ⟨t - 1, by omega⟩
          rw [Nat.add_sub_cancel]
          show (true, nI (t' + 1) + (-1), r) = _
          rw [pk_m1]) (pCC S m) 0 (x / 65536 % uf (pFin S m) (pCC S m) 0) 0 (by omega) (by rw [uD]; exact htl) (by omega)
    obtain ⟨i', g1, g2, g3, g4, g5⟩ := sel_uf (rSelF (rTick T)) (rFin (rTick T)) 4 (fun k t r hk ht30 => by
      unfold rSelF
      split
      · show (true, nI t - 0, r) = _
        rw [Int32.sub_zero]
      · show (if nI t ≤ 0 then (false, nI t, nI k) else (true, nI t - 1, r)) = _
        by_cases t0 : t = 0
        · subst t0; rw [if_pos (show nI 0 ≤ 0 by decide), if_pos rfl]
        · rw [if_neg (fun z => nI_nle (by omega) (by omega) z), if_neg t0]
          obtain ⟨t', rfl⟩ : ∃ t', t = t' + 1 := ⟨t - 1, by omega⟩
          rw [Nat.add_sub_cancel]
          show (true, nI (t' + 1) - 1, r) = _
          rw [nI_pred]) (pCC S m) 0 (x / 65536 % uf (pFin S m) (pCC S m) 0) 0 (by omega) (by rw [uT]; exact htl) (by omega)
    have eii : i = i' := by
      refine uf_at (pFin (pDrawS S m) m) (pCC S m) 0 i i' (by omega) (by omega) (by omega) (by omega) h3 (by rw [efD _ (by omega), ← efT _ (by omega)]; exact g3) ?_
      rw [h4, ← g4]
      exact (uf_congr _ _ 4 (fun k hk => by rw [efD k hk, efT k hk]) _ 0 (by omega))
    subst eii
    have eL : pDrawL S m = (false, nI 0, nI i) := by
      unfold pDrawL
      rw [r1, ex, ht]; exact h5
    have eM : rSelL T = (false, nI 0, nI i) := by
      unfold rSelL
      rw [r2, ← e7, ex, ht, ← hc]; exact g5
    refine Or.inl ⟨i, by omega, h3, ?_, ?_, by rw [eM], ?_⟩
    · unfold pDraw
      rw [if_pos hp, eL, if_neg (show ¬ (false, nI 0, nI i).1 = true from nt rfl)]
    · rw [r2]; exact nI_ne0 (by omega) (by omega)
    · show (rSelL T).2.2.toNatClampNeg = i
      rw [eM]; exact nI_clamp (by omega)
theorem kd_114 {c : Nat} (hc : c ≤ 4) : (kd (nI c) = 114 → nI c = 2) ∧ (kd (nI c) = 119 → nI c = 3) := by
  have : ∀ c, c ≤ 4 → (kd (nI c) = 114 → nI c = 2) ∧ (kd (nI c) = 119 → nI c = 3) := by decide +kernel
  exact this c hc
theorem wf_rel {S T : St} {m N g : Nat} {A : Int32} (h : rel S m T N A) (hg : g < 4) (hf : pFin S m g = false) : wfS S m g ∧ wfE T g := by
  obtain ⟨hA, -, -, -, -, hP, -⟩ := h.2.2.1 g hg
  have hps := (fin_eq (h.2.2.1 g hg)).2.1 hf
  obtain ⟨p1, p2, p3, p4⟩ := hP
  obtain ⟨k1, k2, k3, k4⟩ := p4 _ hps
  have h29 : okI (S m g 0 3) 29 := ⟨p2.1, by have := p1.2; show pPs S m g ≤ 29; have : pLn S m g ≤ 30 := p1.2; omega⟩
  have e0 : S m 4 0 4 = T 7 0 1 0 := h.1.1 0 (by omega)
  have er : rPs T g = pPs S m g := by show (rOf T g 1).toNatClampNeg = _; rw [← hA.2.1]
  refine ⟨⟨h.1.2.2.2.1, h.1.2.2.2.2.2.2.2.2.2.1, h29, hf, k2, k4⟩, ⟨by rw [← e0]; exact h.1.2.2.2.1, h.1.2.2.2.2.2.2.2.2.1, by rw [← hA.2.1]; exact h29, fun z => ?_⟩⟩
  have eo : rOp T g = S m g 5 (pPs S m g) := by show rOf T g (36 + 2 * rPs T g + 1) = _; rw [er, k3]
  rw [eo]
  rw [er, k1] at z
  obtain ⟨c, hc, ec⟩ := okI_ex k2
  rw [ec] at z k4
  exact k4 (z.imp (kd_114 hc).1 (kd_114 hc).2)
theorem okD_rel {S T : St} {m N : Nat} {A : Int32} (h : rel S m T N A) : okD S m ∧ okR T := by
  obtain ⟨hc, hc4⟩ := cc_eq h
  have e0 : S m 4 0 4 = T 7 0 1 0 := h.1.1 0 (by omega)
  refine ⟨⟨h.1.2.2.2.1, fun hn => ?_⟩, ⟨by rw [← e0]; exact h.1.2.2.2.1, fun hn => ?_, fun k hk hf => ?_⟩⟩
  · rcases draw_rel h with ⟨i, h1, h2, h3, -⟩ | ⟨h1, -⟩
    · rw [h3]
      exact ⟨okI_nI (by omega) (by omega), by
        show wfS (pDrawS S m) m (nI i).toNatClampNeg
        rw [nI_clamp (by omega)]
        exact (wf_rel (tick_rel h) (by omega) h2).1⟩
    · rw [h1] at hn; exact absurd rfl hn
  · rcases draw_rel h with ⟨i, h1, h2, h3, h4, h5, h6⟩ | ⟨-, h1⟩
    · exact h5
    · exact absurd h1 hn
  · have hk4 : k < 4 := by omega
    exact (wf_rel h hk4 (by rw [(fin_eq (h.2.2.1 k hk4)).1]; exact hf)).2
/-- a scheduled step -/
theorem sch_rel {S T : St} {m N : Nat} {A : Int32} (h : rel S m T N A) (hN : N < 2 ^ 30) :
    ((pDraw S m).1 = -1 ∧ (pDraw S m).2 = S ∧ rSch T = (false, T) ∧ rRun T = 0) ∨ (¬ (pDraw S m).1 = -1 ∧ (rSch T).1 = true ∧ frG T (rSch T).2 ∧ ∃ A', rel (pStep (pDraw S m).2 m (pDraw S m).1.toNatClampNeg).2 m (rSch T).2 (N + 1) A') := by
  obtain ⟨hc, hc4⟩ := cc_eq h
  rcases draw_rel h with ⟨i, h1, h2, h3, h4, h5, h6⟩ | ⟨h1, h2⟩
  · have hD := tick_rel h
    have ecD : pCC (pDrawS S m) m = pCC S m := by show (pDrawS S m m 4 0 4).toNatClampNeg = _; simp (disch := omega) only [pDrawS, sF_eq, sF_ne]
    obtain ⟨s1, s2⟩ := step_rel hD (by rw [ecD]; exact h1) h2 hN
    obtain ⟨g1, g2⟩ := rGo_T (S := rTick T) (a := i) (by omega) (wf_rel hD (by omega) h2).2
    refine Or.inr ⟨by rw [h3]; exact nI_nm1 (by omega), ?_, ?_, ⟨pAborts (pDrawS S m) m, ?_⟩⟩
    · unfold rSch
      rw [if_neg h4, h6, decide_eq_false g2]; rfl
    · unfold rSch
      rw [if_neg h4, h6]
      exact (frT.set (by omega)).1.tr g1
    · unfold rSch
      rw [if_neg h4, h6, h3]
      show rel (pStep (pDrawS S m) m (nI i).toNatClampNeg).2 m (rGo (rTick T) i).2 (N + 1) _
      rw [nI_clamp (by omega)]
      exact s2
  · refine Or.inl ⟨by rw [h1], by rw [h1], ?_, h2⟩
    unfold rSch; rw [if_pos h2]

/-! what the law's lines finds -/
def cB (p : Nat → Bool) : Nat → Nat
  | 0 => 0
  | j + 1 => cB p j + (if p j = true then 1 else 0)
theorem cB_le (p : Nat → Bool) : ∀ n, cB p n ≤ n
  | 0 => Nat.le_refl _
  | n + 1 => by have := cB_le p n; rw [cB]; split <;> omega
theorem cB_0 {p : Nat → Bool} : ∀ {n : Nat}, (∀ k, k < n → p k = false) → cB p n = 0
  | 0, _ => rfl
  | n + 1, h => by rw [cB, cB_0 (n := n) (fun k hk => h k (by omega)), h n (by omega)]; rfl
theorem cB_ex {p : Nat → Bool} : ∀ {n : Nat}, 0 < cB p n → ∃ k, k < n ∧ p k = true
  | 0, h => absurd h (by rw [cB]; omega)
  | n + 1, h => by
    by_cases hp : p n = true
    · exact ⟨n, by omega, hp⟩
    · rw [cB, if_neg hp] at h
      obtain ⟨k, hk, e⟩ := cB_ex (n := n) h
      exact ⟨k, by omega, e⟩
theorem cB_1 {p : Nat → Bool} : ∀ {n : Nat}, (∀ g b, g < n → b < n → g ≠ b → p g = true → p b = false) → cB p n ≤ 1
  | 0, _ => Nat.zero_le _
  | n + 1, h => by
    by_cases hp : p n = true
    · have : cB p n = 0 := cB_0 (fun k hk => h n k (by omega) (by omega) (by omega) hp)
      rw [cB, this, if_pos hp]; omega
    · have := cB_1 (n := n) (p := p) (fun g b hg hb => h g b (by omega) (by omega))
      rw [cB, if_neg hp]; omega
theorem cB_b {p : Nat → Bool} (j : Nat) : nI (cB p j) + bI (p j) = nI (cB p (j + 1)) := by
  rw [cB]
  cases p j
  · rw [if_neg (by decide)]; show nI (cB p j) + 0 = _; rw [Int32.add_zero]; rfl
  · rw [if_pos rfl]; exact nI_1 _
theorem bI_1 {b : Bool} (h : b = true) : bI b = 1 := by rw [h]; rfl
theorem LI.cc {S : St} {n N P k : Nat} (h : LI S n N P k) : S 0 4 0 4 = nI n ∧ n ≤ 4 := by
  obtain ⟨⟨h1, T, A, h2⟩, -⟩ := h
  have g4 : okI (S 0 4 0 4) 4 := h2.1.2.2.2.1
  refine ⟨?_, h1.n4⟩
  rw [← h1.cc]; exact g4.1
theorem LI.se {S : St} {n N P k g : Nat} (h : LI S n N P k) (hg : g < n) : seS S 0 g := h.1.1.2.2.1 g hg
/-- what a line's values are -/
theorem com_V {S : St} {n N P k l : Nat} (h : LI S n N P k) (hl : l < 8) : pCom S 0 l = lgV S 0 (pQ S 0) l := by
  obtain ⟨l1, l2, l3, l4, l5, l6, l7, l8⟩ := h.1.1.2.1 l hl
  have hcc := h.1.1.cc
  unfold pCom
  dsimp only
  rw [hcc]
  have key : ∀ (c j : Nat) (r : Int32), j + c = n → ((lpE (pComF S 0 l) c j r).1 = true → ∀ b, j ≤ b → b < n → ¬ (S 0 b 1 l = 2 ∧ hasL (S 0 b 0 10) l = false)) ∧ ((lpE (pComF S 0 l) c j r).1 = false → (lpE (pComF S 0 l) c j r).2 = lgV S 0 (pQ S 0) l) := by
    intro c
    induction c with
    | zero => intro j r hj; exact ⟨fun _ b h1 h2 => absurd h1 (by omega), fun z => absurd z.symm Bool.false_ne_true⟩
    | succ c ih =>
      intro j r hj
      rw [lpE]
      by_cases h2 : S 0 j 1 l = 2
      · by_cases hw : hasL (S 0 j 0 10) l = true
        · have e : pComF S 0 l j r = (true, r) := by unfold pComF; rw [if_pos h2, if_pos hw]
          rw [e, if_pos rfl]
          obtain ⟨i1, i2⟩ := ih (j + 1) r (by omega)
          refine ⟨fun z b hb hbn => ?_, i2⟩
          by_cases hbj : b = j
          · subst hbj; rintro ⟨-, z2⟩; rw [hw] at z2; cases z2
          · exact i1 z b (by omega) hbn
        · have e : pComF S 0 l j r = (false, S 0 j 2 l) := by unfold pComF; rw [if_pos h2, if_neg hw]
          rw [e, if_neg Bool.false_ne_true]
          exact ⟨fun z => absurd z Bool.false_ne_true, fun _ => l3 j (by omega) h2 (by simpa using hw)⟩
      · have e : pComF S 0 l j r = (true, r) := by unfold pComF; rw [if_neg h2]
        rw [e, if_pos rfl]
        obtain ⟨i1, i2⟩ := ih (j + 1) r (by omega)
        refine ⟨fun z b hb hbn => ?_, i2⟩
        by_cases hbj : b = j
        · subst hbj; rintro ⟨z2, -⟩; exact h2 z2
        · exact i1 z b (by omega) hbn
  obtain ⟨k1, k2⟩ := key n 0 0 (by omega)
  by_cases hq : (lpE (pComF S 0 l) n 0 0).1 = true
  · rw [if_pos hq]
    rcases l4 with z | ⟨g, g1, g2, g3⟩
    · exact z
    · exact absurd ⟨g2, g3⟩ (k1 hq g (Nat.zero_le _) g1)
  · rw [if_neg hq]; exact k2 (by simpa using hq)
theorem lines_1 {S : St} {n N P k l : Nat} (h : LI S n N P k) (hl : l < 8) : lnC S n l := by
  obtain ⟨l1, l2, l3, l4, l5, l6, l7, l8⟩ := h.1.1.2.1 l hl
  have hn4 := h.cc.2
  have hW : ∀ g, g < n → rHas (S 0 g 0 10) (nI l) = hasL (S 0 g 0 10) l := fun g hg => rH_C (h.se hg).2.1 hl
  have hR : ∀ g, g < n → rHas (S 0 g 0 9) (nI l) = hasL (S 0 g 0 9) l := fun g hg => rH_C (h.se hg).1 hl
  have key := lp_at (lnF S l) (fun j q => q.1 = nI (cB (fun g => decide (S 0 g 1 l = 2)) j) ∧ q.2.1 = nI (cB (fun g => decide (S 0 g 1 l = 1)) j) ∧ q.2.2.1 = nI (cB (fun g => rHas (S 0 g 0 10) (nI l)) j) ∧ q.2.2.2.1 = nI (cB (fun g => rHas (S 0 g 0 9) (nI l) && !rHas (S 0 g 0 10) (nI l)) j) ∧ ((∃ g, g < j ∧ S 0 g 1 l = 2 ∧ hasL (S 0 g 0 10) l = false) → q.2.2.2.2.1 = lgV S 0 (pQ S 0) l) ∧ ((∀ g, g < j → ¬ (S 0 g 1 l = 2 ∧ hasL (S 0 g 0 10) l = false)) → q.2.2.2.2.1 = S 0 4 2 l) ∧ q.2.2.2.2.2 = 1) n (fun j q hj ⟨p1, p2, p3, p4, p5, p5', p6⟩ => by
    unfold lnF
    refine ⟨?_, ?_, ?_, ?_, ?_, ?_, ?_⟩
    · dsimp only; rw [p1]; exact cB_b (p := fun g => decide (S 0 g 1 l = 2)) j
    · dsimp only; rw [p2]; exact cB_b (p := fun g => decide (S 0 g 1 l = 1)) j
    · dsimp only; rw [p3]; exact cB_b (p := fun g => rHas (S 0 g 0 10) (nI l)) j
    · dsimp only; rw [p4]; exact cB_b (p := fun g => rHas (S 0 g 0 9) (nI l) && !rHas (S 0 g 0 10) (nI l)) j
    · intro hz
      dsimp only
      rw [hW j hj]
      by_cases hd : S 0 j 1 l = 2 ∧ hasL (S 0 j 0 10) l = false
      · rw [if_pos (by rw [hd.2, decide_eq_true hd.1]; rfl)]
        unfold pCached
        rw [if_neg (by rw [hd.1]; decide)]
        exact l3 j hj hd.1 hd.2
      · rw [if_neg (fun z => hd (by simpa using z))]
        obtain ⟨g, g1, g2⟩ := hz
        refine p5 ⟨g, ?_, g2⟩
        rcases Nat.lt_or_ge g j with z | z
        · exact z
        · have : g = j := by omega
          subst this; exact absurd g2 hd
    · intro hz
      dsimp only
      rw [hW j hj, if_neg (fun z => hz j (by omega) (by simpa using z))]
      exact p5' (fun g hg => hz g (by omega))
    · refine bI_1 ?_
      rw [hW j hj, p6]
      simp only [Bool.and_eq_true, Bool.or_eq_true, Bool.not_eq_true', decide_eq_false_iff_not, decide_eq_true_eq]
      refine ⟨by decide, ?_, ?_, ?_⟩
      · by_cases h1 : S 0 j 1 l = 1
        · refine Or.inr ?_
          unfold pCached
          have e2 : S 0 j 2 l = lgV S 0 (pQ S 0) l := l2 j hj h1
          rw [if_neg (by rw [h1]; decide), e2]
          rcases l4 with z | ⟨g, g1, g2, g3⟩
          · exact z.symm
          · have hgj : g ≠ j := fun z => by
              have g2' : S 0 g 1 l = 2 := g2
              rw [z, h1] at g2'; exact absurd g2' (by decide)
            have z0 : S 0 j 1 l = 0 := l1 g j g1 hj hgj g2
            rw [h1] at z0; exact absurd z0 (by decide)
        · exact Or.inl h1
      · by_cases h0 : S 0 j 1 l = 0
        · refine Or.inr ?_
          unfold pCached
          rw [if_pos h0]
        · exact Or.inl h0
      · by_cases hw : hasL (S 0 j 0 10) l = true
        · exact Or.inr (l5 j hj hw)
        · exact Or.inl (by simpa using hw)) n 0 (0, 0, 0, 0, S 0 4 2 l, 1) (by omega) ⟨rfl, rfl, rfl, rfl, fun ⟨g, g1, _⟩ => absurd g1 (by omega), fun _ => rfl, rfl⟩
  rw [Nat.zero_add] at key
  obtain ⟨p1, p2, p3, p4, p5, p5', p6⟩ := key
  have c1 : cB (fun g => decide (S 0 g 1 l = 2)) n ≤ 1 := cB_1 (fun g b hg hb hgb z => by
    have : S 0 b 1 l = 0 := l1 g b hg hb hgb (by simpa using z)
    rw [this]; decide)
  have c3 : cB (fun g => rHas (S 0 g 0 10) (nI l)) n ≤ 1 := cB_1 (fun g b hg hb hgb z => by
    have z' : hasL (S 0 g 0 10) l = true := by rw [← hW g hg]; exact z
    have z0 : S 0 b 1 l = 0 := l1 g b hg hb hgb (l5 g hg z')
    show rHas (S 0 b 0 10) (nI l) = false
    rw [hW b hb]
    cases hw : hasL (S 0 b 0 10) l
    · rfl
    · have z2 : S 0 b 1 l = 2 := l5 b hb hw
      rw [z0] at z2; exact absurd z2 (by decide))
  unfold lnC
  rw [p1, p2, p3, p4, p6]
  refine ⟨by decide, nI_nlt (a := 1) (b := cB _ n) c1 (by omega), fun z => ?_, nI_nlt (a := 1) (b := cB _ n) c3 (by omega), fun z => ?_, ?_⟩
  · have z1 : cB (fun g => decide (S 0 g 1 l = 2)) n = 1 := (nI_eq (by omega) (by omega)).mp z
    obtain ⟨g, g1, g2⟩ := cB_ex (p := fun g => decide (S 0 g 1 l = 2)) (n := n) (by omega)
    have g2' : S 0 g 1 l = 2 := by simpa using g2
    rw [cB_0 (p := fun g => decide (S 0 g 1 l = 1)) (fun b hb => ?_)]
    · exact nI_nlt (a := 0) (b := 0) (Nat.le_refl _) (by omega)
    · by_cases hbg : b = g
      · subst hbg; simp only [decide_eq_false_iff_not]; rw [g2']; decide
      · have : S 0 b 1 l = 0 := l1 g b g1 hb (fun q => hbg q.symm) g2'
        simp only [decide_eq_false_iff_not]; rw [this]; decide
  · have z1 : cB (fun g => rHas (S 0 g 0 10) (nI l)) n = 1 := (nI_eq (by omega) (by omega)).mp z
    obtain ⟨g, g1, g2⟩ := cB_ex (p := fun g => rHas (S 0 g 0 10) (nI l)) (n := n) (by omega)
    have g2' : rHas (S 0 g 0 10) (nI l) = true := g2
    rw [cB_0 (p := fun g => rHas (S 0 g 0 9) (nI l) && !rHas (S 0 g 0 10) (nI l)) (fun b hb => ?_)]
    · exact nI_nlt (a := 0) (b := 0) (Nat.le_refl _) (by omega)
    · by_cases hbg : b = g
      · subst hbg; rw [g2']; simp
      · have : hasL (S 0 b 0 9) l = false := l7 g b g1 hb (fun q => hbg q.symm) (by show hasL (S 0 g 0 10) l = true; rw [← hW g g1]; exact g2')
        rw [hR b hb, this]; rfl
  · rw [com_V h hl]
    rcases l4 with z | ⟨g, g1, g2, g3⟩
    · by_cases hd : ∃ g, g < n ∧ S 0 g 1 l = 2 ∧ hasL (S 0 g 0 10) l = false
      · exact (p5 hd).symm
      · rw [p5' (fun g hg z => hd ⟨g, hg, z⟩)]; exact z.symm
    · exact (p5 ⟨g, g1, g2, g3⟩).symm
theorem okI_le {x y : Int32} {a b : Nat} (hx : okI x a) (hy : okI y b) (ha : a < 2 ^ 31) (hb : b < 2 ^ 31) (h : x.toNatClampNeg ≤ y.toNatClampNeg) : x ≤ y := by
  rw [hx.1, hy.1]; exact nI_le h (by have := hy.2; omega)
theorem okI_nlt {x y : Int32} {a b : Nat} (hx : okI x a) (hy : okI y b) (ha : a < 2 ^ 31) (hb : b < 2 ^ 31) (h : y.toNatClampNeg ≤ x.toNatClampNeg) : ¬ x < y := by
  rw [hx.1, hy.1]; exact nI_nlt h (by have := hx.2; omega)
theorem tx_pos {x : Int32} {b : Nat} (h : x = -1 ∨ okI x b) (hb : b < 2 ^ 31) : x < 0 ↔ x = -1 := by
  rcases h with rfl | h
  · exact ⟨fun _ => rfl, fun _ => by decide⟩
  · obtain ⟨k, hk, rfl⟩ := okI_ex h
    exact ⟨fun z => absurd z (nI_pos (by omega)), fun z => absurd z (nI_nm1 (by omega))⟩
theorem lines_2 {S : St} {n N P k g : Nat} (h : LI S n N P k) (hN : N < 2 ^ 30) (hg : g < n) : coC S g := by
  obtain ⟨⟨h1, T, A, h2⟩, -⟩ := id h
  have hn4 := h1.n4
  obtain ⟨s1, s2, s3, s4, s5⟩ := h.se hg
  obtain ⟨hA, -, -, t3, -, hP, hB⟩ := h2.2.2.1 g (by omega)
  obtain ⟨p1, p2, p3, -⟩ := hP
  have hbuf := h2.1.2.2.2.2.2.1
  have hnb := h2.1.2.2.2.2.2.2.2.1
  obtain ⟨k1, k2⟩ := kz_ok s2
  refine ⟨fun z => ?_, k1, ?_, ?_, okI_le p2 p1 (by omega) (by omega) p3⟩
  · have z0 : S 0 g 0 5 < 0 := by simpa using z
    obtain ⟨e1, e2, -⟩ := s4 ((tx_pos t3.2.2.1 (by omega)).mp z0)
    rw [e1, e2]; rfl
  · rw [k2]
    show ¬ S 0 4 0 6 < rSize (S 0 g 0 10)
    exact okI_nlt hbuf (size_8 s2) (by omega) (by omega) hB
  · show ¬ S 0 4 0 8 ≤ S 0 g 0 5
    rw [Int32.le_iff_toInt_le]
    have hz := (okI_toInt hnb (by omega)).1
    by_cases ht : S 0 g 0 5 = -1
    · rw [ht]; show ¬ (S 0 4 0 8).toInt ≤ -1; omega
    · rcases h1.2.2.2.1.1 g hg with z | z
      · unfold own at z; rw [if_neg ht] at z
        exact absurd (Int32.toInt_inj.mp (by rw [z]; rfl)) ht
      · unfold own at z; rw [if_neg ht] at z; omega
theorem lines_3 {S : St} {n N P k : Nat} (h : LI S n N P k) : S 0 4 3 5 + S 0 4 3 6 = (coQ S n).1 ∧ (coQ S n).2.2 = pMFact S 0 3 ∧ (coQ S n).2.1 = nI (cT (tn S 0) (pQ S 0)) := by
  obtain ⟨⟨h1, T, A, h2⟩, -⟩ := id h
  have hn4 := h1.n4
  have hf : ∀ g, g < n → decide (S 0 g 0 3 = S 0 g 3 2) = pFin S 0 g := fun g hg => by
    obtain ⟨f1, f2, f3⟩ := fin_eq (h2.2.2.1 g (by omega))
    obtain ⟨-, -, -, -, -, ⟨p1, p2, -⟩, -⟩ := h2.2.2.1 g (by omega)
    cases hp : pFin S 0 g
    · have := f2 hp
      refine decide_eq_false (fun z => ?_)
      have : pPs S 0 g = pLn S 0 g := congrArg Int32.toNatClampNeg z
      omega
    · have := f3 hp
      refine decide_eq_true ?_
      rw [p2.1, p1.1]; exact congrArg nI this
  have key := lp_at (coF S) (fun j q => q.1 = sI (fun g => S 0 g 0 14) j ∧ q.2.1 = sI (fun g => S 0 g 0 13) j ∧ q.2.2 = nI (cB (pFin S 0) j)) n (fun j q hj ⟨p1, p2, p3⟩ => by
    unfold coF
    refine ⟨by dsimp only; rw [p1]; rfl, by dsimp only; rw [p2]; rfl, ?_⟩
    dsimp only; rw [p3, hf j hj]; exact cB_b j) n 0 (0, 0, 0) (by omega) ⟨rfl, rfl, rfl⟩
  have kf := lp_at (pFinCF S 0) (fun j a => a = nI (cB (pFin S 0) j)) n (fun j a hj e => by
    unfold pFinCF
    rw [e, cB]
    cases pFin S 0 j
    · rw [if_neg (by decide), if_neg (by decide)]; rfl
    · rw [if_pos rfl, if_pos rfl]; exact nI_1 _) n 0 0 (by omega) rfl
  rw [Nat.zero_add] at key kf
  obtain ⟨k1, k2, k3⟩ := key
  refine ⟨by rw [k1]; exact h1.2.2.2.2.1, ?_, by rw [k2]; exact h1.2.2.2.2.2.1⟩
  rw [k3]
  show _ = pFinC S 0
  unfold pFinC
  rw [h1.cc, kf]

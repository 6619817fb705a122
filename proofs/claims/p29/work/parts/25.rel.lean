/-! THE RELATION of the class's machine m of a state S and the reference's row of a state T -/
theorem sF_eq {S : St} {m g i k : Nat} {v : Int32} {m' g' i' k' : Nat} (h : m' = m ∧ g' = g ∧ i' = i ∧ k' = k) : setF S m g i k v m' g' i' k' = v := by rw [setF_at, if_pos h]
theorem sF_ne {S : St} {m g i k : Nat} {v : Int32} {m' g' i' k' : Nat} (h : ¬ (m' = m ∧ g' = g ∧ i' = i ∧ k' = k)) : setF S m g i k v m' g' i' k' = S m' g' i' k' := by rw [setF_at, if_neg h]
def kd (x : Int32) : Int32 := if x = 0 then 98 else if x = 1 then 99 else if x = 2 then 114 else if x = 3 then 119 else 97
/-- the cores' plain numbers -/
def rA (S : St) (m : Nat) (T : St) (g : Nat) : Prop := S m g 0 4 = rOf T g 0 ∧ S m g 0 3 = rOf T g 1 ∧ S m g 3 2 = rOf T g 2 ∧ S m g 0 13 = rOf T g 9 ∧ S m g 0 14 = rOf T g 10
/-- their transactions -/
def rT1 (S : St) (m : Nat) (T : St) (g : Nat) : Prop := rOf T g 3 = (if S m g 0 5 = -1 then 0 else 1) ∧ rOf T g 4 = (if S m g 0 5 = -1 then S m g 0 6 else S m g 0 5)
def rT2 (S : St) (m : Nat) (T : St) (g : Nat) : Prop := S m g 0 9 = rOf T g 7 ∧ S m g 0 10 = rOf T g 8 ∧ S m g 0 11 = rOf T g 11 ∧ ok8 (S m g 0 9) ∧ ok8 (S m g 0 10) ∧ ok8 (S m g 0 11)
def rT3 (S : St) (m : Nat) (T : St) (g N : Nat) : Prop := (S m g 0 5 = -1 → S m g 0 9 = 0 ∧ S m g 0 10 = 0 ∧ S m g 0 11 = 0) ∧ (S m g 0 6 = -1 ∨ okI (S m g 0 6) N) ∧ (S m g 0 5 = -1 ∨ okI (S m g 0 5) N) ∧
  (S m g 0 5 ≠ -1 → S m g 0 7 = rOf T g 5 ∧ S m g 0 8 = rOf T g 6 ∧ okI (S m g 0 7) 30 ∧ (S m g 0 7).toNatClampNeg ≤ (S m g 3 2).toNatClampNeg ∧ S m g 0 6 = -1)
/-- their lines -/
def rV (S : St) (m : Nat) (T : St) (g : Nat) : Prop := ∀ l, l < 8 → S m g 1 l = rOf T g (20 + l) ∧ okI (S m g 1 l) 2 ∧ rOf T g (28 + l) = (if S m g 1 l = 0 then 0 else S m g 2 l) ∧ (hasL (S m g 0 10) l = true → S m g 1 l = 2) ∧ (hasL (S m g 0 11) l = true → S m g 6 l = rOf T g (12 + l))
abbrev pLn (S : St) (m g : Nat) : Nat := (S m g 3 2).toNatClampNeg
/-- their programs -/
def rP (S : St) (m : Nat) (T : St) (g : Nat) : Prop := okI (S m g 3 2) 30 ∧ okI (S m g 0 3) 30 ∧ pPs S m g ≤ pLn S m g ∧ ∀ k, k < pLn S m g → rOf T g (36 + 2 * k) = kd (S m g 4 k) ∧ okI (S m g 4 k) 4 ∧ S m g 5 k = rOf T g (36 + 2 * k + 1) ∧ (S m g 4 k = 2 ∨ S m g 4 k = 3 → okI (S m g 5 k) 7)
def rB (S : St) (m g : Nat) : Prop := (rSize (S m g 0 10)).toNatClampNeg ≤ (S m 4 0 6).toNatClampNeg
/-- what the machine has -/
def rG (S : St) (m : Nat) (T : St) (N : Nat) (A : Int32) : Prop := (∀ k, k < 5 → S m 4 0 (4 + k) = T 7 0 1 k) ∧ (∀ j, j < 8 → S m 4 2 j = T 7 0 1 (5 + j)) ∧ (∀ j, j < 8 → S m 4 3 j = T 7 0 1 (13 + j)) ∧
  okI (S m 4 0 4) 4 ∧ okI (S m 4 0 5) 2 ∧ okI (S m 4 0 6) 8 ∧ okI (S m 4 0 7) (2 ^ 31 - 1) ∧ okI (S m 4 0 8) N ∧ okI (T 7 0 1 21) 400 ∧ okI (S m 4 4 7) 400 ∧ S m 4 3 5 + S m 4 3 6 = A + T 7 0 0 13
/-- a line is modified in one cache at most -/
def rU (S : St) (m : Nat) : Prop := ∀ j, j < 8 → ∀ g, g < pCC S m → ∀ b, b < pCC S m → g ≠ b → S m g 1 j = 2 → S m b 1 j ≠ 2
def rEn (S : St) (m : Nat) (T : St) (q : Nat) : Prop := S m 4 5 q = T 7 0 1 (406 + 19 * q) ∧ S m 4 6 q = T 7 0 1 (406 + 19 * q + 1) ∧ T 7 0 1 (406 + 19 * q + 2) = S m 4 7 q + 256 * S m 4 8 q ∧ ok8 (S m 4 7 q) ∧ ok8 (S m 4 8 q) ∧ ∀ l, l < 8 → S m 4 9 (q * 8 + l) = T 7 0 1 (406 + 19 * q + 3 + l) ∧ S m 4 10 (q * 8 + l) = T 7 0 1 (406 + 19 * q + 11 + l)
/-- the log: in a trial there is none -/
def rL (S : St) (m : Nat) (T : St) : Prop := (m = 1 ∧ T 7 0 0 8 = 1) ∨ (m ≠ 1 ∧ T 7 0 0 8 = 0 ∧ S m 4 4 7 = T 7 0 1 21 ∧ ∀ q, q < pQ S m → rEn S m T q)
def rCr (S : St) (m : Nat) (T : St) (N g : Nat) : Prop := rA S m T g ∧ rT1 S m T g ∧ rT2 S m T g ∧ rT3 S m T g N ∧ rV S m T g ∧ rP S m T g ∧ rB S m g
def rel (S : St) (m : Nat) (T : St) (N : Nat) (A : Int32) : Prop := rG S m T N A ∧ rU S m ∧ (∀ g, g < 4 → rCr S m T N g) ∧ rL S m T
/-! frames -/
theorem rCr_fr {S S' T T' : St} {m N N' g : Nat} (h : rCr S m T N g) (hS : ∀ i k, S' m g i k = S m g i k) (hT : ∀ w, w < 96 → rOf T' g w = rOf T g w) (hB : (S m 4 0 6).toNatClampNeg ≤ (S' m 4 0 6).toNatClampNeg) (hN : N ≤ N') : rCr S' m T' N' g := by
  obtain ⟨hA, h1, h2, h3, hV, hP, hb⟩ := h
  refine ⟨?_, ?_, ?_, ?_, ?_, ?_, ?_⟩
  · unfold rA at *
    simp only [hS, hT 0 (by omega), hT 1 (by omega), hT 2 (by omega), hT 9 (by omega), hT 10 (by omega)]; exact hA
  · unfold rT1 at *
    simp only [hS, hT 3 (by omega), hT 4 (by omega)]; exact h1
  · unfold rT2 at *
    simp only [hS, hT 7 (by omega), hT 8 (by omega), hT 11 (by omega)]; exact h2
  · unfold rT3 at *
    simp only [hS, hT 5 (by omega), hT 6 (by omega)]
    obtain ⟨a, b, c, d⟩ := h3
    refine ⟨a, ?_, ?_, d⟩
    · rcases b with b | b
      · exact Or.inl b
      · exact Or.inr ⟨b.1, by have := b.2; omega⟩
    · rcases c with b | b
      · exact Or.inl b
      · exact Or.inr ⟨b.1, by have := b.2; omega⟩
  · intro l hl
    have := hV l hl
    simp only [hS, hT (20 + l) (by omega), hT (28 + l) (by omega), hT (12 + l) (by omega)]; exact this
  · obtain ⟨a, b, c, d⟩ := hP
    unfold rP pPs pLn at *
    simp only [hS]
    refine ⟨a, b, c, fun k hk => ?_⟩
    have hk30 := a.2
    rw [hT (36 + 2 * k) (by omega), hT (36 + 2 * k + 1) (by omega)]
    exact d k hk
  · unfold rB at *
    simp only [hS]; omega
theorem rEn_fr {S S' T T' : St} {m q : Nat} (h : rEn S m T q) (hS : ∀ i k, 5 ≤ i → S' m 4 i k = S m 4 i k) (hT : ∀ k, 406 ≤ k → T' 7 0 1 k = T 7 0 1 k) : rEn S' m T' q := by
  unfold rEn at *
  obtain ⟨a, b, c, d, f, g⟩ := h
  rw [hS 5 _ (by omega), hS 6 _ (by omega), hS 7 _ (by omega), hS 8 _ (by omega), hT _ (by omega), hT _ (by omega), hT _ (by omega)]
  refine ⟨a, b, c, d, f, fun l hl => ?_⟩
  rw [hS 9 _ (by omega), hS 10 _ (by omega), hT _ (by omega), hT _ (by omega)]
  exact g l hl
theorem rL_fr {S S' T T' : St} {m : Nat} (h : rL S m T) (hS : ∀ i k, 4 ≤ i → S' m 4 i k = S m 4 i k) (hT : ∀ k, 406 ≤ k → T' 7 0 1 k = T 7 0 1 k) (h21 : T' 7 0 1 21 = T 7 0 1 21) (h8 : T' 7 0 0 8 = T 7 0 0 8) : rL S' m T' := by
  rcases h with ⟨a, b⟩ | ⟨a, b, c, d⟩
  · exact Or.inl ⟨a, by rw [h8]; exact b⟩
  · refine Or.inr ⟨a, by rw [h8]; exact b, by rw [hS 4 7 (by omega), h21]; exact c, fun q hq => ?_⟩
    have e : pQ S' m = pQ S m := by show (S' m 4 4 7).toNatClampNeg = _; rw [hS 4 7 (by omega)]
    rw [e] at hq
    exact rEn_fr (d q hq) (fun i k hi => hS i k (by omega)) hT
/-- one core has changed -/
theorem rel_core {S S' T T' : St} {m N : Nat} {A : Int32} {g : Nat} (h : rel S m T N A) (hg : g < 4) (hS : ∀ b i k, b ≠ g → S' m b i k = S m b i k) (hT : ∀ k, k < 22 + 96 * g ∨ 22 + 96 * g + 96 ≤ k → T' 7 0 1 k = T 7 0 1 k) (h0 : ∀ k, T' 7 0 0 k = T 7 0 0 k) (hU : rU S' m) (hC : rCr S' m T' N g) : rel S' m T' N A := by
  obtain ⟨hG, -, hR, hL⟩ := h
  refine ⟨?_, hU, fun b hb => ?_, ?_⟩
  · obtain ⟨a1, a2, a3, a4⟩ := hG
    unfold rG
    simp only [hS 4 _ _ (show 4 ≠ g by omega), h0, hT 21 (by omega)]
    exact ⟨fun k hk => by rw [hT k (by omega)]; exact a1 k hk, fun k hk => by rw [hT (5 + k) (by omega)]; exact a2 k hk, fun k hk => by rw [hT (13 + k) (by omega)]; exact a3 k hk, a4⟩
  · by_cases hbg : b = g
    · subst hbg; exact hC
    · exact rCr_fr (hR b hb) (fun i k => hS b i k hbg) (fun w hw => hT _ (by omega)) (by rw [hS 4 _ _ (by omega)]; exact Nat.le_refl _) (Nat.le_refl _)
  · exact rL_fr hL (fun i k _ => hS 4 i k (by omega)) (fun k hk => hT k (by omega)) (hT 21 (by omega)) (h0 8)
/-- the machine's own has changed -/
theorem rel_mach {S S' T T' : St} {m N N' : Nat} {A A' : Int32} (h : rel S m T N A) (hS : ∀ g i k, g < 4 → S' m g i k = S m g i k) (hS4 : ∀ i k, 4 ≤ i → S' m 4 i k = S m 4 i k) (hT : ∀ k, 22 ≤ k → T' 7 0 1 k = T 7 0 1 k) (h21 : T' 7 0 1 21 = T 7 0 1 21) (h8 : T' 7 0 0 8 = T 7 0 0 8) (hcc : S' m 4 0 4 = S m 4 0 4) (hB : (S m 4 0 6).toNatClampNeg ≤ (S' m 4 0 6).toNatClampNeg) (hN : N ≤ N') (hG : rG S' m T' N' A') : rel S' m T' N' A' := by
  obtain ⟨-, hU, hR, hL⟩ := h
  refine ⟨hG, ?_, fun b hb => ?_, ?_⟩
  · have e : pCC S' m = pCC S m := by show (S' m 4 0 4).toNatClampNeg = _; rw [hcc]
    have hc4 : pCC S m ≤ 4 := by rw [← e]; exact hG.2.2.2.1.2
    intro j hj g hg b hb hgb
    rw [e] at hg hb
    rw [hS g _ _ (by omega), hS b _ _ (by omega)]
    exact hU j hj g hg b hb hgb
  · exact rCr_fr (hR b hb) (fun i k => hS b i k hb) (fun w hw => hT _ (by omega)) hB hN
  · exact rL_fr hL hS4 (fun k hk => hT k (by omega)) h21 h8
/-- loops side by side -/
theorem lp_rel {σ τ : Type} (f : Nat → σ → σ) (g : Nat → τ → τ) (P : Nat → σ → τ → Prop) (N : Nat) (h : ∀ k S T, k < N → P k S T → P (k + 1) (f k S) (g k T)) : ∀ (n k : Nat) (S : σ) (T : τ), k + n ≤ N → P k S T → P (k + n) (lp f n k S) (lp g n k T)
  | 0, _, _, _, _, hP => hP
  | n + 1, k, S, T, hk, hP => by
    have := lp_rel f g P N h n (k + 1) (f k S) (g k T) (by omega) (h k S T (by omega) hP)
    rw [show k + (n + 1) = k + 1 + n by omega]
    exact this
theorem lp_at {σ : Type} (f : Nat → σ → σ) (P : Nat → σ → Prop) (N : Nat) (h : ∀ k S, k < N → P k S → P (k + 1) (f k S)) : ∀ (n k : Nat) (S : σ), k + n ≤ N → P k S → P (k + n) (lp f n k S)
  | 0, _, _, _, hP => hP
  | n + 1, k, S, hk, hP => by
    have := lp_at f P N h n (k + 1) (f k S) (by omega) (h k S (by omega) hP)
    rw [show k + (n + 1) = k + 1 + n by omega]
    exact this
theorem lpE_rel {σ τ : Type} (f : Nat → σ → Bool × σ) (g : Nat → τ → Bool × τ) (P : Nat → σ → τ → Prop) (B : σ → τ → Prop) (N : Nat) (h : ∀ k S T, k < N → P k S T → ((f k S).1 = true ∧ (g k T).1 = true ∧ P (k + 1) (f k S).2 (g k T).2) ∨ ((f k S).1 = false ∧ (g k T).1 = false ∧ B (f k S).2 (g k T).2)) : ∀ (n k : Nat) (S : σ) (T : τ), k + n ≤ N → P k S T → ((lpE f n k S).1 = true ∧ (lpE g n k T).1 = true ∧ P (k + n) (lpE f n k S).2 (lpE g n k T).2) ∨ ((lpE f n k S).1 = false ∧ (lpE g n k T).1 = false ∧ B (lpE f n k S).2 (lpE g n k T).2)
  | 0, _, _, _, _, hP => Or.inl ⟨rfl, rfl, hP⟩
  | n + 1, k, S, T, hk, hP => by
    rw [lpE, lpE]
    rcases h k S T (by omega) hP with ⟨h1, h2, h3⟩ | ⟨h1, h2, h3⟩
    · rw [if_pos h1, if_pos h2, show k + (n + 1) = k + 1 + n by omega]
      exact lpE_rel f g P B N h n (k + 1) _ _ (by omega) h3
    · rw [if_neg (by rw [h1]; decide), if_neg (by rw [h2]; decide)]
      exact Or.inr ⟨rfl, rfl, h3⟩

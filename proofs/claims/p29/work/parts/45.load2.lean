/-! an instruction, the whole text, load -/
theorem rAllL_s (n : Nat) (V : St) : rAllL (n + 1) V = if rTL V ≤ rRd V then (true, V) else thn n (rIns V) := rfl
theorem rIns_s (V : St) : rIns V = if rIs V = 30 then (false, V) else if rKnown (rHere V) = true then (if (rInsB V).1 = true then endI (rInsB V).2 else (false, (rInsB V).2)) else (false, V) := rfl
theorem thn_f (n : Nat) (V : St) : thn n (false, V) = (false, V) := if_neg (nt rfl)
theorem BS_insA {b p i : Nat} {tx : Nat → Int32} {U V : St} (h : BS b tx U V p i) (hp : p < b) : BS b tx U (rInsA V) (p + 1) i ∧ rInsA V 7 0 7 (2 * i) = tx p ∧ rInsA V 7 0 7 (2 * i + 1) = 0 := by
  have e := BS_is h
  unfold rInsA
  rw [e, (BS_here h).1 hp]
  exact ⟨BS_D (BS_D (BS_adv h hp) (by omega)) (by omega), by simp (disch := omega) only [sF_eq, sF_ne], by simp (disch := omega) only [sF_eq, sF_ne]⟩
theorem num_thn {V V2 : St} {neg : Bool} {i n : Nat} (hI : rIs V = i) (h : rTake V 45 = (neg, V2)) : thn n (if (rNum V).1 = true then endI (rNum V).2 else (false, (rNum V).2)) = numT i neg n (rNumL 3 0 V2 0) := by
  have e1 : (rTake V 45).1 = neg := by rw [h]
  have e2 : (rTake V 45).2 = V2 := by rw [h]
  unfold rNum rNumR numT
  rw [hI, e1, e2]
  by_cases z : 0 < (rNumL 3 0 V2 0).1
  · rw [if_pos z, if_pos (decide_eq_true z)]
  · rw [if_neg z, if_neg (nt (decide_eq_false z)), thn_f]
def clr3 (U : St) : St := setF (setF (setF U 6 0 2 3 0) 6 0 2 4 0) 6 0 2 5 0
theorem num_ph {b p i n : Nat} {tx : Nat → Int32} {U V : St} (hB : BS b tx U V p i) (hp : p < b) (hi : i < 30) (hx : tx p = 97) (IH : IHt b tx n p i) : OUT b (lpE pRdF (b - (p + 1)) (p + 1) (pExpect (clr3 U) 4 2, 0)) (thn n (if (rNum (rInsA V)).1 = true then endI (rNum (rInsA V)).2 else (false, (rNum (rInsA V)).2))) := by
  obtain ⟨B1, d1, d2⟩ := BS_insA hB hp
  have B2 : BS b tx (pExpect (clr3 U) 4 2) (rInsA V) (p + 1) i := BS_U B1 (fun q k hq => by unfold pExpect clr3; simp (disch := omega) only [sF_eq, sF_ne])
  obtain ⟨e1, e2⟩ := BS_here B2
  have f1 : pExpect (clr3 U) 4 2 6 0 2 1 = 2 := by unfold pExpect clr3; simp (disch := omega) only [sF_eq, sF_ne]
  have f2 : pExpect (clr3 U) 4 2 6 0 2 2 = 4 := by unfold pExpect clr3; simp (disch := omega) only [sF_eq, sF_ne]
  have f3 : pExpect (clr3 U) 4 2 6 0 2 3 = 0 := by unfold pExpect clr3; simp (disch := omega) only [sF_eq, sF_ne]
  have f4 : pExpect (clr3 U) 4 2 6 0 2 4 = 0 := by unfold pExpect clr3; simp (disch := omega) only [sF_eq, sF_ne]
  have f5 : pExpect (clr3 U) 4 2 6 0 2 5 = 0 := by unfold pExpect clr3; simp (disch := omega) only [sF_eq, sF_ne]
  generalize pExpect (clr3 U) 4 2 = U1 at *
  generalize rInsA V = V1 at *
  have ei := BS_is B2
  by_cases hm : p + 1 < b ∧ tx (p + 1) = 45
  · obtain ⟨h1, h2⟩ := hm
    have hT : rTake V1 45 = (true, rAdv V1) := by unfold rTake; rw [e1 h1, if_pos h2]
    have hA : pAcc U1 (tx (p + 1)) 2 = (true, setF (setF U1 6 0 2 5 1) 6 0 2 1 3) := by
      have e : pAcMin U1 (tx (p + 1)) = (true, setF (setF U1 6 0 2 5 1) 6 0 2 1 3) := by unfold pAcMin; rw [if_pos h2]
      show (if (pAcMin U1 (tx (p + 1))).1 = true then (true, (pAcMin U1 (tx (p + 1))).2) else _) = _
      rw [e, if_pos rfl]
    rw [num_thn ei hT, cs_at B2 h1 (w := 2) (by rw [f1]; decide), hA, if_pos rfl]
    refine dig_ph hi IH 3 0 (p + 1 + 1) _ (rAdv V1) 0 rfl (BS_U (BS_adv B2 h1) (fun q k hq => by simp (disch := omega) only [sF_eq, sF_ne])) (by omega) (by simp (disch := omega) only [sF_eq, sF_ne]; exact f2) (by simp (disch := omega) only [sF_eq, sF_ne]; exact f3) (by simp (disch := omega) only [sF_eq, sF_ne]; exact f4) (by simp (disch := omega) only [sF_eq, sF_ne]; rfl) (by rw [rAdv_i V1 (by omega), d1]; exact hx) (Or.inl ⟨rfl, Or.inl (by simp (disch := omega) only [sF_eq, sF_ne])⟩)
  · have hT : rTake V1 45 = (false, V1) := by
      unfold rTake
      by_cases h1 : p + 1 < b
      · rw [e1 h1, if_neg (fun z => hm ⟨h1, z⟩), rSty_id]
      · rw [e2 (by have := B2.2.2.2.1; omega), if_neg (show ¬ (-1 : Int32) = 45 by decide), rSty_id]
    rw [num_thn ei hT]
    exact dig_ph hi IH 3 0 (p + 1) U1 V1 0 rfl B2 (by omega) f2 f3 f4 f5 (d1.trans hx) (Or.inl ⟨rfl, Or.inr ⟨f1, fun z q => hm ⟨z, q⟩⟩⟩)
theorem line_ph {b p i n k : Nat} {tx : Nat → Int32} {U V : St} (hB : BS b tx U V p i) (hp : p < b) (hi : i < 30) (hk : k = 2 ∨ k = 3) (hx : tx p = kd (nI k)) (IH : IHt b tx n p i) : OUT b (lpE pRdF (b - (p + 1)) (p + 1) (pExpect (clr3 U) (nI k) 1, 0)) (thn n (if (rLine (rInsA V)).1 = true then endI (rLine (rInsA V)).2 else (false, (rLine (rInsA V)).2))) := by
  obtain ⟨B1, d1, d2⟩ := BS_insA hB hp
  have B2 : BS b tx (pExpect (clr3 U) (nI k) 1) (rInsA V) (p + 1) i := BS_U B1 (fun q k hq => by unfold pExpect clr3; simp (disch := omega) only [sF_eq, sF_ne])
  obtain ⟨e1, e2⟩ := BS_here B2
  have f1 : pExpect (clr3 U) (nI k) 1 6 0 2 1 = 1 := by unfold pExpect clr3; simp (disch := omega) only [sF_eq, sF_ne]
  have f2 : pExpect (clr3 U) (nI k) 1 6 0 2 2 = nI k := by unfold pExpect clr3; simp (disch := omega) only [sF_eq, sF_ne]
  have f5 : pExpect (clr3 U) (nI k) 1 6 0 2 5 = 0 := by unfold pExpect clr3; simp (disch := omega) only [sF_eq, sF_ne]
  generalize pExpect (clr3 U) (nI k) 1 = U1 at *
  generalize rInsA V = V1 at *
  have ei := BS_is B2
  have eD : setF V1 7 0 7 (2 * i + 1) 0 = V1 := setF_self d2
  by_cases h1 : p + 1 < b
  · rw [cs_at B2 h1 (w := 1) (by rw [f1]; decide)]
    have eA : pAcc U1 (tx (p + 1)) 1 = pAcLine U1 (tx (p + 1)) := rfl
    rw [eA]
    unfold rLine pAcLine
    rw [e1 h1, ei, line_48]
    by_cases hr : rIn (tx (p + 1)) 48 55 = true
    · rw [if_pos hr, if_pos hr, if_pos rfl, if_pos rfl]
      have eop : opOf (setF (setF U1 6 0 2 3 (tx (p + 1) - 48)) 6 0 2 1 5) = tx (p + 1) - 48 := by
        unfold opOf; simp (disch := omega) only [sF_eq, sF_ne]; rw [f5, if_pos rfl]
      have o7 : okI (tx (p + 1) - 48) 7 := by
        rcases line_in (tx (p + 1) - 48) with ⟨j, q1, q2, -⟩ | ⟨q1, -⟩
        · rw [q2]; exact okI_nI (by omega) (by omega)
        · rw [line_48, hr] at q1; exact absurd q1 (by decide)
      refine end_ph (p0 := p) (BS_U (BS_adv (BS_D B2 (k := 2 * i + 1) (by omega)) h1) (fun q k hq => by simp (disch := omega) only [sF_eq, sF_ne])) hi (Or.inl (by simp (disch := omega) only [sF_eq, sF_ne])) ?_ (by simp (disch := omega) only [sF_eq, sF_ne]; rw [f2]; exact okI_nI (by omega) (by omega)) ?_ (fun _ => by rw [eop]; exact o7) (by omega) IH
      · dsimp only
        rw [rAdv_i _ (by omega)]
        simp (disch := omega) only [sF_eq, sF_ne]
        rw [d1, f2]; exact hx
      · dsimp only
        rw [rAdv_i _ (by omega), eop, sF_eq (by omega)]
    · rw [if_neg hr, if_neg hr, if_neg (show ¬ (false, U1).1 = true from nt rfl), if_neg (show ¬ (false, rSty (setF V1 7 0 7 (2 * i + 1) 0)).1 = true from nt rfl), thn_f, eD, rSty_id]
      exact out_err B2
  · have hpb : p + 1 = b := by have := B2.2.2.2.1; omega
    have hL : rLine V1 = (false, V1) := by
      unfold rLine
      rw [e2 hpb, ei, if_neg (show ¬ rIn (-1) 48 55 = true by decide), eD, rSty_id]
    rw [hL, if_neg (show ¬ (false, V1).1 = true from nt rfl), thn_f]
    exact out_end B2 hpb (by rw [f1]; decide)
theorem bare_ph {b p i n k : Nat} {tx : Nat → Int32} {U V : St} (hB : BS b tx U V p i) (hp : p < b) (hi : i < 30) (hk : k = 0 ∨ k = 1) (hx : tx p = kd (nI k)) (IH : IHt b tx n p i) : OUT b (lpE pRdF (b - (p + 1)) (p + 1) (pExpect (clr3 U) (nI k) 5, 0)) (thn n (endI (rInsA V))) := by
  obtain ⟨B1, d1, d2⟩ := BS_insA hB hp
  have B2 : BS b tx (pExpect (clr3 U) (nI k) 5) (rInsA V) (p + 1) i := BS_U B1 (fun q k hq => by unfold pExpect clr3; simp (disch := omega) only [sF_eq, sF_ne])
  have f1 : pExpect (clr3 U) (nI k) 5 6 0 2 1 = 5 := by unfold pExpect clr3; simp (disch := omega) only [sF_eq, sF_ne]
  have f2 : pExpect (clr3 U) (nI k) 5 6 0 2 2 = nI k := by unfold pExpect clr3; simp (disch := omega) only [sF_eq, sF_ne]
  have f3 : pExpect (clr3 U) (nI k) 5 6 0 2 3 = 0 := by unfold pExpect clr3; simp (disch := omega) only [sF_eq, sF_ne]
  have f5 : pExpect (clr3 U) (nI k) 5 6 0 2 5 = 0 := by unfold pExpect clr3; simp (disch := omega) only [sF_eq, sF_ne]
  refine end_ph (p0 := p) B2 hi (Or.inl f1) (by rw [d1, f2]; exact hx) (by rw [f2]; exact okI_nI (by omega) (by omega)) (by rw [d2]; unfold opOf; rw [f5, if_pos rfl, f3]) (fun z => ?_) (by omega) IH
  rw [f2] at z
  rcases hk with rfl | rfl
  · rcases z with z | z <;> exact absurd z (by decide)
  · rcases z with z | z <;> exact absurd z (by decide)
theorem read_main {b : Nat} {tx : Nat → Int32} : ∀ (n p i : Nat) (U V : St), b - p ≤ n → BS b tx U V p i → U 6 0 2 1 = 0 → OUT b (lpE pRdF (b - p) p (U, 0)) (rAllL n V)
  | 0, p, i, U, V, hn, hB, hw => by
    have hpb : p = b := by have := hB.2.2.2.1; omega
    rw [cs_end hpb]
    exact Or.inl ⟨rfl, hw, rfl, i, hB.2.2.2.2.2.2.1, hB.2.2.2.2.2.2.2.1, hB.2.2.2.2.2.1, hB.2.2.2.2.2.2.2.2⟩
  | n + 1, p, i, U, V, hn, hB, hw => by
    have IH : IHt b tx n p i := fun p' U' V' hp' hB' hw' => read_main n p' (i + 1) U' V' (by omega) hB' hw'
    have e1 : rTL V = b := by show (V 7 0 0 7).toNatClampNeg = b; rw [hB.2.1]; exact nI_clamp (by have := hB.2.2.2.2.1; omega)
    have e2 : rRd V = p := by show (V 7 0 0 10).toNatClampNeg = p; rw [hB.2.2.1]; exact nI_clamp (by have := hB.2.2.2.2.1; have := hB.2.2.2.1; omega)
    rw [rAllL_s, e1, e2]
    by_cases hp : p < b
    · rw [if_neg (by omega), rIns_s, BS_is hB, (BS_here hB).1 hp, cs_at hB hp (w := 0) (by rw [hw]; decide)]
      have eA : pAcc U (tx p) 0 = pAcIns U (tx p) := rfl
      rw [eA]
      have h3 : U 6 0 3 2 = nI i := hB.2.2.2.2.2.2.2.1
      have hi30 : i ≤ 30 := hB.2.2.2.2.2.2.1
      by_cases hi : i = 30
      · have hF : pFull U 6 0 = true := by
          unfold pFull; rw [h3, hi]; decide
        unfold pAcIns
        rw [if_pos hF, if_neg (show ¬ (false, U).1 = true from nt rfl), if_pos hi, thn_f]
        exact out_err hB
      · have hF : ¬ pFull U 6 0 = true := by
          unfold pFull; rw [h3, decide_eq_true (show nI i < 30 from nI_lt (b := 30) (by omega) (by omega))]; decide
        have hI : pAcIns U (tx p) = if tx p = 97 then (true, pExpect (clr3 U) 4 2) else if tx p = 98 then (true, pExpect (clr3 U) 0 5) else if tx p = 99 then (true, pExpect (clr3 U) 1 5) else if tx p = 114 then (true, pExpect (clr3 U) 2 1) else if tx p = 119 then (true, pExpect (clr3 U) 3 1) else (false, clr3 U) := by
          unfold pAcIns; rw [if_neg hF]; rfl
        rw [hI, if_neg hi]
        have hBi : rInsB V = if tx p = 98 then (true, rInsA V) else if tx p = 99 then (true, rInsA V) else if tx p = 97 then rNum (rInsA V) else rLine (rInsA V) := by
          unfold rInsB; rw [(BS_here hB).1 hp]
        by_cases x97 : tx p = 97
        · have hKn : rKnown (tx p) = true := by rw [x97]; decide
          have hB2 : rInsB V = rNum (rInsA V) := by rw [hBi, if_neg (by rw [x97]; decide), if_neg (by rw [x97]; decide), if_pos x97]
          rw [if_pos x97, if_pos rfl, if_pos hKn, hB2]
          exact num_ph hB hp (by omega) x97 IH
        · rw [if_neg x97]
          by_cases x98 : tx p = 98
          · have hKn : rKnown (tx p) = true := by rw [x98]; decide
            have hB2 : rInsB V = (true, rInsA V) := by rw [hBi, if_pos x98]
            rw [if_pos x98, if_pos rfl, if_pos hKn, hB2, if_pos rfl]
            exact bare_ph (k := 0) hB hp (by omega) (Or.inl rfl) (by rw [x98]; decide) IH
          · rw [if_neg x98]
            by_cases x99 : tx p = 99
            · have hKn : rKnown (tx p) = true := by rw [x99]; decide
              have hB2 : rInsB V = (true, rInsA V) := by rw [hBi, if_neg x98, if_pos x99]
              rw [if_pos x99, if_pos rfl, if_pos hKn, hB2, if_pos rfl]
              exact bare_ph (k := 1) hB hp (by omega) (Or.inr rfl) (by rw [x99]; decide) IH
            · rw [if_neg x99]
              have hB2 : rInsB V = rLine (rInsA V) := by rw [hBi, if_neg x98, if_neg x99, if_neg x97]
              by_cases x114 : tx p = 114
              · have hKn : rKnown (tx p) = true := by rw [x114]; decide
                rw [if_pos x114, if_pos rfl, if_pos hKn, hB2]
                exact line_ph (k := 2) hB hp (by omega) (Or.inl rfl) (by rw [x114]; decide) IH
              · rw [if_neg x114]
                by_cases x119 : tx p = 119
                · have hKn : rKnown (tx p) = true := by rw [x119]; decide
                  rw [if_pos x119, if_pos rfl, if_pos hKn, hB2]
                  exact line_ph (k := 3) hB hp (by omega) (Or.inr rfl) (by rw [x119]; decide) IH
                · have hKn : rKnown (tx p) = false := by
                    unfold rKnown
                    rw [decide_eq_false x98, decide_eq_false x99, decide_eq_false x114, decide_eq_false x119, decide_eq_false x97]; rfl
                  rw [if_neg x119, if_neg (show ¬ (false, clr3 U).1 = true from nt rfl), if_neg (nt hKn), thn_f]
                  exact out_err hB
    · have hpb : p = b := by have := hB.2.2.2.1; omega
      rw [if_pos (by omega), cs_end hpb]
      exact Or.inl ⟨rfl, hw, rfl, i, hB.2.2.2.2.2.2.1, hB.2.2.2.2.2.2.2.1, hB.2.2.2.2.2.1, hB.2.2.2.2.2.2.2.2⟩
theorem read_ok {S V : St} (ht : okI (S 6 0 0 1) 120) (h7 : V 7 0 0 7 = S 6 0 0 1) (hx : ∀ k, k < pTL S → S 6 0 1 k = V 7 0 6 k) :
    ((pRdT S (pTL S)).1 = -1 ∧ (rAll V).1 = true ∧ ∃ i, i ≤ 30 ∧ (pRdT S (pTL S)).2 6 0 3 2 = nI i ∧ (rAll V).2 7 0 0 11 = nI i ∧ prog (pRdT S (pTL S)).2 (rAll V).2 i) ∨ (¬ (pRdT S (pTL S)).1 = -1 ∧ (rAll V).1 = false ∧ (pRdT S (pTL S)).1 = (rAll V).2 7 0 0 10) := by
  have hb : pTL S ≤ 120 := ht.2
  have eb : S 6 0 0 1 = nI (pTL S) := ht.1
  have hB : BS (pTL S) (S 6 0 1) (setF (setF S 6 0 3 2 0) 6 0 2 1 0) (setF (setF V 7 0 0 10 0) 7 0 0 11 0) 0 0 := ⟨fun q hq => ⟨by simp (disch := omega) only [sF_eq, sF_ne], by simp (disch := omega) only [sF_eq, sF_ne]; exact (hx q hq).symm⟩, by simp (disch := omega) only [sF_eq, sF_ne]; rw [h7, eb], by simp (disch := omega) only [sF_eq, sF_ne]; rfl, by omega, hb, by simp (disch := omega) only [sF_eq, sF_ne]; rfl, by omega, by simp (disch := omega) only [sF_eq, sF_ne]; rfl, fun q hq => absurd hq (Nat.not_lt_zero _)⟩
  have key := read_main 120 0 0 _ _ (by omega) hB (by simp (disch := omega) only [sF_eq, sF_ne])
  rw [Nat.sub_zero] at key
  have eL : lpE pRdF (pTL S) 0 (setF (setF S 6 0 3 2 0) 6 0 2 1 0, 0) = pRdL S (pTL S) := rfl
  have eR : rAllL 120 (setF (setF V 7 0 0 10 0) 7 0 0 11 0) = rAll V := rfl
  rw [eL, eR] at key
  unfold pRdT
  rcases key with ⟨k1, k2, k3, k4⟩ | ⟨k1, e, k2, k3, ⟨k4, k5⟩ | ⟨k4, k5, k6⟩⟩
  · rw [if_pos k1]
    dsimp only
    rw [if_pos k2]
    exact Or.inl ⟨rfl, k3, k4⟩
  · rw [if_neg (nt k4)]
    dsimp only
    rw [k5]
    exact Or.inr ⟨nI_nm1 (by omega), k1, k3.symm⟩
  · rw [if_pos k4]
    dsimp only
    rw [if_neg k5]
    subst k6
    exact Or.inr ⟨nI_nm1 (by omega), k1, k3.symm⟩

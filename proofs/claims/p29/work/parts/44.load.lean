/-! the two readers -/
def prog (U V : St) (i : Nat) : Prop := ∀ q, q < i → V 7 0 7 (2 * q) = kd (U 6 0 4 q) ∧ okI (U 6 0 4 q) 4 ∧ U 6 0 5 q = V 7 0 7 (2 * q + 1) ∧ (U 6 0 4 q = 2 ∨ U 6 0 4 q = 3 → okI (U 6 0 5 q) 7)
/-- between two characters: p read, i instructions -/
def BS (b : Nat) (tx : Nat → Int32) (U V : St) (p i : Nat) : Prop := (∀ q, q < b → U 6 0 1 q = tx q ∧ V 7 0 6 q = tx q) ∧ V 7 0 0 7 = nI b ∧ V 7 0 0 10 = nI p ∧ p ≤ b ∧ b ≤ 120 ∧ V 7 0 0 11 = nI i ∧ i ≤ 30 ∧ U 6 0 3 2 = nI i ∧ prog U V i
def OUT (b : Nat) (r : Bool × St × Int32) (s : Bool × St) : Prop :=
  (r.1 = true ∧ r.2.1 6 0 2 1 = 0 ∧ s.1 = true ∧ ∃ i, i ≤ 30 ∧ r.2.1 6 0 3 2 = nI i ∧ s.2 7 0 0 11 = nI i ∧ prog r.2.1 s.2 i) ∨
  (s.1 = false ∧ ∃ e, e ≤ b ∧ s.2 7 0 0 10 = nI e ∧ ((r.1 = false ∧ r.2.2 = nI e) ∨ (r.1 = true ∧ ¬ r.2.1 6 0 2 1 = 0 ∧ e = b)))
theorem BS_here {b p i : Nat} {tx : Nat → Int32} {U V : St} (h : BS b tx U V p i) : (p < b → rHere V = tx p) ∧ (p = b → rHere V = -1) := by
  obtain ⟨h1, h2, h3, h4, h5, -⟩ := h
  have e1 : rTL V = b := by show (V 7 0 0 7).toNatClampNeg = b; rw [h2]; exact nI_clamp (by omega)
  have e2 : rRd V = p := by show (V 7 0 0 10).toNatClampNeg = p; rw [h3]; exact nI_clamp (by omega)
  unfold rHere
  rw [e1, e2]
  exact ⟨fun z => by rw [if_neg (by omega)]; exact (h1 p z).2, fun z => by rw [if_pos (by omega)]⟩
theorem BS_adv {b p i : Nat} {tx : Nat → Int32} {U V : St} (h : BS b tx U V p i) (hp : p < b) : BS b tx U (rAdv V) (p + 1) i := by
  obtain ⟨h1, h2, h3, h4, h5, h6, h7, h8, h9⟩ := h
  refine ⟨fun q hq => ⟨(h1 q hq).1, by rw [rAdv_i V (by omega)]; exact (h1 q hq).2⟩, by rw [rAdv_f V (by omega)]; exact h2, by rw [rAdv_10, h3, nI_1], by omega, h5, by rw [rAdv_f V (by omega)]; exact h6, h7, h8, fun q hq => ?_⟩
  rw [rAdv_i V (by omega)]; exact h9 q hq
theorem BS_sty {b p i : Nat} {tx : Nat → Int32} {U V : St} (h : BS b tx U V p i) : BS b tx U (rSty V) p i := by
  have e : rSty V = V := setF_self (by rw [Int32.add_zero])
  rw [e]; exact h
theorem rSty_id (V : St) : rSty V = V := setF_self (by rw [Int32.add_zero])
theorem BS_U {b p i : Nat} {tx : Nat → Int32} {U U' V : St} (h : BS b tx U V p i) (e : ∀ q k, q ≠ 2 → U' 6 0 q k = U 6 0 q k) : BS b tx U' V p i := by
  obtain ⟨h1, h2, h3, h4, h5, h6, h7, h8, h9⟩ := h
  refine ⟨fun q hq => ⟨by rw [e 1 q (by omega)]; exact (h1 q hq).1, (h1 q hq).2⟩, h2, h3, h4, h5, h6, h7, by rw [e 3 2 (by omega)]; exact h8, fun q hq => ?_⟩
  rw [e 4 q (by omega), e 5 q (by omega)]; exact h9 q hq
theorem BS_D {b p i k : Nat} {tx : Nat → Int32} {U V : St} {v : Int32} (h : BS b tx U V p i) (hk : 2 * i ≤ k) : BS b tx U (setF V 7 0 7 k v) p i := by
  obtain ⟨h1, h2, h3, h4, h5, h6, h7, h8, h9⟩ := h
  refine ⟨fun q hq => ⟨(h1 q hq).1, by simp (disch := omega) only [sF_eq, sF_ne]; exact (h1 q hq).2⟩, by simp (disch := omega) only [sF_eq, sF_ne]; exact h2, by simp (disch := omega) only [sF_eq, sF_ne]; exact h3, h4, h5, by simp (disch := omega) only [sF_eq, sF_ne]; exact h6, h7, h8, fun q hq => ?_⟩
  simp (disch := omega) only [sF_eq, sF_ne]; exact h9 q hq
theorem BS_is {b p i : Nat} {tx : Nat → Int32} {U V : St} (h : BS b tx U V p i) : rIs V = i := by
  obtain ⟨h1, h2, h3, h4, h5, h6, h7, h8, h9⟩ := h
  show (V 7 0 0 11).toNatClampNeg = i
  rw [h6]; exact nI_clamp (by omega)
/-- a character of the class's reader -/
theorem cs_at {b p w i : Nat} {tx : Nat → Int32} {U V : St} (h : BS b tx U V p i) (hp : p < b) (hw : (U 6 0 2 1).toNatClampNeg = w) : lpE pRdF (b - p) p (U, 0) = if (pAcc U (tx p) w).1 = true then lpE pRdF (b - (p + 1)) (p + 1) ((pAcc U (tx p) w).2, 0) else (false, (pAcc U (tx p) w).2, nI p) := by
  rw [show b - p = (b - (p + 1)) + 1 by omega, lpE]
  have e : pRdF p (U, 0) = if (pAcc U (tx p) w).1 = true then (true, (pAcc U (tx p) w).2, 0) else (false, (pAcc U (tx p) w).2, nI p) := by
    unfold pRdF
    simp only [(h.1 p hp).1, hw]
  rw [e]
  by_cases z : (pAcc U (tx p) w).1 = true
  · rw [if_pos z, if_pos z]
    exact if_pos rfl
  · rw [if_neg z, if_neg z]
    exact if_neg (nt rfl)
theorem cs_end {b p : Nat} {U : St} (hp : p = b) : lpE pRdF (b - p) p (U, 0) = (true, U, 0) := by
  subst hp; rw [Nat.sub_self]; rfl
/-- an error of both at p -/
theorem out_err {b p i : Nat} {tx : Nat → Int32} {U U' V : St} (h : BS b tx U V p i) : OUT b (false, U', nI p) (false, V) := Or.inr ⟨rfl, p, h.2.2.2.1, h.2.2.1, Or.inl ⟨rfl, rfl⟩⟩
theorem out_end {b p i : Nat} {tx : Nat → Int32} {U V : St} (h : BS b tx U V p i) (hp : p = b) (hw : ¬ U 6 0 2 1 = 0) : OUT b (lpE pRdF (b - p) p (U, 0)) (false, V) := by
  rw [cs_end hp]
  exact Or.inr ⟨rfl, p, h.2.2.2.1, h.2.2.1, Or.inr ⟨rfl, hw, hp⟩⟩
def thn (n : Nat) (t : Bool × St) : Bool × St := if t.1 = true then rAllL n t.2 else (false, t.2)
def endI (V : St) : Bool × St := if (rTake V 59).1 = true then rInsC (rTake V 59).2 else (false, (rTake V 59).2)
def opOf (U : St) : Int32 := if U 6 0 2 5 = 0 then U 6 0 2 3 else - U 6 0 2 3
theorem acc5 (U : St) (x : Int32) : pAcc U x 5 = pAcEnd U x := rfl
theorem acc4 {U : St} {x : Int32} (h : (pAcDig U x).1 = false) : pAcc U x 4 = pAcEnd U x := by
  have e : (pAcDig U x).2 = U := by
    unfold pAcDig at *
    by_cases h1 : x < 48
    · rw [if_pos h1]
    · rw [if_neg h1] at h ⊢
      by_cases h2 : x ≤ 57
      · rw [if_pos h2] at h; exact absurd (show true = false from h) (by decide)
      · rw [if_neg h2]
  show (if (pAcDig U x).1 = true then _ else _) = _
  rw [if_neg (nt h), e]
abbrev IHt (b : Nat) (tx : Nat → Int32) (n p0 i : Nat) : Prop := ∀ (p' : Nat) (U' V' : St), p0 < p' → BS b tx U' V' p' (i + 1) → U' 6 0 2 1 = 0 → OUT b (lpE pRdF (b - p') p' (U', 0)) (rAllL n V')
theorem end_ph {b p i n p0 : Nat} {tx : Nat → Int32} {U V : St} (hB : BS b tx U V p i) (hi : i < 30) (hw : U 6 0 2 1 = 5 ∨ (U 6 0 2 1 = 4 ∧ (p < b → (pAcDig U (tx p)).1 = false))) (hk : V 7 0 7 (2 * i) = kd (U 6 0 2 2)) (ok : okI (U 6 0 2 2) 4) (ho : V 7 0 7 (2 * i + 1) = opOf U) (hl : U 6 0 2 2 = 2 ∨ U 6 0 2 2 = 3 → okI (opOf U) 7) (hp0 : p0 ≤ p) (IH : IHt b tx n p0 i) : OUT b (lpE pRdF (b - p) p (U, 0)) (thn n (endI V)) := by
  obtain ⟨e1, e2⟩ := BS_here hB
  have hwn : ¬ U 6 0 2 1 = 0 := by rcases hw with z | ⟨z, -⟩ <;> rw [z] <;> decide
  by_cases hp : p < b
  · have hc : lpE pRdF (b - p) p (U, 0) = if (pAcEnd U (tx p)).1 = true then lpE pRdF (b - (p + 1)) (p + 1) ((pAcEnd U (tx p)).2, 0) else (false, (pAcEnd U (tx p)).2, nI p) := by
      rcases hw with z | ⟨z, z2⟩
      · rw [cs_at hB hp (w := 5) (by rw [z]; decide), acc5]
      · rw [cs_at hB hp (w := 4) (by rw [z]; decide), acc4 (z2 hp)]
    rw [hc]
    unfold endI rTake
    rw [e1 hp]
    by_cases h59 : tx p = 59
    · have hA : (pAcEnd U (tx p)) = (true, setF (pAddI U 6 0 (U 6 0 2 2) (opOf U)) 6 0 2 1 0) := by unfold pAcEnd; rw [if_pos h59]; rfl
      rw [hA, if_pos rfl, if_pos h59, if_pos rfl]
      obtain ⟨g1, g2, g3, g4, g5, g6, g7, g8, g9⟩ := BS_adv hB hp
      have hI : pAddI U 6 0 (U 6 0 2 2) (opOf U) = setF (setF (setF U 6 0 4 i (U 6 0 2 2)) 6 0 5 i (opOf U)) 6 0 3 2 (nI (i + 1)) := by
        unfold pAddI pFull
        rw [g8, if_neg (nI_pos (by omega)), decide_eq_true (show nI i < 30 from nI_lt (b := 30) hi (by omega)), if_neg (by decide), nI_clamp (by omega), nI_1]
      rw [hI]
      unfold thn rInsC
      rw [if_pos rfl]
      refine IH (p + 1) _ _ (by omega) ⟨fun q hq => ⟨by simp (disch := omega) only [sF_eq, sF_ne]; exact (g1 q hq).1, by simp (disch := omega) only [sF_eq, sF_ne]; exact (g1 q hq).2⟩, by simp (disch := omega) only [sF_eq, sF_ne]; exact g2, by simp (disch := omega) only [sF_eq, sF_ne]; exact g3, g4, g5, by simp (disch := omega) only [sF_eq, sF_ne]; rw [g6, nI_1], by omega, by simp (disch := omega) only [sF_eq, sF_ne], fun q hq => ?_⟩ (by simp (disch := omega) only [sF_eq, sF_ne])
      by_cases hqi : q = i
      · subst hqi
        simp (disch := omega) only [sF_eq, sF_ne]
        simp only [rAdv_i V (show 7 ≠ 0 by decide)]
        rw [hk, ho]
        exact ⟨rfl, ok, rfl, hl⟩
      · simp (disch := omega) only [sF_eq, sF_ne]; exact g9 q (by omega)
    · have hA : (pAcEnd U (tx p)) = (false, U) := by unfold pAcEnd; rw [if_neg h59]
      rw [hA, if_neg (show ¬ (false, U).1 = true from nt rfl), if_neg h59, if_neg (show ¬ (false, rSty V).1 = true from nt rfl), rSty_id]
      unfold thn
      rw [if_neg (show ¬ (false, V).1 = true from nt rfl)]
      exact out_err hB
  · have hpb : p = b := by have := hB.2.2.2.1; omega
    have hE : endI V = (false, V) := by
      unfold endI rTake
      rw [e2 hpb, if_neg (show ¬ (-1 : Int32) = 59 by decide), if_neg (show ¬ (false, rSty V).1 = true from nt rfl), rSty_id]
    unfold thn
    rw [hE, if_neg (show ¬ (false, V).1 = true from nt rfl)]
    exact out_end hB hpb hwn
theorem line_48 (x : Int32) : pIsLine (x - 48) = rIn x 48 55 := by
  rcases line_in (x - 48) with ⟨j, h1, h2, h3, -⟩ | ⟨h1, -⟩
  · have ex : x = nI (j + 48) := by
      have : x - 48 + 48 = nI j + nI 48 := by rw [h2]; rfl
      rw [Int32.sub_add_cancel, nI_add] at this
      exact this
    rw [h3, ex]
    unfold rIn
    rw [decide_eq_false (show ¬ nI (j + 48) < 48 from nI_nlt (b := 48) (by omega) (by omega)), decide_eq_false (show ¬ 55 < nI (j + 48) from nI_nlt (a := 55) (by omega) (by omega))]; rfl
  · rw [h1]
    cases hr : rIn x 48 55
    · rfl
    · exfalso
      unfold rIn at hr
      rw [Bool.and_eq_true, Bool.not_eq_true', Bool.not_eq_true', decide_eq_false_iff_not, decide_eq_false_iff_not] at hr
      obtain ⟨r1, r2⟩ := hr
      have r0 : ¬ x < 0 := fun z => r1 (Int32.lt_trans z (by decide))
      obtain ⟨q, hq, rfl⟩ := nI_of2 (M := 55) (n := 55) rfl r0 (Int32.not_lt.mp r2)
      have hq48 : 48 ≤ q := by
        rcases Nat.lt_or_ge q 48 with z | z
        · exact absurd (nI_lt (a := q) (b := 48) z (by omega) : nI q < 48) r1
        · exact z
      rw [show (48 : Int32) = nI 48 from rfl, pk_sub hq48, pIsLine_ok (by omega)] at h1
      exact absurd h1 (by decide)
theorem dig_48 (U : St) (x : Int32) : (pAcDig U x).1 = rIn x 48 57 := by
  unfold pAcDig rIn
  by_cases h1 : x < 48
  · rw [if_pos h1, decide_eq_true h1]; rfl
  · rw [if_neg h1, decide_eq_false h1]
    by_cases h2 : x ≤ 57
    · rw [if_pos h2, decide_eq_false (Int32.not_lt.mpr h2)]; rfl
    · rw [if_neg h2, decide_eq_true (Int32.not_le.mp h2)]; rfl
theorem dig_2 {U : St} {x : Int32} (h : rIn x 48 57 = true) : (pAcDig U x).2 = setF (setF (setF U 6 0 2 3 (10 * U 6 0 2 3 + (x - 48))) 6 0 2 4 (U 6 0 2 4 + 1)) 6 0 2 1 (if 3 ≤ U 6 0 2 4 + 1 then 5 else 4) := by
  rw [← dig_48 U] at h
  unfold pAcDig at *
  by_cases h1 : x < 48
  · rw [if_pos h1] at h; exact absurd (show false = true from h) (by decide)
  · rw [if_neg h1] at h ⊢
    by_cases h2 : x ≤ 57
    · rw [if_pos h2]
      dsimp only
      simp (disch := omega) only [sF_eq, sF_ne]
    · rw [if_neg h2] at h; exact absurd (show false = true from h) (by decide)
theorem acc3 (U : St) (x : Int32) : pAcc U x 3 = pAcDig U x := rfl
theorem acc2 {U : St} {x : Int32} (h : x ≠ 45) : pAcc U x 2 = pAcDig U x := by
  have e : pAcMin U x = (false, U) := by unfold pAcMin; rw [if_neg h]
  show (if (pAcMin U x).1 = true then _ else _) = _
  rw [e, if_neg (show ¬ (false, U).1 = true from nt rfl)]
theorem acc4d {U : St} {x : Int32} (h : rIn x 48 57 = true) : pAcc U x 4 = (true, (pAcDig U x).2) := by
  show (if (pAcDig U x).1 = true then _ else _) = _
  rw [if_pos (by rw [dig_48]; exact h)]
/-- what follows the number's characters -/
def numT (i : Nat) (neg : Bool) (n : Nat) (t : Nat × St × Int32) : Bool × St := if 0 < t.1 then thn n (endI (setF t.2.1 7 0 7 (2 * i + 1) (if neg = true then - t.2.2 else t.2.2))) else (false, setF t.2.1 7 0 7 (2 * i + 1) (if neg = true then - t.2.2 else t.2.2))
theorem dig_ph {b i n p0 : Nat} {tx : Nat → Int32} {neg : Bool} (hi : i < 30) (IH : IHt b tx n p0 i) : ∀ (f d p : Nat) (U V : St) (v : Int32), d + f = 3 → BS b tx U V p i → p0 ≤ p → U 6 0 2 2 = 4 → U 6 0 2 3 = v → U 6 0 2 4 = nI d → U 6 0 2 5 = bI neg → V 7 0 7 (2 * i) = 97 →
    ((d = 0 ∧ (U 6 0 2 1 = 3 ∨ (U 6 0 2 1 = 2 ∧ (p < b → tx p ≠ 45)))) ∨ (0 < d ∧ d < 3 ∧ U 6 0 2 1 = 4) ∨ (d = 3 ∧ U 6 0 2 1 = 5)) → OUT b (lpE pRdF (b - p) p (U, 0)) (numT i neg n (rNumL f d V v))
  | f, d, p, U, V, v, hdf, hB, hp0, hk, hv, hd, hg, ha, hw => by
    obtain ⟨e1, e2⟩ := BS_here hB
    have eop : opOf U = if neg = true then - v else v := by
      unfold opOf
      rw [hg, hv]
      cases neg
      · rw [if_pos (show bI false = 0 from rfl), if_neg (show ¬ false = true by decide)]
      · rw [if_neg (show ¬ bI true = 0 by decide), if_pos (show true = true from rfl)]
    have stop : 0 < d → (U 6 0 2 1 = 5 ∨ (U 6 0 2 1 = 4 ∧ (p < b → (pAcDig U (tx p)).1 = false))) → OUT b (lpE pRdF (b - p) p (U, 0)) (numT i neg n (d, V, v)) := fun h0 hw' => by
      unfold numT
      rw [if_pos h0]
      refine end_ph (BS_D hB (k := 2 * i + 1) (by omega)) hi hw' ?_ (by rw [hk]; exact okI_lit (k := 4) (by omega) (by omega) 4 rfl) ?_ (fun z => absurd z (by rw [hk]; decide)) hp0 IH
      · simp (disch := omega) only [sF_eq, sF_ne]; rw [ha, hk]; decide
      · rw [sF_eq (by omega), eop]
    match f, hdf with
    | 0, hdf =>
      exact stop (by omega) (by
        rcases hw with ⟨z, -⟩ | ⟨-, z, -⟩ | ⟨-, z⟩
        · omega
        · omega
        · exact Or.inl z)
    | f + 1, hdf =>
      rw [rNumL_s]
      by_cases hp : p < b
      · rw [e1 hp]
        by_cases hr : rIn (tx p) 48 57 = true
        · rw [if_pos hr]
          have hc : lpE pRdF (b - p) p (U, 0) = lpE pRdF (b - (p + 1)) (p + 1) ((pAcDig U (tx p)).2, 0) := by
            have h1 : (pAcDig U (tx p)).1 = true := by rw [dig_48]; exact hr
            rcases hw with ⟨z, z2 | ⟨z2, z3⟩⟩ | ⟨-, -, z2⟩ | ⟨z, -⟩
            · rw [cs_at hB hp (w := 3) (by rw [z2]; decide), acc3, if_pos h1]
            · rw [cs_at hB hp (w := 2) (by rw [z2]; decide), acc2 (z3 hp), if_pos h1]
            · rw [cs_at hB hp (w := 4) (by rw [z2]; decide), acc4d hr, if_pos rfl]
            · omega
          rw [hc, dig_2 hr]
          refine dig_ph hi IH f (d + 1) (p + 1) _ (rAdv V) _ (by omega) (BS_U (BS_adv hB hp) (fun q k hq => by simp (disch := omega) only [sF_eq, sF_ne])) (by omega) (by simp (disch := omega) only [sF_eq, sF_ne]; exact hk) ?_ (by simp (disch := omega) only [sF_eq, sF_ne]; rw [hd, nI_1]) (by simp (disch := omega) only [sF_eq, sF_ne]; exact hg) (by rw [rAdv_i V (by omega)]; exact ha) ?_
          · simp (disch := omega) only [sF_eq, sF_ne]
            rw [hv, Int32.sub_eq_add_neg, Int32.sub_eq_add_neg, Int32.add_assoc]
          · rw [sF_eq (by omega), hd, nI_1]
            by_cases h3 : d = 2
            · subst h3; exact Or.inr (Or.inr ⟨rfl, by decide⟩)
            · exact Or.inr (Or.inl ⟨by omega, by omega, if_neg (show ¬ 3 ≤ nI (d + 1) from nI_ge (b := 3) (by omega) (by omega))⟩)
        · rw [if_neg hr]
          have h1 : (pAcDig U (tx p)).1 = false := by rw [dig_48]; exact Bool.eq_false_iff.mpr hr
          rcases hw with ⟨z, z2⟩ | ⟨z0, -, z2⟩ | ⟨z, -⟩
          · have hc : lpE pRdF (b - p) p (U, 0) = (false, (pAcDig U (tx p)).2, nI p) := by
              rcases z2 with z2 | ⟨z2, z3⟩
              · rw [cs_at hB hp (w := 3) (by rw [z2]; decide), acc3, if_neg (nt h1)]
              · rw [cs_at hB hp (w := 2) (by rw [z2]; decide), acc2 (z3 hp), if_neg (nt h1)]
            unfold numT
            rw [hc, if_neg (by show ¬ 0 < d; omega)]
            exact out_err (BS_D hB (k := 2 * i + 1) (by omega))
          · exact stop z0 (Or.inr ⟨z2, fun _ => h1⟩)
          · omega
      · have hpb : p = b := by have := hB.2.2.2.1; omega
        rw [e2 hpb, if_neg (by decide)]
        rcases hw with ⟨z, z2⟩ | ⟨z0, -, z2⟩ | ⟨z, -⟩
        · unfold numT
          rw [if_neg (by show ¬ 0 < d; omega)]
          refine out_end (BS_D hB (k := 2 * i + 1) (by omega)) hpb ?_
          rcases z2 with z2 | ⟨z2, -⟩ <;> rw [z2] <;> decide
        · exact stop z0 (Or.inr ⟨z2, fun q => absurd q hp⟩)
        · omega

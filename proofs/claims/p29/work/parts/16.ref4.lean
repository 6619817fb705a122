abbrev rRd (S : St) : Nat := (S 7 0 0 10).toNatClampNeg
abbrev rTL (S : St) : Nat := (S 7 0 0 7).toNatClampNeg
abbrev rIs (S : St) : Nat := (S 7 0 0 11).toNatClampNeg
def rdOK (S : St) : Prop := okI (S 7 0 0 10) 120 ∧ okI (S 7 0 0 7) 120 ∧ rRd S ≤ rTL S
def rHere (S : St) : Int32 := if rTL S ≤ rRd S then -1 else S 7 0 6 (rRd S)
def rAdv (S : St) : St := setF S 7 0 0 10 (S 7 0 0 10 + 1)
def rSty (S : St) : St := setF S 7 0 0 10 (S 7 0 0 10 + 0)
def rTake (S : St) (x : Int32) : Bool × St := if rHere S = x then (true, rAdv S) else (false, rSty S)
def rLine (S : St) : Bool × St := if rIn (rHere S) 48 55 = true then (true, rAdv (setF S 7 0 7 (2 * rIs S + 1) (rHere S - 48))) else (false, rSty (setF S 7 0 7 (2 * rIs S + 1) 0))
def rNumL : Nat → Nat → St → Int32 → Nat × St × Int32
  | 0, d, S, v => (d, S, v)
  | n + 1, d, S, v => if rIn (rHere S) 48 57 = true then rNumL n (d + 1) (rAdv S) (10 * v + rHere S - 48) else (d, S, v)
def rNumR (S : St) : Nat × St × Int32 := rNumL 3 0 (rTake S 45).2 0
def rNum (S : St) : Bool × St := (decide (0 < (rNumR S).1), setF (rNumR S).2.1 7 0 7 (2 * rIs S + 1) (if (rTake S 45).1 = true then - (rNumR S).2.2 else (rNumR S).2.2))
def rInsA (S : St) : St := setF (setF (rAdv S) 7 0 7 (2 * rIs S) (rHere S)) 7 0 7 (2 * rIs S + 1) 0
def rInsB (S : St) : Bool × St := if rHere S = 98 then (true, rInsA S) else if rHere S = 99 then (true, rInsA S) else if rHere S = 97 then rNum (rInsA S) else rLine (rInsA S)
def rKnown (x : Int32) : Bool := decide (x = 98) || (decide (x = 99) || (decide (x = 114) || (decide (x = 119) || decide (x = 97))))
def rInsC (T : St) : Bool × St := (true, setF T 7 0 0 11 (T 7 0 0 11 + 1))
def rIns (S : St) : Bool × St :=
  if rIs S = 30 then (false, S) else if rKnown (rHere S) = true then
    (if (rInsB S).1 = true then (if (rTake (rInsB S).2 59).1 = true then rInsC (rTake (rInsB S).2 59).2 else (false, (rTake (rInsB S).2 59).2)) else (false, (rInsB S).2))
  else (false, S)
def rAllL : Nat → St → Bool × St
  | 0, S => (true, S)
  | n + 1, S => if rTL S ≤ rRd S then (true, S) else if (rIns S).1 = true then rAllL n (rIns S).2 else (false, (rIns S).2)
def rAll (S : St) : Bool × St := rAllL 120 (setF (setF S 7 0 0 10 0) 7 0 0 11 0)
/-! what the reader keeps -/
theorem okI_inc {x : Int32} {b : Nat} (h : okI x b) (hb : b < 2 ^ 30) : okI (x + 1) (b + 1) ∧ (x + 1).toNatClampNeg = x.toNatClampNeg + 1 := by
  obtain ⟨k, hk, rfl⟩ := okI_ex h
  rw [nI_1]
  refine ⟨okI_nI (by omega) (by omega), ?_⟩
  rw [nI_clamp (by omega), nI_clamp (by omega)]
theorem rdOK_eq {S T : St} (h : rdOK S) (e1 : T 7 0 0 10 = S 7 0 0 10) (e2 : T 7 0 0 7 = S 7 0 0 7) : rdOK T := by
  unfold rdOK rRd rTL; rw [e1, e2]; exact h
theorem rAdv_10 (S : St) : rAdv S 7 0 0 10 = S 7 0 0 10 + 1 := by rw [rAdv, setF_at, if_pos ⟨rfl, rfl, rfl, rfl⟩]
theorem rAdv_f (S : St) {k : Nat} (hk : k ≠ 10) : rAdv S 7 0 0 k = S 7 0 0 k := by rw [rAdv, setF_at, if_neg (by omega)]
theorem rAdv_i (S : St) {i k : Nat} (hi : i ≠ 0) : rAdv S 7 0 i k = S 7 0 i k := by rw [rAdv, setF_at, if_neg (by omega)]
theorem rSty_eq (S : St) : ∀ k, rSty S 7 0 0 k = S 7 0 0 k := by
  intro k
  rw [rSty, setF_at]
  split
  · rename_i h; rw [h.2.2.2, Int32.add_zero]
  · rfl
theorem rHere_lt {S : St} (h : rHere S ≠ -1) : rRd S < rTL S := by
  unfold rHere at h
  by_cases hc : rTL S ≤ rRd S
  · rw [if_pos hc] at h; exact absurd rfl h
  · omega
theorem rdOK_adv {S T : St} (h : rdOK S) (hl : rRd S < rTL S) (e1 : T 7 0 0 10 = S 7 0 0 10 + 1) (e2 : T 7 0 0 7 = S 7 0 0 7) : rdOK T := by
  obtain ⟨h1, h2, h3⟩ := h
  obtain ⟨g1, g2⟩ := okI_inc h1 (by decide)
  have hb : rTL S ≤ 120 := h2.2
  have e3 : rRd T = rRd S + 1 := by show (T 7 0 0 10).toNatClampNeg = _; rw [e1]; exact g2
  have e4 : rTL T = rTL S := by show (T 7 0 0 7).toNatClampNeg = _; rw [e2]
  refine ⟨⟨by rw [e1]; exact g1.1, by show rRd T ≤ 120; omega⟩, by rw [e2]; exact h2, by omega⟩
theorem setD_f (S : St) (k : Nat) (v : Int32) {k2 : Nat} : setF S 7 0 7 k v 7 0 0 k2 = S 7 0 0 k2 := by rw [setF_at, if_neg (by omega)]
theorem rIn_ne {x a b : Int32} (h : rIn x a b = true) (ha : ¬ (-1 : Int32) ≥ a) : x ≠ -1 := by
  rintro rfl
  unfold rIn at h
  simp only [Bool.and_eq_true, Bool.not_eq_true', decide_eq_false_iff_not] at h
  exact ha (Int32.not_lt.mp h.1)
/-- after the reader's parts: positions right, the text's length and the count as they were -/
def rdK (S T : St) : Prop := rdOK T ∧ T 7 0 0 7 = S 7 0 0 7 ∧ T 7 0 0 11 = S 7 0 0 11 ∧ rRd S ≤ rRd T
theorem rdK_rf {S : St} (h : rdOK S) : rdK S S := ⟨h, rfl, rfl, Nat.le_refl _⟩
theorem rdK_tr {S T U : St} (h1 : rdK S T) (h2 : rdK T U) : rdK S U := ⟨h2.1, h2.2.1.trans h1.2.1, h2.2.2.1.trans h1.2.2.1, Nat.le_trans h1.2.2.2 h2.2.2.2⟩
theorem rdK_same {S T : St} (h : rdOK S) (e : ∀ k, T 7 0 0 k = S 7 0 0 k) : rdK S T := ⟨rdOK_eq h (e _) (e _), e _, e _, by show (S 7 0 0 10).toNatClampNeg ≤ (T 7 0 0 10).toNatClampNeg; rw [e]; exact Nat.le_refl _⟩
theorem rdK_adv {S : St} (h : rdOK S) (hl : rRd S < rTL S) : rdK S (rAdv S) := by
  refine ⟨rdOK_adv h hl (rAdv_10 S) (rAdv_f S (by decide)), rAdv_f S (by decide), rAdv_f S (by decide), ?_⟩
  show (S 7 0 0 10).toNatClampNeg ≤ (rAdv S 7 0 0 10).toNatClampNeg
  rw [rAdv_10, (okI_inc h.1 (by decide)).2]; omega
theorem rTake_K {S : St} {x : Int32} (h : rdOK S) (hx : x ≠ -1) : rdK S (rTake S x).2 := by
  unfold rTake
  by_cases hc : rHere S = x
  · rw [if_pos hc]; exact rdK_adv h (rHere_lt (by rw [hc]; exact hx))
  · rw [if_neg hc]; exact rdK_same h (rSty_eq S)
theorem rHere_D {S : St} {k : Nat} {v : Int32} : rHere (setF S 7 0 7 k v) = rHere S := by
  unfold rHere rTL rRd
  rw [setD_f, setD_f]
  have : setF S 7 0 7 k v 7 0 6 = S 7 0 6 := by funext q; rw [setF_at, if_neg (by omega)]
  rw [this]
theorem rLine_K {S : St} (h : rdOK S) : rdK S (rLine S).2 := by
  unfold rLine
  by_cases hc : rIn (rHere S) 48 55 = true
  · rw [if_pos hc]
    have h1 := rdK_same (T := setF S 7 0 7 (2 * rIs S + 1) (rHere S - 48)) h (fun k => setD_f S _ _)
    refine rdK_tr h1 (rdK_adv h1.1 (rHere_lt ?_))
    rw [rHere_D]
    exact rIn_ne hc (by decide)
  · rw [if_neg hc]
    have h1 := rdK_same (T := setF S 7 0 7 (2 * rIs S + 1) 0) h (fun k => setD_f S _ _)
    exact rdK_tr h1 (rdK_same h1.1 (rSty_eq _))
theorem rNumL_K : ∀ (n : Nat) {d : Nat} {S : St} {v : Int32}, rdOK S → rdK S (rNumL n d S v).2.1
  | 0, _, _, _, h => rdK_rf h
  | n + 1, d, S, v, h => by
    rw [rNumL]
    by_cases hc : rIn (rHere S) 48 57 = true
    · rw [if_pos hc]
      have h1 := rdK_adv h (rHere_lt (rIn_ne hc (by decide)))
      exact rdK_tr h1 (rNumL_K n h1.1)
    · rw [if_neg hc]; exact rdK_rf h
theorem rdK_D {S T : St} {k : Nat} {v : Int32} (h : rdK S T) : rdK S (setF T 7 0 7 k v) := rdK_tr h (rdK_same h.1 (fun q => setD_f T k v))
theorem rNum_K {S : St} (h : rdOK S) : rdK S (rNum S).2 := by
  have h1 := rTake_K (x := 45) h (by decide)
  have h2 : rdK (rTake S 45).2 (rNumR S).2.1 := rNumL_K 3 h1.1
  have h3 := rdK_tr h1 h2
  unfold rNum
  dsimp only
  exact rdK_D h3
theorem rNum_1 {S T : St} {d : Nat} {v : Int32} (h : rNumL 3 0 (rTake S 45).2 0 = (d, T, v)) : bI (rNum S).1 = bI (decide (0 < d)) := by unfold rNum rNumR; rw [h]
theorem rNum_2 {S T : St} {d : Nat} {v : Int32} (h : rNumL 3 0 (rTake S 45).2 0 = (d, T, v)) : (rNum S).2 = setF T 7 0 7 (2 * rIs S + 1) (if (rTake S 45).1 = true then -v else v) := by unfold rNum rNumR; rw [h]
theorem rInsA_K {S : St} (h : rdOK S) (hl : rRd S < rTL S) : rdK S (rInsA S) := by
  have h1 := rdK_adv h hl
  have h2 := rdK_same (T := setF (rAdv S) 7 0 7 (2 * rIs S) (rHere S)) h1.1 (fun k => setD_f _ _ _)
  exact rdK_tr h1 (rdK_tr h2 (rdK_same h2.1 (fun k => setD_f _ _ _)))
theorem rKnown_ne {x : Int32} (h : rKnown x = true) : x ≠ -1 := by
  rintro rfl; revert h; decide
theorem rInsA_lt {S : St} (h : rdOK S) (hl : rRd S < rTL S) : rRd S < rRd (rInsA S) := by
  have e : rInsA S 7 0 0 10 = S 7 0 0 10 + 1 := by rw [rInsA, setD_f, setD_f, rAdv_10]
  show _ < (rInsA S 7 0 0 10).toNatClampNeg
  rw [e, (okI_inc h.1 (by decide)).2]; exact Nat.lt_succ_self _
theorem rInsB_K {S : St} (h : rdOK S) (hl : rRd S < rTL S) : rdK (rInsA S) (rInsB S).2 := by
  have h1 := rInsA_K h hl
  unfold rInsB
  split
  · exact rdK_rf h1.1
  · split
    · exact rdK_rf h1.1
    · split
      · exact rNum_K h1.1
      · exact rLine_K h1.1
theorem rIns_end {S T : St} (hK : rdK S T) (hi : okI (S 7 0 0 11) 29) (hl : rRd S < rRd T) : rdOK (rInsC T).2 ∧ okI ((rInsC T).2 7 0 0 11) 30 ∧ (rInsC T).2 7 0 0 7 = S 7 0 0 7 ∧ ((rInsC T).1 = true → rRd S < rRd (rInsC T).2) := by
  unfold rInsC
  have e10 : ∀ k, k ≠ 11 → setF T 7 0 0 11 (T 7 0 0 11 + 1) 7 0 0 k = T 7 0 0 k := fun k hk => by rw [setF_at, if_neg (by omega)]
  refine ⟨rdOK_eq hK.1 (e10 10 (by decide)) (e10 7 (by decide)), ?_, (e10 7 (by decide)).trans hK.2.1, fun _ => ?_⟩
  · show okI (setF T 7 0 0 11 (T 7 0 0 11 + 1) 7 0 0 11) 30
    rw [setF_at, if_pos ⟨rfl, rfl, rfl, rfl⟩, hK.2.2.1]
    exact (okI_inc hi (by decide)).1
  · show _ < (setF T 7 0 0 11 (T 7 0 0 11 + 1) 7 0 0 10).toNatClampNeg
    rw [e10 10 (by decide)]
    exact hl
/-- an instruction read: the reader stays right, and it goes on if all is well -/
theorem rIns_K {S : St} (h : rdOK S) (hi : okI (S 7 0 0 11) 30) : rdOK (rIns S).2 ∧ okI ((rIns S).2 7 0 0 11) 30 ∧ (rIns S).2 7 0 0 7 = S 7 0 0 7 ∧ ((rIns S).1 = true → rRd S < rRd (rIns S).2) := by
  unfold rIns
  by_cases h30 : rIs S = 30
  · rw [if_pos h30]; exact ⟨h, hi, rfl, fun z => by cases z⟩
  · rw [if_neg h30]
    by_cases hk : rKnown (rHere S) = true
    · rw [if_pos hk]
      have hl := rHere_lt (rKnown_ne hk)
      have hA := rInsA_K h hl
      have hAl := rInsA_lt h hl
      have hB := rInsB_K h hl
      have hT := rTake_K (x := 59) hB.1 (by decide)
      have hi29 : okI (S 7 0 0 11) 29 := ⟨hi.1, by have : rIs S ≤ 30 := hi.2; show rIs S ≤ 29; omega⟩
      by_cases hb : (rInsB S).1 = true
      · rw [if_pos hb]
        have hK := rdK_tr hA (rdK_tr hB hT)
        by_cases ht : (rTake (rInsB S).2 59).1 = true
        · rw [if_pos ht]
          exact rIns_end hK hi29 (Nat.lt_of_lt_of_le hAl (Nat.le_trans hB.2.2.2 hT.2.2.2))
        · rw [if_neg ht]
          exact ⟨hK.1, by show okI ((rTake (rInsB S).2 59).2 7 0 0 11) 30; rw [hK.2.2.1]; exact hi, hK.2.1, fun z => by cases z⟩
      · rw [if_neg hb]
        have hK := rdK_tr hA hB
        exact ⟨hK.1, by show okI ((rInsB S).2 7 0 0 11) 30; rw [hK.2.2.1]; exact hi, hK.2.1, fun z => by cases z⟩
    · rw [if_neg hk]; exact ⟨h, hi, rfl, fun z => by cases z⟩

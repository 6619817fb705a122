/-! what the law's logs finds -/
def HB (hv : Int64) (b : Nat) : Prop := (hv >>> ((nI b).toInt64 &&& 63)) &&& 1 = 1
theorem odd_iff (x : Int64) : x &&& 1 = 1 ↔ x.toBitVec.getLsbD 0 = true := by
  constructor
  · intro h
    have h2 := congrArg (fun y : Int64 => y.toBitVec.getLsbD 0) h
    simpa using h2
  · intro h
    apply Int64.toBitVec_inj.mp
    apply BitVec.eq_of_getLsbD_eq
    intro i hi
    show (x &&& 1).toBitVec.getLsbD i = (1 : Int64).toBitVec.getLsbD i
    rw [Int64.toBitVec_and, BitVec.getLsbD_and]
    by_cases h0 : i = 0
    · subst h0; rw [h]; rfl
    · have : (1 : Int64).toBitVec.getLsbD i = false := by
        rw [show (1 : Int64).toBitVec = 1#64 from rfl, BitVec.getLsbD_one]; simp [h0]
      rw [this, Bool.and_false]
theorem HB_or {p q : Int64} {b : Nat} (h : HB (p ||| q) b) : HB p b ∨ HB q b := by
  unfold HB at *
  rw [Int64.shiftRight_or, odd_iff, Int64.toBitVec_or, BitVec.getLsbD_or, Bool.or_eq_true, ← odd_iff, ← odd_iff] at h
  exact h
theorem HB_0 : ∀ b, b < 63 → ¬ HB 0 b := by unfold HB; decide +kernel
theorem HB_1 : ∀ t, t < 63 → ∀ b, b < 63 → HB (1 <<< ((nI t).toInt64 &&& 63)) b → t = b := by unfold HB; decide +kernel
theorem size_1 : ∀ l, l < 8 → rSize (1 <<< (nI l &&& 31)) = 1 := by decide +kernel
theorem lgL_at (k : Nat) (wr : Int32) (U : St) : ∀ l, l < 8 → lp (lgF k wr) 8 0 U 8 0 0 l = if rHas wr (nI l) = true then U 0 4 10 (k * 8 + l) else U 8 0 0 l := by
  have key := lp_at (lgF k wr) (fun j T => (∀ l, l < j → T 8 0 0 l = if rHas wr (nI l) = true then U 0 4 10 (k * 8 + l) else U 8 0 0 l) ∧ (∀ l, j ≤ l → T 8 0 0 l = U 8 0 0 l) ∧ ∀ q, T 0 4 10 q = U 0 4 10 q) 8 (fun j T hj ⟨p1, p2, p3⟩ => by
    unfold lgF
    refine ⟨fun l hl => ?_, fun l hl => ?_, fun q => ?_⟩
    · by_cases hlj : l = j
      · subst hlj; rw [sF_eq ⟨rfl, rfl, rfl, rfl⟩, p3, p2 l (Nat.le_refl _)]
      · rw [sF_ne (by omega)]; exact p1 l (by omega)
    · rw [sF_ne (by omega)]; exact p2 l (by omega)
    · rw [sF_ne (by omega)]; exact p3 q) 8 0 U (by omega) ⟨fun l hl => absurd hl (by omega), fun _ _ => rfl, fun _ => rfl⟩
  exact fun l hl => key.1 l (by omega)
/-- what the replay has done behind i entries -/
def lgI (S : St) (i : Nat) (q : St × Int64 × Int32) : Prop := (∀ m g a b, ¬ (m = 8 ∧ g = 0 ∧ a = 0) → q.1 m g a b = S m g a b) ∧ (∀ l, l < 8 → q.1 8 0 0 l = lgV S 0 i l) ∧ (∀ b, b < 63 → HB q.2.1 b → ∃ e, e < i ∧ tn S 0 e = b) ∧ q.2.2 = nI (cT (tn S 0) i)
theorem LI.q {S : St} {n N P k : Nat} (h : LI S n N P k) : S 0 4 4 7 = nI (pQ S 0) ∧ pQ S 0 ≤ 400 := h.1.1.1.2
theorem LI.en {S : St} {n N P k e : Nat} (h : LI S n N P k) (he : e < pQ S 0) : enOK S 0 e ∧ (S 0 4 6 e = -1 ∨ ∃ b, b < 2 ^ 31 ∧ S 0 4 6 e = nI b ∧ ((b : Int) < (S 0 4 0 8).toInt)) := by
  refine ⟨h.1.1.2.2.2.2.2.2.2 e he, ?_⟩
  rcases h.1.1.2.2.2.1.2.2.1 e he with z | ⟨z1, z2⟩
  · exact Or.inl (Int32.toInt_inj.mp (by unfold tn at z; rw [z]; rfl))
  · unfold tn at z1 z2
    have hnn : ¬ S 0 4 6 e < 0 := fun z => by
      have z' := Int32.lt_iff_toInt_lt.mp z
      rw [show (0 : Int32).toInt = 0 from by decide] at z'
      omega
    obtain ⟨j, hj, ej⟩ := nI_of hnn
    refine Or.inr ⟨j, hj, ej, ?_⟩
    rw [ej, nI_toInt hj] at z2; exact z2
theorem lg_step {S : St} {n N P k i : Nat} {q : St × Int64 × Int32} (h : LI S n N P k) (hi : i < pQ S 0) (hI : lgI S i q) : lgI S (i + 1) (lgO i q) := by
  obtain ⟨i1, i2, i3, i4⟩ := hI
  obtain ⟨⟨e1, e2, -, -⟩, et⟩ := h.en hi
  have r6 : q.1 0 4 6 i = S 0 4 6 i := i1 _ _ _ _ (by omega)
  have r8 : q.1 0 4 8 i = S 0 4 8 i := i1 _ _ _ _ (by omega)
  unfold lgO
  refine ⟨fun m g a b hn => ?_, fun l hl => ?_, fun b hb hh => ?_, ?_⟩
  · dsimp only; rw [lgL_ne hn]; exact i1 m g a b hn
  · dsimp only
    rw [lgL_at i _ q.1 l hl, r8, rH_C e2 hl, i1 0 4 10 _ (by omega), i2 l hl]; rfl
  · dsimp only at hh
    rw [r6] at hh
    by_cases ht : S 0 4 6 i < 0
    · rw [if_pos ht] at hh
      obtain ⟨e, he, ee⟩ := i3 b hb hh
      exact ⟨e, by omega, ee⟩
    · rw [if_neg ht] at hh
      rcases HB_or hh with z | z
      · obtain ⟨e, he, ee⟩ := i3 b hb z
        exact ⟨e, by omega, ee⟩
      · by_cases h63 : (63 : Int32) ≤ S 0 4 6 i
        · rw [if_pos h63] at z; exact absurd z (HB_0 b hb)
        · rw [if_neg h63] at z
          rcases et with et | ⟨t, ht2, et, -⟩
          · rw [et] at ht; exact absurd (by decide) ht
          · rw [et] at z h63
            have t63 : t < 63 := by
              rcases Nat.lt_or_ge t 63 with w | w
              · exact w
              · exact absurd (nI_le (a := 63) w ht2) h63
            have := HB_1 t t63 b hb z
            subst this
            exact ⟨i, by omega, by unfold tn; rw [et]; exact nI_toInt ht2⟩
  · dsimp only
    rw [r6, i4, cT]
    rcases et with et | ⟨t, ht2, et, -⟩
    · have : tn S 0 i = -1 := by unfold tn; rw [et]; rfl
      rw [this, if_pos (by rw [et]; decide), if_pos rfl]; rfl
    · have e0 : tn S 0 i = (t : Int) := by unfold tn; rw [et]; exact nI_toInt ht2
      rw [e0, if_neg (by rw [et]; exact nI_pos ht2), if_neg (by omega)]
      exact nI_1 _
theorem lg_all {S : St} {n N P k : Nat} (h : LI S n N P k) : ∀ i, i ≤ pQ S 0 → lgI S i (lp lgO i 0 (upR S 8 0 0 (fun _ => 0), 0, 0)) := by
  intro i hi
  have h0 : lgI S 0 (upR S 8 0 0 (fun _ => 0), 0, 0) := by
    refine ⟨fun m g a b hn => ?_, fun l hl => ?_, fun b hb hh => absurd hh (HB_0 b hb), rfl⟩
    · show upR S 8 0 0 (fun _ => 0) m g a b = _
      rw [upR_ne]
      intro z
      injection z with z1 z2
      injection z2 with z2 z3
      exact hn ⟨z1, z2, z3⟩
    · show upR S 8 0 0 (fun _ => 0) 8 0 0 l = 0
      rw [upR_self]
  have := lp_at lgO (fun j q => lgI S j q) (pQ S 0) (fun j q hj hI => lg_step h hj hI) i 0 _ (by omega) h0
  rw [Nat.zero_add] at this
  exact this
theorem lg_cmp0 {x y : Int64} (h : lg_cmp x y = 0) : x = y := by
  unfold lg_cmp at h
  split at h
  · exact absurd h (by decide)
  · split at h
    · assumption
    · exact absurd h (by decide)
theorem lg_C {S : St} {n N P k i : Nat} {q : St × Int64 × Int32} (h : LI S n N P k) (hi : i < pQ S 0) (hI : lgI S i q) : lgC q i := by
  obtain ⟨i1, i2, i3, i4⟩ := hI
  obtain ⟨⟨e1, e2, e3, e4⟩, et⟩ := h.en hi
  have r6 : q.1 0 4 6 i = S 0 4 6 i := i1 _ _ _ _ (by omega)
  have r7 : q.1 0 4 7 i = S 0 4 7 i := i1 _ _ _ _ (by omega)
  have r8 : q.1 0 4 8 i = S 0 4 8 i := i1 _ _ _ _ (by omega)
  have rn : q.1 0 4 0 8 = S 0 4 0 8 := i1 _ _ _ _ (by omega)
  unfold lgC
  rw [r6, r7, r8, rn]
  refine ⟨fun l hl => ?_, fun ht => ?_, fun ht => ?_⟩
  · obtain ⟨f1, f2⟩ := e3 l hl
    unfold lgA
    rw [i1 0 4 9 _ (by omega), i1 0 4 10 _ (by omega), rH_C e1 hl, rH_C e2 hl, i2 l hl]
    exact ⟨f1, f2⟩
  · rcases et with et | ⟨t, ht2, et, etn⟩
    · rw [et] at ht; exact absurd (by decide) ht
    · refine ⟨fun z => ?_, fun h63 z => ?_⟩
      · rw [et, Int32.le_iff_toInt_le, nI_toInt ht2] at z; omega
      · rw [et] at z h63
        have t63 : t < 63 := by
          rcases Nat.lt_or_ge t 63 with w | w
          · exact w
          · exact absurd (nI_le (a := 63) w ht2) h63
        obtain ⟨e, he, ee⟩ := i3 t t63 (lg_cmp0 z)
        have ei : tn S 0 i = (t : Int) := by unfold tn; rw [et]; exact nI_toInt ht2
        have := h.1.1.2.2.2.1.2.2.2.2.1 e i (by omega) hi (by omega) (ee.trans ei.symm)
        omega
  · rcases et with et | ⟨t, ht2, et, -⟩
    · obtain ⟨f1, l, hl, f2⟩ := e4 et
      have ok1 := ok8_1 hl
      rw [f2]
      exact ⟨f1, (kz_ok ok1).1, by rw [(kz_ok ok1).2]; exact size_1 l hl⟩
    · rw [et] at ht; exact absurd ht (nI_pos ht2)
/-- the class's own replay finds all well too -/
theorem rep_ok {S U : St} {n N P k : Nat} (h : LI S n N P k) (e : U 0 = S 0) : (pReplay U 0 6 0 7).1 = true := by
  have z := zero_at 6 0 7 8 U
  unfold pReplay
  have eQ : pQ U 0 = pQ S 0 := by show (U 0 4 4 7).toNatClampNeg = _; rw [e]
  rw [eQ]
  have key := lpE_rel (pRepF 0 6 0 7) (fun (_ : Nat) (u : Unit) => (true, u)) (fun i V _ => V 0 = S 0 ∧ ∀ l, l < 8 → V 6 0 7 l = lgV S 0 i l) (fun _ _ => False) (pQ S 0) (fun i V u hi ⟨p1, p2⟩ => by
    obtain ⟨⟨e1, e2, e3, e4⟩, -⟩ := h.en hi
    refine Or.inl ?_
    have hm : pMatch V 0 i 6 0 7 = true := by
      unfold pMatch
      have := lpE_rel (pMatF 0 i 6 0 7) (fun (_ : Nat) (u : Unit) => (true, u)) (fun _ W _ => W = V) (fun _ _ => False) 8 (fun l W u hl eW => by
        subst eW
        refine Or.inl ⟨?_, rfl, rfl⟩
        unfold pMatF pLVal
        rw [p1]
        dsimp only
        rw [if_neg Bool.false_ne_true]
        by_cases hc : pContains (S 0 4 7 i) (nI l) = true
        · obtain ⟨f1, -⟩ := e3 l hl
          rw [if_pos hc] at f1
          rw [hc, f1, p2 l hl]; simp
        · rw [show pContains (S 0 4 7 i) (nI l) = false by simpa using hc]; rfl) 8 0 V () (by omega) rfl
      rcases this with ⟨z, -⟩ | ⟨-, -, z⟩
      · exact z
      · exact z.elim
    have eR : pRepF 0 6 0 7 i V = (true, pApply V 0 i 6 0 7) := by unfold pRepF; rw [if_pos hm]
    rw [eR]
    refine ⟨rfl, rfl, ?_, ?_⟩
    · show pApply V 0 i 6 0 7 0 = S 0
      unfold pApply
      rw [lp_ne (pAppF 0 i 6 0 7) (fun T => T 0) (fun l T => by unfold pAppF; split; exact setF_m (by omega); rfl) 8 0 V]; exact p1
    · intro l hl
      show pApply V 0 i 6 0 7 6 0 7 l = lgV S 0 (i + 1) l
      unfold pApply
      have ka := lp_at (pAppF 0 i 6 0 7) (fun j T => T 0 = S 0 ∧ (∀ l, l < j → T 6 0 7 l = lgV S 0 (i + 1) l) ∧ ∀ l, j ≤ l → l < 8 → T 6 0 7 l = lgV S 0 i l) 8 (fun j T hj ⟨a1, a2, a3⟩ => by
        unfold pAppF pLVal
        rw [a1]
        by_cases hc : pContains (S 0 4 8 i) (nI j) = true
        · rw [if_pos hc, if_pos rfl]
          refine ⟨by rw [setF_m (by omega)]; exact a1, fun l hl => ?_, fun l hl h8 => ?_⟩
          · by_cases hlj : l = j
            · subst hlj; rw [sF_eq ⟨rfl, rfl, rfl, rfl⟩, lgV, if_pos hc]
            · rw [sF_ne (by omega)]; exact a2 l (by omega)
          · rw [sF_ne (by omega)]; exact a3 l (by omega) h8
        · rw [if_neg hc]
          refine ⟨a1, fun l hl => ?_, fun l hl h8 => a3 l (by omega) h8⟩
          by_cases hlj : l = j
          · subst hlj; rw [a3 l (Nat.le_refl _) hj, lgV, if_neg hc]
          · exact a2 l (by omega)) 8 0 V (by omega) ⟨p1, fun l hl => absurd hl (by omega), fun l _ h8 => p2 l h8⟩
      exact ka.2.1 l (by omega)) (pQ S 0) 0 (lp (pZeroF 6 0 7) 8 0 U) () (by omega) ⟨by funext g i q; rw [z.2 0 g i q (by omega), e], fun l hl => z.1 l hl⟩
  rcases key with ⟨k1, -⟩ | ⟨-, -, k2⟩
  · exact k1
  · exact k2.elim
theorem pCom_cg {S U : St} (e : U 0 = S 0) (l : Nat) : pCom U 0 l = pCom S 0 l := by
  have ef : pComF U 0 l = pComF S 0 l := by funext k r; unfold pComF; rw [e]
  unfold pCom pCC
  rw [ef, e]
/-- all that logs wants -/
theorem logs_1 {S : St} {n N P k : Nat} (h : LI S n N P k) : (∀ i, i < pQ S 0 → lgC (lp lgO i 0 (upR S 8 0 0 (fun _ => 0), 0, 0)) i) ∧ (∀ l, l < 8 → pCom (lgT (upR S 8 0 0 (fun _ => 0)) (pQ S 0)).1 0 l = (lgT (upR S 8 0 0 (fun _ => 0)) (pQ S 0)).1 8 0 0 l) ∧ (pReplay (lgT (upR S 8 0 0 (fun _ => 0)) (pQ S 0)).1 0 6 0 7).1 = true ∧ (lgT (upR S 8 0 0 (fun _ => 0)) (pQ S 0)).2.2 = nI (cT (tn S 0) (pQ S 0)) ∧ (lgT (upR S 8 0 0 (fun _ => 0)) (pQ S 0)).1 0 = S 0 ∧ (∀ m g a b, ¬ (m = 8 ∧ g = 0 ∧ a = 0) → (lgT (upR S 8 0 0 (fun _ => 0)) (pQ S 0)).1 m g a b = S m g a b) := by
  obtain ⟨i1, i2, i3, i4⟩ := lg_all h (pQ S 0) (Nat.le_refl _)
  have e0 : (lgT (upR S 8 0 0 (fun _ => 0)) (pQ S 0)).1 0 = S 0 := by funext g a b; exact i1 0 g a b (by omega)
  exact ⟨fun i hi => lg_C h hi (lg_all h i (by omega)), fun l hl => by rw [pCom_cg e0, com_V h hl]; exact (i2 l hl).symm, rep_ok h e0, i4, e0, i1⟩

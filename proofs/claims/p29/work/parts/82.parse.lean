/-! what is typed is read -/
/-- the reader between two signs: i instructions, it wants w; tx: the text -/
def RW (tx : Nat → Int32) (S : St) (i w : Nat) : Prop := S 6 0 3 2 = nI i ∧ S 6 0 2 1 = nI w ∧ ∀ k, S 6 0 1 k = tx k
theorem RW.st {tx : Nat → Int32} {S : St} {i w k : Nat} (h : RW tx S i w) (hw : w < 6) : S 6 0 1 k = tx k ∧ (S 6 0 2 1).toNatClampNeg = w := ⟨h.2.2 k, by rw [h.2.1]; exact nI_clamp (by omega)⟩
theorem rd_s {n k : Nat} {S S' : St} {r : Int32} (h : pRdF k (S, r) = (true, S', r)) : lpE pRdF (n + 1) k (S, r) = lpE pRdF n (k + 1) (S', r) := by rw [lpE, h]; rfl
section RD
variable {tx : Nat → Int32} {S : St} {i k : Nat}
theorem rd_F {S' : St} {x : Int32} {w : Nat} (h : RW tx S i w) (hw : w < 6) (hx : tx k = x) (hA : pAcc S x w = (true, S')) (r : Int32) : pRdF k (S, r) = (true, S', r) := by
  obtain ⟨e1, e2⟩ := h.st (k := k) hw
  have e : pAcc S (S 6 0 1 k) (S 6 0 2 1).toNatClampNeg = (true, S') := by rw [e1, e2, hx]; exact hA
  unfold pRdF
  dsimp only
  rw [if_pos (by rw [e]), e]
theorem rd_full (h : RW tx S i 0) (hi : i < 30) : ¬ pFull S 6 0 = true := by
  unfold pFull
  rw [h.1, decide_eq_true (show nI i < 30 from nI_lt (b := 30) hi (by omega))]; decide
/-- the first sign of an instruction -/
theorem rd_0 {c : Int32} (h : RW tx S i 0) (hi : i < 30) (hx : tx k = c) (hc : c = 98 ∨ c = 99 ∨ c = 114 ∨ c = 119 ∨ c = 97) : ∃ S', (∀ r, pRdF k (S, r) = (true, S', r)) ∧ RW tx S' i (if c = 97 then 2 else if c = 114 ∨ c = 119 then 1 else 5) ∧ S' 6 0 2 4 = 0 := by
  have hf := rd_full h hi
  obtain ⟨h1, h2, h3⟩ := id h
  rcases hc with rfl | rfl | rfl | rfl | rfl
  · refine ⟨_, rd_F h (by omega) hx (by unfold pAcc pAcIns; rw [if_pos rfl, if_neg hf]; dsimp only; rw [if_neg (by decide), if_pos rfl]), ⟨?_, ?_, fun q => ?_⟩, ?_⟩
    all_goals unfold pExpect; simp (disch := omega) only [sF_eq, sF_ne]
    · exact h1
    · rfl
    · exact h3 q
  · refine ⟨_, rd_F h (by omega) hx (by unfold pAcc pAcIns; rw [if_pos rfl, if_neg hf]; dsimp only; rw [if_neg (by decide), if_neg (by decide), if_pos rfl]), ⟨?_, ?_, fun q => ?_⟩, ?_⟩
    all_goals unfold pExpect; simp (disch := omega) only [sF_eq, sF_ne]
    · exact h1
    · rfl
    · exact h3 q
  · refine ⟨_, rd_F h (by omega) hx (by unfold pAcc pAcIns; rw [if_pos rfl, if_neg hf]; dsimp only; rw [if_neg (by decide), if_neg (by decide), if_neg (by decide), if_pos rfl]), ⟨?_, ?_, fun q => ?_⟩, ?_⟩
    all_goals unfold pExpect; simp (disch := omega) only [sF_eq, sF_ne]
    · exact h1
    · rfl
    · exact h3 q
  · refine ⟨_, rd_F h (by omega) hx (by unfold pAcc pAcIns; rw [if_pos rfl, if_neg hf]; dsimp only; rw [if_neg (by decide), if_neg (by decide), if_neg (by decide), if_neg (by decide), if_pos rfl]), ⟨?_, ?_, fun q => ?_⟩, ?_⟩
    all_goals unfold pExpect; simp (disch := omega) only [sF_eq, sF_ne]
    · exact h1
    · rfl
    · exact h3 q
  · refine ⟨_, rd_F h (by omega) hx (by unfold pAcc pAcIns; rw [if_pos rfl, if_neg hf]; dsimp only; rw [if_pos rfl]), ⟨?_, ?_, fun q => ?_⟩, ?_⟩
    all_goals unfold pExpect; simp (disch := omega) only [sF_eq, sF_ne]
    · exact h1
    · rfl
    · exact h3 q
theorem ln_tab : ∀ u, u < 8 → pIsLine (nI (48 + u) - 48) = true := by decide +kernel
theorem dg_tab : ∀ u, u < 10 → ¬ nI (48 + u) < 48 ∧ nI (48 + u) ≤ 57 ∧ nI (48 + u) ≠ 45 := by decide +kernel
theorem rd_1 {u : Nat} (h : RW tx S i 1) (hu : u < 8) (hx : tx k = nI (48 + u)) : ∃ S', (∀ r, pRdF k (S, r) = (true, S', r)) ∧ RW tx S' i 5 := by
  obtain ⟨h1, h2, h3⟩ := id h
  refine ⟨_, rd_F h (by omega) hx (by unfold pAcc pAcLine; rw [if_neg (by omega), if_pos rfl, if_pos (ln_tab u hu)]), ⟨?_, ?_, fun q => ?_⟩⟩
  all_goals simp (disch := omega) only [sF_eq, sF_ne]
  · exact h1
  · rfl
  · exact h3 q
theorem rd_dig {u dg : Nat} (hu : u < 10) (hd : S 6 0 2 4 = nI dg) (hdg : dg < 2) (h1 : S 6 0 3 2 = nI i) (h3 : ∀ k, S 6 0 1 k = tx k) : ∃ S', pAcDig S (nI (48 + u)) = (true, S') ∧ RW tx S' i 4 ∧ S' 6 0 2 4 = nI (dg + 1) := by
  obtain ⟨d1, d2, d3⟩ := dg_tab u hu
  refine ⟨_, by unfold pAcDig; rw [if_neg d1, if_pos d2], ⟨?_, ?_, fun q => ?_⟩, ?_⟩
  · simp (disch := omega) only [sF_eq, sF_ne]; exact h1
  · simp (disch := omega) only [sF_eq, sF_ne]; rw [hd, nI_1, if_neg (show ¬ (3 : Int32) ≤ nI (dg + 1) from nI_ge (b := 3) (by omega) (by omega))]; rfl
  · simp (disch := omega) only [sF_eq, sF_ne]; exact h3 q
  · simp (disch := omega) only [sF_eq, sF_ne]; rw [hd, nI_1]
theorem rd_2m (h : RW tx S i 2) (hx : tx k = 45) : ∃ S', (∀ r, pRdF k (S, r) = (true, S', r)) ∧ RW tx S' i 3 ∧ S' 6 0 2 4 = S 6 0 2 4 := by
  obtain ⟨h1, h2, h3⟩ := id h
  have e : pAcMin S 45 = (true, setF (setF S 6 0 2 5 1) 6 0 2 1 3) := by unfold pAcMin; rw [if_pos rfl]
  refine ⟨_, rd_F h (by omega) hx (by unfold pAcc; rw [if_neg (by omega), if_neg (by omega), if_pos rfl, e, if_pos rfl]), ⟨?_, ?_, fun q => ?_⟩, ?_⟩
  all_goals simp (disch := omega) only [sF_eq, sF_ne]
  · exact h1
  · rfl
  · exact h3 q
theorem rd_2 {u dg : Nat} (h : RW tx S i 2) (hu : u < 10) (hd : S 6 0 2 4 = nI dg) (hdg : dg < 2) (hx : tx k = nI (48 + u)) : ∃ S', (∀ r, pRdF k (S, r) = (true, S', r)) ∧ RW tx S' i 4 ∧ S' 6 0 2 4 = nI (dg + 1) := by
  obtain ⟨h1, h2, h3⟩ := id h
  have e : pAcMin S (nI (48 + u)) = (false, S) := by unfold pAcMin; rw [if_neg (dg_tab u hu).2.2]
  obtain ⟨S', e1, e2, e3⟩ := rd_dig (S := S) (i := i) (tx := tx) hu hd hdg h1 h3
  exact ⟨S', rd_F h (by omega) hx (by unfold pAcc; rw [if_neg (by omega), if_neg (by omega), if_pos rfl, e, if_neg Bool.false_ne_true]; exact e1), e2, e3⟩
theorem rd_3 {u dg : Nat} (h : RW tx S i 3) (hu : u < 10) (hd : S 6 0 2 4 = nI dg) (hdg : dg < 2) (hx : tx k = nI (48 + u)) : ∃ S', (∀ r, pRdF k (S, r) = (true, S', r)) ∧ RW tx S' i 4 ∧ S' 6 0 2 4 = nI (dg + 1) := by
  obtain ⟨h1, h2, h3⟩ := id h
  obtain ⟨S', e1, e2, e3⟩ := rd_dig (S := S) (i := i) (tx := tx) hu hd hdg h1 h3
  exact ⟨S', rd_F h (by omega) hx (by unfold pAcc; rw [if_neg (by omega), if_neg (by omega), if_neg (by omega), if_pos rfl]; exact e1), e2, e3⟩
theorem rd_4 {u dg : Nat} (h : RW tx S i 4) (hu : u < 10) (hd : S 6 0 2 4 = nI dg) (hdg : dg < 2) (hx : tx k = nI (48 + u)) : ∃ S', (∀ r, pRdF k (S, r) = (true, S', r)) ∧ RW tx S' i 4 ∧ S' 6 0 2 4 = nI (dg + 1) := by
  obtain ⟨h1, h2, h3⟩ := id h
  obtain ⟨S', e1, e2, e3⟩ := rd_dig (S := S) (i := i) (tx := tx) hu hd hdg h1 h3
  exact ⟨S', rd_F h (by omega) hx (by unfold pAcc; rw [if_neg (by omega), if_neg (by omega), if_neg (by omega), if_neg (by omega), if_pos rfl, e1, if_pos rfl]), e2, e3⟩
theorem rd_end0 (h1 : S 6 0 3 2 = nI i) (hi : i < 30) (h3 : ∀ k, S 6 0 1 k = tx k) : ∃ S', pAcEnd S 59 = (true, S') ∧ RW tx S' (i + 1) 0 := by
  have hf : ¬ pFull S 6 0 = true := by
    unfold pFull
    rw [h1, decide_eq_true (show nI i < 30 from nI_lt (b := 30) hi (by omega))]; decide
  refine ⟨_, by unfold pAcEnd; rw [if_pos rfl], ⟨?_, ?_, fun q => ?_⟩⟩
  · unfold pAddI
    rw [if_neg (by rw [h1]; exact nI_pos (by omega)), if_neg hf]
    simp (disch := omega) only [sF_eq, sF_ne]; rw [h1, nI_1]
  · simp (disch := omega) only [sF_eq, sF_ne]; rfl
  · unfold pAddI
    rw [if_neg (by rw [h1]; exact nI_pos (by omega)), if_neg hf]
    simp (disch := omega) only [sF_eq, sF_ne]; exact h3 q
theorem rd_end {w : Nat} (h : RW tx S i w) (hw : w = 4 ∨ w = 5) (hi : i < 30) (hx : tx k = 59) : ∃ S', (∀ r, pRdF k (S, r) = (true, S', r)) ∧ RW tx S' (i + 1) 0 := by
  obtain ⟨h1, h2, h3⟩ := id h
  obtain ⟨S', e1, e2⟩ := rd_end0 (S := S) (i := i) (tx := tx) h1 hi h3
  rcases hw with rfl | rfl
  · have e : pAcDig S 59 = (false, S) := by unfold pAcDig; rw [if_neg (by decide), if_neg (by decide)]
    exact ⟨S', rd_F h (by omega) hx (by unfold pAcc; rw [if_neg (by omega), if_neg (by omega), if_neg (by omega), if_neg (by omega), if_pos rfl, e, if_neg Bool.false_ne_true]; exact e1), e2⟩
  · exact ⟨S', rd_F h (by omega) hx (by unfold pAcc; rw [if_neg (by omega), if_neg (by omega), if_neg (by omega), if_neg (by omega), if_neg (by omega)]; exact e1), e2⟩
end RD
/-- an instruction as the law types it -/
def CK (cs : List Int32) : Prop :=
  (∃ c : Int32, (c = 98 ∨ c = 99) ∧ cs = [c, 59]) ∨ (∃ (c : Int32) (u : Nat), (c = 114 ∨ c = 119) ∧ u < 8 ∧ cs = [c, nI (48 + u), 59]) ∨
  (∃ d, d < 10 ∧ cs = [97, nI (48 + d), 59]) ∨ (∃ d e, d < 10 ∧ e < 10 ∧ cs = [97, nI (48 + d), nI (48 + e), 59]) ∨
  (∃ d, d < 10 ∧ cs = [97, 45, nI (48 + d), 59]) ∨ (∃ d e, d < 10 ∧ e < 10 ∧ cs = [97, 45, nI (48 + d), nI (48 + e), 59])
theorem ck_ok {tx : Nat → Int32} {S : St} {i p : Nat} {cs : List Int32} (hc : CK cs) (h : RW tx S i 0) (hi : i < 30) (ht : ∀ j, j < cs.length → tx (p + j) = cs.getD j 0) : ∃ S', RW tx S' (i + 1) 0 ∧ ∀ n r, lpE pRdF (cs.length + n) p (S, r) = lpE pRdF n (p + cs.length) (S', r) := by
  rcases hc with ⟨c, hc, rfl⟩ | ⟨c, u, hc, hu, rfl⟩ | ⟨d, hd, rfl⟩ | ⟨d, e, hd, he, rfl⟩ | ⟨d, hd, rfl⟩ | ⟨d, e, hd, he, rfl⟩
  · obtain ⟨S1, a1, a2, -⟩ := rd_0 (k := p) h hi (ht 0 (by exact Nat.le_of_ble_eq_true rfl)) (by rcases hc with rfl | rfl <;> simp)
    have a2' : RW tx S1 i 5 := by rcases hc with rfl | rfl <;> exact a2
    obtain ⟨S2, b1, b2⟩ := rd_end (k := p + 1) a2' (Or.inr rfl) hi (ht 1 (by exact Nat.le_of_ble_eq_true rfl))
    refine ⟨S2, b2, fun n r => ?_⟩
    show lpE pRdF (2 + n) p (S, r) = lpE pRdF n (p + 2) (S2, r)
    rw [show 2 + n = n + 1 + 1 by omega, rd_s (a1 r), rd_s (b1 r)]
  · obtain ⟨S1, a1, a2, -⟩ := rd_0 (k := p) h hi (ht 0 (by exact Nat.le_of_ble_eq_true rfl)) (by rcases hc with rfl | rfl <;> simp)
    have a2' : RW tx S1 i 1 := by rcases hc with rfl | rfl <;> exact a2
    obtain ⟨S2, b1, b2⟩ := rd_1 (k := p + 1) a2' hu (ht 1 (by exact Nat.le_of_ble_eq_true rfl))
    obtain ⟨S3, c1, c2⟩ := rd_end (k := p + 2) b2 (Or.inr rfl) hi (ht 2 (by exact Nat.le_of_ble_eq_true rfl))
    refine ⟨S3, c2, fun n r => ?_⟩
    show lpE pRdF (3 + n) p (S, r) = lpE pRdF n (p + 3) (S3, r)
    rw [show 3 + n = n + 1 + 1 + 1 by omega, rd_s (a1 r), rd_s (b1 r), rd_s (c1 r)]
  · obtain ⟨S1, a1, a2, a3⟩ := rd_0 (k := p) h hi (ht 0 (by exact Nat.le_of_ble_eq_true rfl)) (by simp)
    obtain ⟨S2, b1, b2, -⟩ := rd_2 (k := p + 1) (dg := 0) a2 hd a3 (by omega) (ht 1 (by exact Nat.le_of_ble_eq_true rfl))
    obtain ⟨S3, c1, c2⟩ := rd_end (k := p + 2) b2 (Or.inl rfl) hi (ht 2 (by exact Nat.le_of_ble_eq_true rfl))
    refine ⟨S3, c2, fun n r => ?_⟩
    show lpE pRdF (3 + n) p (S, r) = lpE pRdF n (p + 3) (S3, r)
    rw [show 3 + n = n + 1 + 1 + 1 by omega, rd_s (a1 r), rd_s (b1 r), rd_s (c1 r)]
  · obtain ⟨S1, a1, a2, a3⟩ := rd_0 (k := p) h hi (ht 0 (by exact Nat.le_of_ble_eq_true rfl)) (by simp)
    obtain ⟨S2, b1, b2, b3⟩ := rd_2 (k := p + 1) (dg := 0) a2 hd a3 (by omega) (ht 1 (by exact Nat.le_of_ble_eq_true rfl))
    obtain ⟨S3, c1, c2, -⟩ := rd_4 (k := p + 2) (dg := 1) b2 he b3 (by omega) (ht 2 (by exact Nat.le_of_ble_eq_true rfl))
    obtain ⟨S4, d1, d2⟩ := rd_end (k := p + 3) c2 (Or.inl rfl) hi (ht 3 (by exact Nat.le_of_ble_eq_true rfl))
    refine ⟨S4, d2, fun n r => ?_⟩
    show lpE pRdF (4 + n) p (S, r) = lpE pRdF n (p + 4) (S4, r)
    rw [show 4 + n = n + 1 + 1 + 1 + 1 by omega, rd_s (a1 r), rd_s (b1 r), rd_s (c1 r), rd_s (d1 r)]
  · obtain ⟨S1, a1, a2, a3⟩ := rd_0 (k := p) h hi (ht 0 (by exact Nat.le_of_ble_eq_true rfl)) (by simp)
    obtain ⟨S2, b1, b2, b3⟩ := rd_2m (k := p + 1) a2 (ht 1 (by exact Nat.le_of_ble_eq_true rfl))
    obtain ⟨S3, c1, c2, -⟩ := rd_3 (k := p + 2) (dg := 0) b2 hd (b3.trans a3) (by omega) (ht 2 (by exact Nat.le_of_ble_eq_true rfl))
    obtain ⟨S4, d1, d2⟩ := rd_end (k := p + 3) c2 (Or.inl rfl) hi (ht 3 (by exact Nat.le_of_ble_eq_true rfl))
    refine ⟨S4, d2, fun n r => ?_⟩
    show lpE pRdF (4 + n) p (S, r) = lpE pRdF n (p + 4) (S4, r)
    rw [show 4 + n = n + 1 + 1 + 1 + 1 by omega, rd_s (a1 r), rd_s (b1 r), rd_s (c1 r), rd_s (d1 r)]
  · obtain ⟨S1, a1, a2, a3⟩ := rd_0 (k := p) h hi (ht 0 (by exact Nat.le_of_ble_eq_true rfl)) (by simp)
    obtain ⟨S2, b1, b2, b3⟩ := rd_2m (k := p + 1) a2 (ht 1 (by exact Nat.le_of_ble_eq_true rfl))
    obtain ⟨S3, c1, c2, c3⟩ := rd_3 (k := p + 2) (dg := 0) b2 hd (b3.trans a3) (by omega) (ht 2 (by exact Nat.le_of_ble_eq_true rfl))
    obtain ⟨S4, d1, d2, -⟩ := rd_4 (k := p + 3) (dg := 1) c2 he c3 (by omega) (ht 3 (by exact Nat.le_of_ble_eq_true rfl))
    obtain ⟨S5, e1, e2⟩ := rd_end (k := p + 4) d2 (Or.inl rfl) hi (ht 4 (by exact Nat.le_of_ble_eq_true rfl))
    refine ⟨S5, e2, fun n r => ?_⟩
    show lpE pRdF (5 + n) p (S, r) = lpE pRdF n (p + 5) (S5, r)
    rw [show 5 + n = n + 1 + 1 + 1 + 1 + 1 by omega, rd_s (a1 r), rd_s (b1 r), rd_s (c1 r), rd_s (d1 r), rd_s (e1 r)]
/-- the first tl signs of the text t0 are k instructions -/
def PR (t0 : Nat → Int32) (k tl : Nat) : Prop := ∀ (tx : Nat → Int32) (V : St), (∀ j, j < tl → tx j = t0 j) → RW tx V 0 0 → ∃ V', RW tx V' k 0 ∧ ∀ n r, lpE pRdF (tl + n) 0 (V, r) = lpE pRdF n tl (V', r)
theorem PR_0 (t0 : Nat → Int32) : PR t0 0 0 := fun tx V _ h => ⟨V, h, fun n r => by rw [Nat.zero_add]⟩
theorem PR_add {t0 t1 : Nat → Int32} {k tl : Nat} {cs : List Int32} (h : PR t0 k tl) (hk : k < 30) (hc : CK cs) (e0 : ∀ j, j < tl → t1 j = t0 j) (e1 : ∀ j, j < cs.length → t1 (tl + j) = cs.getD j 0) : PR t1 (k + 1) (tl + cs.length) := by
  intro tx V ht hV
  obtain ⟨V1, a1, a2⟩ := h tx V (fun j hj => (ht j (by omega)).trans (e0 j hj)) hV
  obtain ⟨V2, b1, b2⟩ := ck_ok (p := tl) hc a1 hk (fun j hj => (ht (tl + j) (by omega)).trans (e1 j hj))
  exact ⟨V2, b1, fun n r => by rw [Nat.add_assoc, a2, b2]⟩
theorem PR_read {S : St} {k tl : Nat} (h : PR (S 6 0 1) k tl) (ht : S 6 0 0 1 = nI tl) (htl : tl ≤ 120) : (pRdT S (pTL S)).1 = -1 ∧ (pRdT S (pTL S)).2 6 0 3 2 = nI k := by
  have eT : pTL S = tl := by show (S 6 0 0 1).toNatClampNeg = tl; rw [ht]; exact nI_clamp (by omega)
  rw [eT]
  obtain ⟨V', a1, a2⟩ := h (S 6 0 1) (setF (setF S 6 0 3 2 0) 6 0 2 1 0) (fun _ _ => rfl) ⟨by simp (disch := omega) only [sF_eq, sF_ne]; rfl, by simp (disch := omega) only [sF_eq, sF_ne]; rfl, fun k => by simp (disch := omega) only [sF_eq, sF_ne]⟩
  have e : pRdL S tl = (true, V', 0) := by
    unfold pRdL
    have := a2 0 0
    rw [Nat.add_zero] at this
    rw [this]; rfl
  unfold pRdT
  rw [e, if_pos rfl]
  dsimp only
  rw [if_pos (by rw [a1.2.1]; rfl)]
  exact ⟨rfl, a1.1⟩
/-- signs behind the text -/
theorem apL_at : ∀ (cs : List Int32) (S : St) (t : Nat), S 6 0 0 1 = nI t → t + cs.length < 2 ^ 30 → apL cs S 6 0 0 1 = nI (t + cs.length) ∧ (∀ j, j < t → apL cs S 6 0 1 j = S 6 0 1 j) ∧ (∀ j, j < cs.length → apL cs S 6 0 1 (t + j) = cs.getD j 0)
  | [], S, t, h, _ => ⟨h, fun _ _ => rfl, fun j hj => absurd hj (Nat.not_lt_zero j)⟩
  | c :: cs, S, t, h, hl => by
    have hl' : t + 1 + cs.length < 2 ^ 30 := by have : (c :: cs).length = cs.length + 1 := rfl
                                                omega
    have eT : (S 6 0 0 1).toNatClampNeg = t := by rw [h]; exact nI_clamp (by omega)
    obtain ⟨a1, a2, a3⟩ := apL_at cs (pAppS S c) (t + 1) (app_tl h (by omega)) hl'
    have es : ∀ j, pAppS S c 6 0 1 j = if j = t then c else S 6 0 1 j := fun j => by
      unfold pAppS
      rw [sF_ne (by omega)]
      by_cases hj : j = t
      · rw [if_pos hj, sF_eq ⟨rfl, rfl, rfl, hj.trans eT.symm⟩]
      · rw [if_neg hj, sF_ne (fun z => hj (z.2.2.2.trans eT))]
    refine ⟨?_, fun j hj => ?_, fun j hj => ?_⟩
    · show apL cs (pAppS S c) 6 0 0 1 = nI (t + (cs.length + 1))
      rw [a1, show t + 1 + cs.length = t + (cs.length + 1) by omega]
    · show apL cs (pAppS S c) 6 0 1 j = _
      rw [a2 j (by omega), es, if_neg (by omega)]
    · show apL cs (pAppS S c) 6 0 1 (t + j) = _
      cases j with
      | zero => rw [Nat.add_zero, a2 t (by omega), es, if_pos rfl]; rfl
      | succ j =>
        have hj' : j < cs.length := Nat.lt_of_succ_lt_succ hj
        rw [show t + (j + 1) = t + 1 + j by omega, a3 j hj']; rfl
theorem LI_apL {n N P k : Nat} : ∀ (cs : List Int32) (S : St) (t : Nat), LI S n N P k → S 6 0 0 1 = nI t → t + cs.length ≤ 120 → LI (apL cs S) n N P k
  | [], _, _, h, _, _ => h
  | c :: cs, S, t, h, ht, hl => by
    have hl' : t + 1 + cs.length ≤ 120 := by have : (c :: cs).length = cs.length + 1 := rfl
                                             omega
    exact LI_apL cs (pAppS S c) (t + 1) (LI_app h (by show (S 6 0 0 1).toNatClampNeg < 120; rw [ht, nI_clamp (by omega)]; omega)) (app_tl ht (by omega)) hl'
/-- the law's types -/
theorem q_types {l : Launch} {Z : wZ} {S : St} {h : Hl} {tl : Nat} (x : Int32) (ht : S 6 0 0 1 = nI tl) (htl : tl + 5 ≤ 120) : ∃ cs, CK cs ∧ 2 ≤ cs.length ∧ cs.length ≤ 5 ∧ Cq l yL_types (.code yL_types cL_types 7 (some .int)) 0 0 3 62 Z [.ref (zA Z 6 0 0), .int x, .int 3] S h (nI (tl + cs.length)) (apL cs S) h := by
  obtain ⟨kd, hkd, ekd⟩ := low_ok x (k := 10) (by omega) (by omega)
  obtain ⟨u3, hu3, eu3⟩ := low_ok (x >>> (4 &&& 31)) (k := 3) (by omega) (by omega)
  obtain ⟨u, hu, eu⟩ := low_ok (x >>> (4 &&& 31)) (k := 41) (by omega) (by omega)
  have hcs : kd = 0 ∨ kd = 1 ∨ kd = 2 ∨ kd = 3 ∨ kd = 4 ∨ kd = 5 ∨ kd = 6 ∨ kd = 7 ∨ kd = 8 ∨ kd = 9 := by omega
  rcases hcs with rfl | rfl | rfl | rfl | rfl | rfl | rfl | rfl | rfl | rfl
  · exact ⟨_, Or.inl ⟨98, Or.inl rfl, rfl⟩, by exact Nat.le_of_ble_eq_true rfl, by exact Nat.le_of_ble_eq_true rfl, ty_b l Z S h x tl ht htl ekd⟩
  · exact ⟨_, Or.inl ⟨99, Or.inr rfl, rfl⟩, by exact Nat.le_of_ble_eq_true rfl, by exact Nat.le_of_ble_eq_true rfl, ty_c l Z S h x tl ht htl ekd⟩
  · exact ⟨_, Or.inr (Or.inl ⟨114, u3, Or.inl rfl, by omega, rfl⟩), by exact Nat.le_of_ble_eq_true rfl, by exact Nat.le_of_ble_eq_true rfl, ty_2 l Z S h x tl ht htl ekd u3 eu3 hu3⟩
  · exact ⟨_, Or.inr (Or.inl ⟨114, u3, Or.inl rfl, by omega, rfl⟩), by exact Nat.le_of_ble_eq_true rfl, by exact Nat.le_of_ble_eq_true rfl, ty_3 l Z S h x tl ht htl ekd u3 eu3 hu3⟩
  · exact ⟨_, Or.inr (Or.inl ⟨114, u3, Or.inl rfl, by omega, rfl⟩), by exact Nat.le_of_ble_eq_true rfl, by exact Nat.le_of_ble_eq_true rfl, ty_4 l Z S h x tl ht htl ekd u3 eu3 hu3⟩
  · exact ⟨_, Or.inr (Or.inl ⟨119, u3, Or.inr rfl, by omega, rfl⟩), by exact Nat.le_of_ble_eq_true rfl, by exact Nat.le_of_ble_eq_true rfl, ty_5 l Z S h x tl ht htl ekd u3 eu3 hu3⟩
  · exact ⟨_, Or.inr (Or.inl ⟨119, u3, Or.inr rfl, by omega, rfl⟩), by exact Nat.le_of_ble_eq_true rfl, by exact Nat.le_of_ble_eq_true rfl, ty_6 l Z S h x tl ht htl ekd u3 eu3 hu3⟩
  · exact ⟨_, Or.inr (Or.inl ⟨119, u3, Or.inr rfl, by omega, rfl⟩), by exact Nat.le_of_ble_eq_true rfl, by exact Nat.le_of_ble_eq_true rfl, ty_7 l Z S h x tl ht htl ekd u3 eu3 hu3⟩
  · by_cases hn : u < 20
    · by_cases h9 : 9 < 20 - u
      · exact ⟨_, Or.inr (Or.inr (Or.inr (Or.inr (Or.inr ⟨(20 - u) / 10, (20 - u) % 10, by omega, by omega, rfl⟩)))), by exact Nat.le_of_ble_eq_true rfl, by exact Nat.le_of_ble_eq_true rfl, ty_8n2 l Z S h x tl ht htl ekd u (20 - u) eu hn rfl h9⟩
      · exact ⟨_, Or.inr (Or.inr (Or.inr (Or.inr (Or.inl ⟨(20 - u) % 10, by omega, rfl⟩)))), by exact Nat.le_of_ble_eq_true rfl, by exact Nat.le_of_ble_eq_true rfl, ty_8n1 l Z S h x tl ht htl ekd u (20 - u) eu hn rfl (by omega)⟩
    · by_cases h9 : 9 < u - 20
      · exact ⟨_, Or.inr (Or.inr (Or.inr (Or.inl ⟨(u - 20) / 10, (u - 20) % 10, by omega, by omega, rfl⟩))), by exact Nat.le_of_ble_eq_true rfl, by exact Nat.le_of_ble_eq_true rfl, ty_8p2 l Z S h x tl ht htl ekd u (u - 20) eu (by omega) (by omega) h9⟩
      · exact ⟨_, Or.inr (Or.inr (Or.inl ⟨(u - 20) % 10, by omega, rfl⟩)), by exact Nat.le_of_ble_eq_true rfl, by exact Nat.le_of_ble_eq_true rfl, ty_8p1 l Z S h x tl ht htl ekd u (u - 20) eu (by omega) (by omega) (by omega)⟩
  · by_cases hn : u < 20
    · by_cases h9 : 9 < 20 - u
      · exact ⟨_, Or.inr (Or.inr (Or.inr (Or.inr (Or.inr ⟨(20 - u) / 10, (20 - u) % 10, by omega, by omega, rfl⟩)))), by exact Nat.le_of_ble_eq_true rfl, by exact Nat.le_of_ble_eq_true rfl, ty_9n2 l Z S h x tl ht htl ekd u (20 - u) eu hn rfl h9⟩
      · exact ⟨_, Or.inr (Or.inr (Or.inr (Or.inr (Or.inl ⟨(20 - u) % 10, by omega, rfl⟩)))), by exact Nat.le_of_ble_eq_true rfl, by exact Nat.le_of_ble_eq_true rfl, ty_9n1 l Z S h x tl ht htl ekd u (20 - u) eu hn rfl (by omega)⟩
    · by_cases h9 : 9 < u - 20
      · exact ⟨_, Or.inr (Or.inr (Or.inr (Or.inl ⟨(u - 20) / 10, (u - 20) % 10, by omega, by omega, rfl⟩))), by exact Nat.le_of_ble_eq_true rfl, by exact Nat.le_of_ble_eq_true rfl, ty_9p2 l Z S h x tl ht htl ekd u (u - 20) eu (by omega) (by omega) h9⟩
      · exact ⟨_, Or.inr (Or.inr (Or.inl ⟨(u - 20) % 10, by omega, rfl⟩)), by exact Nat.le_of_ble_eq_true rfl, by exact Nat.le_of_ble_eq_true rfl, ty_9p1 l Z S h x tl ht htl ekd u (u - 20) eu (by omega) (by omega) (by omega)⟩

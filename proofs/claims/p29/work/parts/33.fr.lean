/-! what a step of the reference leaves -/
def frG (S S' : St) : Prop := (∀ m g i, ¬ (m = 7 ∧ g = 0 ∧ i ≤ 1) → S' m g i = S m g i) ∧ (∀ k, k ≠ 13 → S' 7 0 0 k = S 7 0 0 k) ∧ (S 7 0 0 8 = 1 → ∀ k, 406 ≤ k → S' 7 0 1 k = S 7 0 1 k)
/-- and with at most n more aborted -/
def frT (n : Nat) (S S' : St) : Prop := frG S S' ∧ ∀ c, okI (S 7 0 0 13) c → c + n < 2 ^ 30 → okI (S' 7 0 0 13) (c + n)
theorem frG.rf (S : St) : frG S S := ⟨fun _ _ _ _ => rfl, fun _ _ => rfl, fun _ _ _ => rfl⟩
theorem frG.tr {S T U : St} (h1 : frG S T) (h2 : frG T U) : frG S U :=
  ⟨fun m g i hn => (h2.1 m g i hn).trans (h1.1 m g i hn), fun k hk => (h2.2.1 k hk).trans (h1.2.1 k hk), fun h8 k hk => (h2.2.2 (by rw [h1.2.1 8 (by omega)]; exact h8) k hk).trans (h1.2.2 h8 k hk)⟩
theorem frT.rf (S : St) : frT 0 S S := ⟨frG.rf S, fun _ h _ => h⟩
theorem frT.tr {a b : Nat} {S T U : St} (h1 : frT a S T) (h2 : frT b T U) : frT (a + b) S U := ⟨h1.1.tr h2.1, fun c hc hn => by
  have := h2.2 (c + a) (h1.2 c hc (by omega)) (by omega)
  rw [show c + (a + b) = c + a + b by omega]; exact this⟩
theorem frT.tr0 {a : Nat} {S T U : St} (h1 : frT a S T) (h2 : frT 0 T U) : frT a S U := h1.tr h2
theorem frT.up {a b : Nat} {S T : St} (h1 : frT a S T) (hab : a ≤ b) : frT b S T := ⟨h1.1, fun c hc hn => by
  have := h1.2 c hc (by omega)
  exact ⟨this.1, by have := this.2; omega⟩⟩
theorem frT.set {S : St} {k : Nat} {v : Int32} (hk : k < 406) : frT 0 S (setF S 7 0 1 k v) :=
  ⟨⟨fun m g i hn => by funext q; simp (disch := omega) only [sF_eq, sF_ne], fun q hq => by simp (disch := omega) only [sF_eq, sF_ne], fun _ q hq => by simp (disch := omega) only [sF_eq, sF_ne]⟩, fun c hc _ => by rw [sF_ne (by omega)]; exact hc⟩
theorem frT.put {S : St} {a w : Nat} {v : Int32} (ha : a < 4) (hw : w < 96) : frT 0 S (rPut S a w v) := frT.set (by omega)
theorem frT.bump {S : St} {k : Nat} (hk : k < 406) : frT 0 S (rBump S k) := frT.set hk
theorem frT.i13 {S : St} : frT 1 S (setF S 7 0 0 13 (S 7 0 0 13 + 1)) :=
  ⟨⟨fun m g i hn => by funext q; simp (disch := omega) only [sF_eq, sF_ne], fun q hq => by simp (disch := omega) only [sF_eq, sF_ne], fun _ q hq => by simp (disch := omega) only [sF_eq, sF_ne]⟩, fun c hc hn => by rw [sF_eq (by omega)]; exact (okI_inc hc (by omega)).1⟩
theorem frTlp (f : Nat → St → St) (N : Nat) (h : ∀ k S, k < N → frT 0 S (f k S)) : ∀ (n k : Nat) (S : St), k + n ≤ N → frT 0 S (lp f n k S)
  | 0, _, S, _ => frT.rf S
  | n + 1, k, S, hk => (h k S (by omega)).tr (frTlp f N h n (k + 1) (f k S) (by omega))
theorem frTlpE (f : Nat → St → Bool × St) (N : Nat) (h : ∀ k S, k < N → frT 1 S (f k S).2) : ∀ (n k : Nat) (S : St), k + n ≤ N → frT n S (lpE f n k S).2
  | 0, _, S, _ => frT.rf S
  | n + 1, k, S, hk => by
    rw [lpE]
    split
    · rw [show n + 1 = 1 + n by omega]
      exact (h k S (by omega)).tr (frTlpE f N h n (k + 1) (f k S).2 (by omega))
    · exact (h k S (by omega)).up (by omega)
theorem rAbF_T {S : St} {a k : Nat} (ha : a < 4) (hk : k < 8) : frT 0 S (rAbF a k S) := by
  unfold rAbF
  split
  · exact (frT.put ha (by omega)).tr (frT.put ha (by omega))
  · exact frT.rf S
theorem rAbort_T {S : St} {a u : Nat} (ha : a < 4) (hu : u < 8) : frT 1 S (rAbort S a u) := by
  have h1 : frT 0 S (lp (rAbF a) 8 0 S) := frTlp _ 8 (fun k S hk => rAbF_T ha hk) 8 0 S (by omega)
  unfold rAbort
  exact (((((((((h1.tr (frT.put ha (by omega))).tr (frT.put ha (by omega))).tr (frT.put ha (by omega))).tr (frT.put ha (by omega))).tr (frT.put ha (by omega))).tr (frT.put ha (by omega))).tr (frT.bump (by omega))).tr (frT.bump (by omega))).tr frT.i13)
theorem rResF_T {S : St} {a j k : Nat} {w : Bool} (ha : a < 4) (hk : k < 4) : frT 1 S (rResF a j w k S).2 := by
  unfold rResF
  split
  · exact (frT.rf S).up (by omega)
  · split
    · split
      · exact rAbort_T hk (by omega)
      · exact rAbort_T ha (by omega)
    · exact (frT.rf S).up (by omega)
theorem rRes_T {S : St} {a j : Nat} {w : Bool} (ha : a < 4) (hc : rCC S ≤ 4) : frT 4 S (rRes S a j w).2 :=
  (frTlpE _ 4 (fun k S hk => rResF_T ha hk) (rCC S) 0 S (by omega)).up hc
theorem rWB_T {S : St} {a j : Nat} (hj : j < 8) : frT 0 S (rWB S a j) := (frT.set (by omega)).tr (frT.bump (by omega))
theorem rColF_T {S : St} {a j k : Nat} (hj : j < 8) (hk : k < 4) : frT 0 S (rColF a j k S) := by
  unfold rColF
  split
  · exact frT.rf S
  · split
    · exact (rWB_T hj).tr (frT.put hk (by omega))
    · exact frT.rf S
theorem rCol_T {S : St} {a j : Nat} (hj : j < 8) (hc : rCC S ≤ 4) : frT 0 S (rCol S a j) :=
  frTlp _ 4 (fun k S hk => rColF_T hj hk) (rCC S) 0 S (by omega)
theorem rCC_eq {S T : St} (h : T 7 0 1 0 = S 7 0 1 0) : rCC T = rCC S := by show (T 7 0 1 0).toNatClampNeg = (S 7 0 1 0).toNatClampNeg; rw [h]
theorem rMiss_T {S : St} {a j : Nat} (ha : a < 4) (hj : j < 8) (hc : rCC S ≤ 4) : frT 0 S (rMiss S a j) := by
  unfold rMiss
  exact (((frT.bump (by omega)).tr (rCol_T hj (by rw [rCC_eq (S := S) (rBump_ne (by omega))]; exact hc))).tr (frT.put ha (by omega))).tr (frT.put ha (by omega))
theorem rNote_T {S : St} {a j : Nat} {v : Int32} (ha : a < 4) (hj : j < 8) : frT 0 S (rNote S a j v) := by
  unfold rNote
  split
  · unfold rNoteA
    dsimp only
    split
    · exact frT.put ha (by omega)
    · exact ((frT.put ha (by omega)).tr (frT.put ha (by omega))).tr (frT.put ha (by omega))
  · exact frT.rf S
theorem rGot_T {S : St} {a j : Nat} (ha : a < 4) (hj : j < 8) : frT 0 S (rGot S a j) := (frT.put ha (by omega)).tr (rNote_T ha hj)
theorem rLoad_T {S : St} {a j : Nat} (ha : a < 4) (hj : j < 8) (hc : rCC S ≤ 4) : frT 4 S (rLoad S a j).2 := by
  have h1 := rRes_T (S := S) (j := j) (w := false) ha hc
  unfold rLoad
  split
  · dsimp only
    split
    · exact (h1.tr (rMiss_T ha hj (by rw [rCC_eq (S := S) (rRes_k lo0)]; exact hc))).tr (rGot_T ha hj)
    · exact h1.tr (rGot_T ha hj)
  · exact h1
theorem rOwnF_T {S : St} {a j k : Nat} (hj : j < 8) (hk : k < 4) : frT 0 S (rOwnF a j k S) := by
  unfold rOwnF
  split
  · exact frT.rf S
  · split
    · exact frT.rf S
    · exact ((frT.put hk (by omega)).tr (frT.put hk (by omega))).tr (frT.bump (by omega))
theorem rOwn_T {S : St} {a j : Nat} (ha : a < 4) (hj : j < 8) (hc : rCC S ≤ 4) : frT 0 S (rOwn S a j) := by
  have go : ∀ T, frT 0 S T → T 7 0 1 0 = S 7 0 1 0 → frT 0 S (lp (rOwnF a j) (rCC (rCol T a j)) 0 (rCol T a j)) := fun T hT e =>
    (hT.tr (rCol_T hj (by rw [rCC_eq e]; exact hc))).tr (frTlp _ 4 (fun k S hk => rOwnF_T hj hk) _ 0 _ (by
      have : rCC (rCol T a j) = rCC S := rCC_eq ((rCol_k hj lo0).trans e)
      omega))
  unfold rOwn
  by_cases hs : rOf S a (20 + j) = 0
  · simp only [if_pos hs]
    exact ((go _ (frT.bump (by omega)) (rBump_ne (by omega))).tr (frT.put ha (by omega))).tr (frT.put ha (by omega))
  · simp only [if_neg hs]
    exact (go _ (frT.bump (by omega)) (rBump_ne (by omega))).tr (frT.put ha (by omega))
theorem rLog_T {S : St} {a : Nat} {t x y : Int32} : frT 0 S (rLog S a t x y) := by
  have hL : ∀ (T : St), ∀ i k, ¬ (i = 1 ∧ 406 ≤ k) → lp (rLogF (406 + 19 * rQ S) a x y) 8 0 T 7 0 i k = T 7 0 i k := fun T i k hn =>
    lp_ne (rLogF (406 + 19 * rQ S) a x y) (fun U => U 7 0 i k) (fun q U => by simp only [rLogF]; simp (disch := omega) only [sF_eq, sF_ne]) 8 0 T
  have hL2 : ∀ (T : St) m g i, ¬ (m = 7 ∧ g = 0 ∧ i ≤ 1) → lp (rLogF (406 + 19 * rQ S) a x y) 8 0 T m g i = T m g i := fun T m g i hn =>
    lp_ne (rLogF (406 + 19 * rQ S) a x y) (fun U => U m g i) (fun q U => by funext k; simp only [rLogF]; simp (disch := omega) only [sF_eq, sF_ne]) 8 0 T
  unfold rLog
  split
  · rename_i h8
    split
    · exact frT.rf S
    · refine ⟨⟨fun m g i hn => ?_, fun k hk => ?_, fun z => ?_⟩, fun c hc hn => ?_⟩
      · rw [← hL2 S m g i hn]
        funext k
        simp (disch := omega) only [rBump, sF_eq, sF_ne]
        rw [hL2 _ m g i hn, hL2 _ m g i hn]
        simp (disch := omega) only [rLogH, sF_eq, sF_ne]
      · simp (disch := omega) only [rBump, sF_eq, sF_ne]
        rw [hL _ 0 k (by omega)]
        simp (disch := omega) only [rLogH, sF_eq, sF_ne]
      · rw [h8] at z; exact absurd z (by decide)
      · simp (disch := omega) only [rBump, sF_eq, sF_ne]
        rw [hL _ 0 13 (by omega)]
        simp (disch := omega) only [rLogH, sF_eq, sF_ne]
        exact hc
  · exact frT.rf S
theorem rHold_T {S : St} {a j : Nat} {w : Bool} (ha : a < 4) (hj : j < 8) (hc : rCC S ≤ 4) : frT 0 S (rHold S a j w) := by
  unfold rHold
  split
  · split
    · exact rWB_T hj
    · exact frT.rf S
  · exact rOwn_T ha hj hc
theorem rPutV_T {S : St} {a j : Nat} {w : Bool} (ha : a < 4) (hj : j < 8) : frT 0 S (rPutV S a j w) := by
  cases w
  · rw [rPutV_0 rfl]
    split
    · exact (frT.put ha (by omega)).tr rLog_T
    · exact frT.put ha (by omega)
  · rw [rPutV_1 rfl]
    split
    · exact ((frT.put ha (by omega)).tr (frT.put ha (by omega))).tr rLog_T
    · exact (frT.put ha (by omega)).tr (frT.put ha (by omega))
theorem rStB_T {S : St} {a j : Nat} (ha : a < 4) (hj : j < 8) (hc : rCC S ≤ 4) : frT 1 S (rStB S a j).2 := by
  unfold rStB
  split
  · split
    · exact rAbort_T ha (by omega)
    · exact ((rHold_T ha hj hc).tr (rPutV_T ha hj)).up (by omega)
  · exact ((rHold_T ha hj hc).tr (rPutV_T ha hj)).up (by omega)
theorem rStore_T {S : St} {a j : Nat} (ha : a < 4) (hj : j < 8) (hc : rCC S ≤ 4) : frT 5 S (rStore S a j).2 := by
  have h1 := rRes_T (S := S) (j := j) (w := true) ha hc
  unfold rStore
  split
  · exact h1.tr (rStB_T ha hj (by rw [rCC_eq (S := S) (rRes_k lo0)]; exact hc))
  · exact h1.up (by omega)
theorem rBeg_T {S : St} {a : Nat} (ha : a < 4) : frT 0 S (rBeg S a) := by
  by_cases h : rOf S a 3 = 1
  · unfold rBeg; rw [if_pos h]; exact frT.rf S
  · rw [rBeg_1 S a h]
    have hp : ∀ T, frT 0 S T → frT 0 S (rBegP T a) := fun T hT => by
      unfold rBegP
      exact ((((((hT.tr (frT.put ha (by omega))).tr (frT.put ha (by omega))).tr (frT.put ha (by omega))).tr (frT.put ha (by omega))).tr (frT.put ha (by omega))).tr (frT.put ha (by omega)))
    apply hp
    split
    · exact (frT.put ha (by omega)).tr (frT.bump (by omega))
    · exact frT.rf S
theorem rEnd_T {S : St} {a : Nat} (ha : a < 4) : frT 0 S (rEnd S a) := by
  unfold rEnd
  split
  · exact frT.rf S
  · exact ((((((rLog_T.tr (frT.put ha (by omega))).tr (frT.put ha (by omega))).tr (frT.put ha (by omega))).tr (frT.put ha (by omega))).tr (frT.put ha (by omega))).tr (frT.bump (by omega)))
theorem rExec_T {S : St} {a j : Nat} {x op : Int32} (ha : a < 4) (hj : x = 114 ∨ x = 119 → j < 8) (hc : rCC S ≤ 4) : frT 5 S (rExec S a x op j).2 := by
  unfold rExec
  split
  · exact (rBeg_T ha).up (by omega)
  · split
    · exact (rEnd_T ha).up (by omega)
    · split
      · rename_i z; exact (rLoad_T ha (hj (Or.inl z)) hc).up (by omega)
      · split
        · rename_i z; exact rStore_T ha (hj (Or.inr z)) hc
        · exact (frT.put ha (by omega)).up (by omega)
theorem rGo_T {S : St} {a : Nat} (ha : a < 4) (hw : wfE S a) : frG S (rGo S a).2 ∧ ¬ (rGo S a).1 < 0 := by
  obtain ⟨w0, -, -, w4⟩ := wfE_go hw
  have h0 : frG S (rBump (setF S 7 0 0 13 0) 20) := by
    refine frG.tr (T := setF S 7 0 0 13 0) ⟨fun m g i hn => by funext q; simp (disch := omega) only [sF_eq, sF_ne], fun q hq => by simp (disch := omega) only [sF_eq, sF_ne], fun _ q hq => by simp (disch := omega) only [sF_eq, sF_ne]⟩ (frT.bump (by omega)).1
  have hT : frT 5 (rBump (setF S 7 0 0 13 0) 20) (rGoB S a).2 := by
    unfold rGoB rExe
    exact rExec_T ha (fun z => by have := (w4 z).2; omega) w0.2
  have hb := hT.2 0 (okI_lit (k := 0) (by omega) (by omega) _ (by simp (disch := omega) only [rBump, sF_eq, sF_ne]; rfl)) (by omega)
  obtain ⟨n, hn, en⟩ := okI_ex hb
  unfold rGo
  split
  · refine ⟨(h0.tr hT.1).tr (frT.put ha (by omega)).1, ?_⟩
    show ¬ rPut (rGoB S a).2 a 1 (rOf (rGoB S a).2 a 1 + 1) 7 0 0 13 + 0 < 0
    rw [Int32.add_zero]
    simp (disch := omega) only [rPut, rBump, rOf, sF_eq, sF_ne]
    rw [en]
    exact nI_pos (by omega)
  · refine ⟨h0.tr hT.1, ?_⟩
    show ¬ (rGoB S a).2 7 0 0 13 + 8 < 0
    rw [en, show (8 : Int32) = nI 8 from rfl, nI_add]
    exact nI_pos (by omega)

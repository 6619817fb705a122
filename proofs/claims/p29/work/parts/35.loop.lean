/-! runs, side by side -/
theorem runs_key {S T : St} {m N b : Nat} {A : Int32} (h : rel S m T N A) (hN : N + b < 2 ^ 30) (n : Nat) (hn : n ≤ b) :
    ((lpE (pOftF m) n 0 S).1 = true ∧ (lpE rRunF n 0 T).1 = true ∧ frG T (lpE rRunF n 0 T).2 ∧ ∃ A', rel (lpE (pOftF m) n 0 S).2 m (lpE rRunF n 0 T).2 (N + b) A') ∨ ((lpE (pOftF m) n 0 S).1 = false ∧ (lpE rRunF n 0 T).1 = false ∧ frG T (lpE rRunF n 0 T).2 ∧ ∃ A', rel (lpE (pOftF m) n 0 S).2 m (lpE rRunF n 0 T).2 (N + b) A') := by
  have key := lpE_rel (pOftF m) rRunF (fun k U V => frG T V ∧ ∃ A', rel U m V (N + k) A') (fun U V => frG T V ∧ ∃ A', rel U m V (N + b) A') b (fun k U V hk ⟨f1, A', q⟩ => by
    unfold pOftF rRunF
    rcases sch_rel q (by omega) with ⟨d1, d2, d3, -⟩ | ⟨d1, d2, d3, A2, d4⟩
    · rw [if_pos d1, d3, if_neg (show ¬ (false, V).1 = true from nt rfl), d2]
      exact Or.inr ⟨rfl, rfl, f1, A', rel_mono q (by omega)⟩
    · rw [if_neg d1, if_pos d2]
      exact Or.inl ⟨rfl, rfl, f1.tr d3, A2, d4⟩) n 0 S T (by omega) ⟨frG.rf T, A, h⟩
  rcases key with ⟨k1, k2, k3, A2, k4⟩ | ⟨k1, k2, k3, k4⟩
  · exact Or.inl ⟨k1, k2, k3, A2, rel_mono k4 (by omega)⟩
  · exact Or.inr ⟨k1, k2, k3, k4⟩
theorem runs_rel {S T : St} {m N b : Nat} {A : Int32} (h : rel S m T N A) (hN : N + b < 2 ^ 30) :
    okDs S m b ∧ okRs T b ∧ frG T (rRuns T b) ∧ ∃ A', rel (pOft S m b) m (rRuns T b) (N + b) A' := by
  refine ⟨fun i hi ht => ?_, fun i hi ht => ?_, ?_⟩
  · rcases runs_key h hN i hi with ⟨-, -, -, A2, k4⟩ | ⟨k1, -⟩
    · exact (okD_rel k4).1
    · rw [k1] at ht; cases ht
  · rcases runs_key h hN i hi with ⟨-, -, -, A2, k4⟩ | ⟨-, k1, -⟩
    · exact (okD_rel k4).2
    · rw [k1] at ht; cases ht
  · rcases runs_key h hN b (Nat.le_refl _) with ⟨-, -, k3, k4⟩ | ⟨-, -, k3, k4⟩
    · exact ⟨k3, k4⟩
    · exact ⟨k3, k4⟩
theorem unt_key {S T : St} {m N b : Nat} {A : Int32} (h : rel S m T N A) (hN : N + b < 2 ^ 30) (n : Nat) (hn : n ≤ b) :
    ((lpE (pUntF m) n 0 (S, 0)).1 = true ∧ (lpE rUntF n 0 (T, 0)).1 = true ∧ frG T (lpE rUntF n 0 (T, 0)).2.1 ∧ ∃ A', rel (lpE (pUntF m) n 0 (S, 0)).2.1 m (lpE rUntF n 0 (T, 0)).2.1 (N + b) A') ∨ ((lpE (pUntF m) n 0 (S, 0)).1 = false ∧ (lpE rUntF n 0 (T, 0)).1 = false ∧ frG T (lpE rUntF n 0 (T, 0)).2.1 ∧ (lpE (pUntF m) n 0 (S, 0)).2.2 = (lpE rUntF n 0 (T, 0)).2.2 ∧ rRun (lpE rUntF n 0 (T, 0)).2.1 = 0 ∧ ∃ A', rel (lpE (pUntF m) n 0 (S, 0)).2.1 m (lpE rUntF n 0 (T, 0)).2.1 (N + b) A') := by
  have key := lpE_rel (pUntF m) rUntF (fun k U V => frG T V.1 ∧ ∃ A', rel U.1 m V.1 (N + k) A') (fun U V => frG T V.1 ∧ U.2 = V.2 ∧ rRun V.1 = 0 ∧ ∃ A', rel U.1 m V.1 (N + b) A') b (fun k U V hk ⟨f1, A', q⟩ => by
    unfold pUntF rUntF
    rcases sch_rel q (by omega) with ⟨d1, d2, d3, d4⟩ | ⟨d1, d2, d3, A2, d4⟩
    · rw [if_pos d1, d3, if_neg (show ¬ (false, V.1).1 = true from nt rfl), d2]
      exact Or.inr ⟨rfl, rfl, f1, rfl, d4, A', rel_mono q (by omega)⟩
    · rw [if_neg d1, if_pos d2]
      exact Or.inl ⟨rfl, rfl, f1.tr d3, A2, d4⟩) n 0 (S, 0) (T, 0) (by omega) ⟨frG.rf T, A, h⟩
  rcases key with ⟨k1, k2, k3, A2, k4⟩ | ⟨k1, k2, k3, k4, k5, k6⟩
  · exact Or.inl ⟨k1, k2, k3, A2, rel_mono k4 (by omega)⟩
  · exact Or.inr ⟨k1, k2, k3, k4, k5, k6⟩
theorem run0_fin {S T : St} {m N : Nat} {A : Int32} (h : rel S m T N A) (h0 : rRun T = 0) : rFinC T = T 7 0 1 0 := by
  obtain ⟨hc, hc4⟩ := cc_eq h
  have hle := uf_le (pFin S m) (pCC S m) 0
  rw [(pRun_uf h).2] at h0
  have u0 : uf (pFin S m) (pCC S m) 0 = 0 := (nI_eq (by omega) (by omega)).mp (h0.trans nI_0.symm)
  have e0 : S m 4 0 4 = T 7 0 1 0 := h.1.1 0 (by omega)
  have ecc : S m 4 0 4 = nI (pCC S m) := h.1.2.2.2.1.1
  rw [← (finC_rel h).1, finC_S hc4, u0, ← e0, ecc]; rfl
theorem unt_rel {S T : St} {m N : Nat} {A : Int32} (h : rel S m T N A) (hN : N + 2000 < 2 ^ 30) :
    (∀ i, i ≤ 2000 → (lpE (pUntF m) i 0 (S, 0)).1 = true → okD (lpE (pUntF m) i 0 (S, 0)).2.1 m) ∧ (∀ i, i ≤ 2000 → (lpE rUntF i 0 (T, 0)).1 = true → okR (lpE rUntF i 0 (T, 0)).2.1) ∧ frG T (rUntL T).2.1 ∧ okI ((rUntL T).2.1 7 0 1 0) 4 ∧
    (pUnt S m).1 = (if rFinC (rUntL T).2.1 = (rUntL T).2.1 7 0 1 0 then (if (rUntL T).1 = true then 2000 else (rUntL T).2.2) else -1) := by
  have key := unt_key (b := 2000) h hN
  refine ⟨fun i hi ht => ?_, fun i hi ht => ?_, ?_⟩
  · rcases key i hi with ⟨-, -, -, A2, k4⟩ | ⟨k1, -⟩
    · exact (okD_rel k4).1
    · rw [k1] at ht; cases ht
  · rcases key i hi with ⟨-, -, -, A2, k4⟩ | ⟨-, k1, -⟩
    · exact (okD_rel k4).2
    · rw [k1] at ht; cases ht
  · rcases key 2000 (Nat.le_refl _) with ⟨k1, k2, k3, A2, k4⟩ | ⟨k1, k2, k3, k4, k5, A2, k6⟩
    · have e0 : (pUntL S m).2.1 m 4 0 4 = (rUntL T).2.1 7 0 1 0 := k4.1.1 0 (by omega)
      have ef : pFinC (pUntL S m).2.1 m = rFinC (rUntL T).2.1 := (finC_rel k4).1
      refine ⟨k3, by rw [← e0]; exact k4.1.2.2.2.1, ?_⟩
      unfold pUnt
      rw [if_pos (show (pUntL S m).1 = true from k1), if_pos (show (rUntL T).1 = true from k2)]
      show (if pFinC (pUntL S m).2.1 m = (pUntL S m).2.1 m 4 0 4 then 2000 else -1) = _
      rw [e0, ef]
    · have e0 : (pUntL S m).2.1 m 4 0 4 = (rUntL T).2.1 7 0 1 0 := k6.1.1 0 (by omega)
      refine ⟨k3, by rw [← e0]; exact k6.1.2.2.2.1, ?_⟩
      unfold pUnt
      rw [if_neg (show ¬ (pUntL S m).1 = true from nt k1), if_pos (show rFinC (rUntL T).2.1 = (rUntL T).2.1 7 0 1 0 from run0_fin k6 k5), if_neg (show ¬ (rUntL T).1 = true from nt k2)]
      exact k4

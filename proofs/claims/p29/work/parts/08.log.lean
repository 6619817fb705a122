/-! Log -/
def okI (x : Int32) (b : Nat) : Prop := x = nI x.toNatClampNeg ∧ x.toNatClampNeg ≤ b
abbrev pQ (S : St) (m : Nat) : Nat := (S m 4 4 7).toNatClampNeg
abbrev pCC (S : St) (m : Nat) : Nat := (S m 4 0 4).toNatClampNeg
theorem rmI_le (m : Nat) : rmI m ≤ 400 := by unfold rmI; split <;> decide
def pHasE (S : St) (m : Nat) (a : Int32) : Bool := !decide (a < 0) && (!decide (S m 4 4 7 ≤ a) && !decide (nI (rmI m) ≤ a))
def pLogF (m q : Nat) (a : Int32) (m1 g1 i1 : Nat) (b : Int32) (m2 g2 i2 : Nat) (k : Nat) (S : St) : St :=
  let S1 := setF S m 4 9 (q * 8 + k) (if pContains a (nI k) = true then S m1 g1 i1 k else 0)
  setF S1 m 4 10 (q * 8 + k) (if pContains b (nI k) = true then S1 m2 g2 i2 k else 0)
def pAddE (S : St) (m : Nat) (x t a : Int32) (m1 g1 i1 : Nat) (b : Int32) (m2 g2 i2 : Nat) : St :=
  if pQ S m < rmI m then
    setF (lp (pLogF m (pQ S m) a m1 g1 i1 b m2 g2 i2) 8 0 (setF (setF (setF (setF S m 4 5 (pQ S m) x) m 4 6 (pQ S m) t) m 4 7 (pQ S m) a) m 4 8 (pQ S m) b)) m 4 4 7 (nI (pQ S m + 1))
  else S
def pAddT (S : St) (m : Nat) (x : Int32) (m2 g : Nat) : St := pAddE S m x (S m2 g 0 5) (S m2 g 0 11) m2 g 6 (S m2 g 0 10) m2 g 2
def pAddW (S : St) (m : Nat) (x : Int32) (k m2 g2 i2 : Nat) : St := pAddE S m x (-1) 0 m2 g2 i2 (1 <<< (nI k &&& 31)) m2 g2 i2
def pLFact (S : St) (m e k : Nat) : Int32 := if k = 0 then S m 4 5 e else if k = 1 then S m 4 6 e else if k = 2 then S m 4 7 e else S m 4 8 e
def pLVal (S : St) (m e k : Nat) (w : Bool) : Int32 := if w = true then S m 4 10 (e * 8 + k) else S m 4 9 (e * 8 + k)
def pMatF (m e m2 g2 i2 : Nat) (k : Nat) (S : St) : Bool × St := (!(pContains (S m 4 7 e) (nI k) && !decide (pLVal S m e k false = S m2 g2 i2 k)), S)
def pMatch (S : St) (m e m2 g2 i2 : Nat) : Bool := (lpE (pMatF m e m2 g2 i2) 8 0 S).1
def pAppF (m e m2 g2 i2 : Nat) (k : Nat) (S : St) : St := if pContains (S m 4 8 e) (nI k) = true then setF S m2 g2 i2 k (pLVal S m e k true) else S
def pApply (S : St) (m e m2 g2 i2 : Nat) : St := lp (pAppF m e m2 g2 i2) 8 0 S
def pZeroF (m2 g2 i2 : Nat) (k : Nat) (S : St) : St := setF S m2 g2 i2 k 0
def pRepF (m m2 g2 i2 : Nat) (k : Nat) (S : St) : Bool × St := if pMatch S m k m2 g2 i2 = true then (true, pApply S m k m2 g2 i2) else (false, S)
def pReplay (S : St) (m m2 g2 i2 : Nat) : Bool × St := lpE (pRepF m m2 g2 i2) (pQ S m) 0 (lp (pZeroF m2 g2 i2) 8 0 S)
def pKept (S : St) (m m2 : Nat) : Nat := if rmI m < pQ S m2 then rmI m else pQ S m2
def pCopyL (S : St) (m m2 : Nat) : St :=
  let n := pKept S m m2
  setF (cpR (cpR (cpR (cpR (cpR (cpR S m2 4 5 m 4 5 n) m2 4 6 m 4 6 n) m2 4 7 m 4 7 n) m2 4 8 m 4 8 n) m2 4 9 m 4 9 (n * 8)) m2 4 10 m 4 10 (n * 8)) m 4 4 7 (nI n)
/-- the log's own writes leave all but the log -/
theorem pLogF_ne {m q : Nat} {a : Int32} {m1 g1 i1 : Nat} {b : Int32} {m2 g2 i2 k : Nat} {S : St} {m' g' i' k' : Nat} (h9 : ¬ (m' = m ∧ g' = 4 ∧ (i' = 9 ∨ i' = 10))) : pLogF m q a m1 g1 i1 b m2 g2 i2 k S m' g' i' k' = S m' g' i' k' := by
  simp only [pLogF, setF_at]
  rw [if_neg (by rintro ⟨h1, h2, h3, -⟩; exact h9 ⟨h1, h2, Or.inr h3⟩), if_neg (by rintro ⟨h1, h2, h3, -⟩; exact h9 ⟨h1, h2, Or.inl h3⟩)]
theorem lp_ne {σ : Type} {τ : Type} (f : Nat → σ → σ) (v : σ → τ) (h : ∀ k S, v (f k S) = v S) : ∀ (n k : Nat) (S : σ), v (lp f n k S) = v S
  | 0, _, _ => rfl
  | n + 1, k, S => by rw [lp, lp_ne f v h n (k + 1) (f k S), h]
theorem lpE_ne {σ : Type} {τ : Type} (f : Nat → σ → Bool × σ) (v : σ → τ) (h : ∀ k S, v (f k S).2 = v S) : ∀ (n k : Nat) (S : σ), v (lpE f n k S).2 = v S
  | 0, _, _ => rfl
  | n + 1, k, S => by
    rw [lpE]
    split
    · rw [lpE_ne f v h n (k + 1) (f k S).2, h]
    · exact h k S
theorem pMatS (m ei m2 g2 i2 n k : Nat) (S : St) : (lpE (pMatF m ei m2 g2 i2) n k S).2 = S := lpE_ne (pMatF m ei m2 g2 i2) (fun T => T) (fun _ _ => rfl) n k S
theorem pKept_le (S : St) (m m2 : Nat) : pKept S m m2 ≤ rmI m ∧ pKept S m m2 ≤ pQ S m2 := by
  unfold pKept; split <;> omega
theorem pKept_min {S : St} {m m2 : Nat} (h : okI (S m2 4 4 7) 400) : (if nI (rmI m) < nI (pQ S m2) then nI (rmI m) else nI (pQ S m2)) = nI (pKept S m m2) := by
  have h1 := rmI_le m
  have h2 : pQ S m2 ≤ 400 := h.2
  unfold pKept
  by_cases hc : rmI m < pQ S m2
  · rw [if_pos hc, if_pos ((nI_ltI (by omega) (by omega)).mpr hc)]
  · rw [if_neg hc, if_neg (fun z => hc ((nI_ltI (by omega) (by omega)).mp z))]
set_option maxRecDepth 100000 in
set_option maxHeartbeats 4000000 in
theorem c_X0_fact_0 (l : Launch) (Z : wZ) (S : St) (h : Hl) (m g : Nat) (hm : m < 6) (hg : g < 4) : Ci l yX0_fact cX0_fact 2 .int 0 0 Z [.ref (zA Z (m) (g) (0)), .int (nI (0))] S h (pCFact S m g 0) (S) (h) := by
  refine Ci.of rfl rfl (Nat.le_of_ble_eq_true rfl) (fun p e s mi args below meth c A0 Q X K => ?_)
  refine j_at rfl rfl (Ls3 := [(0, .ref (zA Z (m) (g) (0))), (1, .int (nI (0)))]) rfl rfl ?_
  refine j_iload_n X dX0_fact_0 rfl rfl (q := 1) rfl ?_
  refine j_tableIn X (tgt := 36) dX0_fact_1 (by decide) (by decide) rfl (by decide) ?_
  refine j_aload_n X dX0_fact_36 rfl rfl (q := 0) rfl ?_
  refine jg_core X hm hg 4 (by decide) lk_RX0_41 rfl rfl dX0_fact_37 rfl ?_
  exact j_ret (by first | rfl | simp [pCFact]) (by first | rfl | simp [pCFact]) rfl (K _ _ dX0_fact_40)
set_option maxRecDepth 100000 in
set_option maxHeartbeats 4000000 in
theorem c_X0_fact_1 (l : Launch) (Z : wZ) (S : St) (h : Hl) (m g : Nat) (hm : m < 6) (hg : g < 4) : Ci l yX0_fact cX0_fact 2 .int 0 0 Z [.ref (zA Z (m) (g) (0)), .int (nI (1))] S h (pCFact S m g 1) (S) (h) := by
  refine Ci.of rfl rfl (Nat.le_of_ble_eq_true rfl) (fun p e s mi args below meth c A0 Q X K => ?_)
  refine j_at rfl rfl (Ls3 := [(0, .ref (zA Z (m) (g) (0))), (1, .int (nI (1)))]) rfl rfl ?_
  refine j_iload_n X dX0_fact_0 rfl rfl (q := 1) rfl ?_
  refine j_tableIn X (tgt := 41) dX0_fact_1 (by decide) (by decide) rfl (by decide) ?_
  refine j_aload_n X dX0_fact_41 rfl rfl (q := 0) rfl ?_
  refine jg_core X hm hg 3 (by decide) lk_RX0_38 rfl rfl dX0_fact_42 rfl ?_
  exact j_ret (by first | rfl | simp [pCFact]) (by first | rfl | simp [pCFact]) rfl (K _ _ dX0_fact_45)
set_option maxRecDepth 100000 in
set_option maxHeartbeats 4000000 in
theorem c_X0_fact_2 (l : Launch) (Z : wZ) (S : St) (h : Hl) (m g : Nat) (hm : m < 6) (hg : g < 4) : Ci l yX0_fact cX0_fact 2 .int 0 0 Z [.ref (zA Z (m) (g) (0)), .int (nI (2))] S h (pCFact S m g 2) (S) (h) := by
  refine Ci.of rfl rfl (Nat.le_of_ble_eq_true rfl) (fun p e s mi args below meth c A0 Q X K => ?_)
  refine j_at rfl rfl (Ls3 := [(0, .ref (zA Z (m) (g) (0))), (1, .int (nI (2)))]) rfl rfl ?_
  refine j_iload_n X dX0_fact_0 rfl rfl (q := 1) rfl ?_
  refine j_tableIn X (tgt := 46) dX0_fact_1 (by decide) (by decide) rfl (by decide) ?_
  refine j_aload_n X dX0_fact_46 rfl rfl (q := 0) rfl ?_
  refine jg_core X hm hg 2 (by decide) lk_RX0_21 rfl rfl dX0_fact_47 rfl ?_
  refine jgN_prog X (Or.inl ⟨hm, hg⟩) 2 (by decide) nk_RX0_35 rfl rfl dX0_fact_50 rfl ?_
  exact j_ret (by first | rfl | simp [pCFact]) (by first | rfl | simp [pCFact]) rfl (K _ _ dX0_fact_53)
set_option maxRecDepth 100000 in
set_option maxHeartbeats 4000000 in
theorem c_X0_fact_3 (l : Launch) (Z : wZ) (S : St) (h : Hl) (m g : Nat) (hm : m < 6) (hg : g < 4) : Ci l yX0_fact cX0_fact 2 .int 0 0 Z [.ref (zA Z (m) (g) (0)), .int (nI (3))] S h (pCFact S m g 3) (S) (h) := by
  refine Ci.of rfl rfl (Nat.le_of_ble_eq_true rfl) (fun p e s mi args below meth c A0 Q X K => ?_)
  refine j_at rfl rfl (Ls3 := [(0, .ref (zA Z (m) (g) (0))), (1, .int (nI (3)))]) rfl rfl ?_
  refine j_iload_n X dX0_fact_0 rfl rfl (q := 1) rfl ?_
  refine j_tableIn X (tgt := 54) dX0_fact_1 (by decide) (by decide) rfl (by decide) ?_
  refine j_aload_n X dX0_fact_54 rfl rfl (q := 0) rfl ?_
  refine jg_core X hm hg 5 (by decide) lk_RX0_28 rfl rfl dX0_fact_55 rfl ?_
  exact j_ret (by first | rfl | simp [pCFact]) (by first | rfl | simp [pCFact]) rfl (K _ _ dX0_fact_58)
set_option maxRecDepth 100000 in
set_option maxHeartbeats 4000000 in
theorem c_X0_fact_4 (l : Launch) (Z : wZ) (S : St) (h : Hl) (m g : Nat) (hm : m < 6) (hg : g < 4) : Ci l yX0_fact cX0_fact 2 .int 0 0 Z [.ref (zA Z (m) (g) (0)), .int (nI (4))] S h (pCFact S m g 4) (S) (h) := by
  refine Ci.of rfl rfl (Nat.le_of_ble_eq_true rfl) (fun p e s mi args below meth c A0 Q X K => ?_)
  refine j_at rfl rfl (Ls3 := [(0, .ref (zA Z (m) (g) (0))), (1, .int (nI (4)))]) rfl rfl ?_
  refine j_iload_n X dX0_fact_0 rfl rfl (q := 1) rfl ?_
  refine j_tableIn X (tgt := 59) dX0_fact_1 (by decide) (by decide) rfl (by decide) ?_
  refine j_aload_n X dX0_fact_59 rfl rfl (q := 0) rfl ?_
  refine jg_core X hm hg 13 (by decide) lk_RX0_47 rfl rfl dX0_fact_60 rfl ?_
  exact j_ret (by first | rfl | simp [pCFact]) (by first | rfl | simp [pCFact]) rfl (K _ _ dX0_fact_63)
set_option maxRecDepth 100000 in
set_option maxHeartbeats 4000000 in
theorem c_X0_fact_5 (l : Launch) (Z : wZ) (S : St) (h : Hl) (m g : Nat) (hm : m < 6) (hg : g < 4) : Ci l yX0_fact cX0_fact 2 .int 0 0 Z [.ref (zA Z (m) (g) (0)), .int (nI (5))] S h (pCFact S m g 5) (S) (h) := by
  refine Ci.of rfl rfl (Nat.le_of_ble_eq_true rfl) (fun p e s mi args below meth c A0 Q X K => ?_)
  refine j_at rfl rfl (Ls3 := [(0, .ref (zA Z (m) (g) (0))), (1, .int (nI (5)))]) rfl rfl ?_
  refine j_iload_n X dX0_fact_0 rfl rfl (q := 1) rfl ?_
  refine j_tableOut X (tgt := 64) dX0_fact_1 (by decide) (by decide) ?_
  refine j_aload_n X dX0_fact_64 rfl rfl (q := 0) rfl ?_
  refine jg_core X hm hg 14 (by decide) lk_RX0_50 rfl rfl dX0_fact_65 rfl ?_
  exact j_ret (by first | rfl | simp [pCFact]) (by first | rfl | simp [pCFact]) rfl (K _ _ dX0_fact_68)
theorem c_X0_fact (l : Launch) (Z : wZ) (S : St) (h : Hl) (m g : Nat) (hm : m < 6) (hg : g < 4) (k : Nat) (hk : k < 6) : Ci l yX0_fact cX0_fact 2 .int 0 0 Z [.ref (zA Z (m) (g) (0)), .int (nI (k))] S h (pCFact S m g k) (S) h := by
  match k, hk with
  | 0, _ => exact c_X0_fact_0 l Z S h m g hm hg
  | 1, _ => exact c_X0_fact_1 l Z S h m g hm hg
  | 2, _ => exact c_X0_fact_2 l Z S h m g hm hg
  | 3, _ => exact c_X0_fact_3 l Z S h m g hm hg
  | 4, _ => exact c_X0_fact_4 l Z S h m g hm hg
  | 5, _ => exact c_X0_fact_5 l Z S h m g hm hg
set_option maxRecDepth 100000 in
set_option maxHeartbeats 4000000 in
theorem c_X1_hasEntry (l : Launch) (Z : wZ) (S : St) (h : Hl) (m : Nat) (hm : m < 6) (a : Int32) : Ci l yX1_hasEntry cX1_hasEntry 2 .boolean 0 0 Z [.ref (zA Z (m) (4) (4)), .int (a)] S h (bI (pHasE S m a)) (S) (h) := by
  refine Ci.of rfl (bI_nar _) (Nat.le_of_ble_eq_true rfl) (fun p e s mi args below meth c A0 Q X K => ?_)
  refine j_at rfl rfl (Ls3 := [(0, .ref (zA Z (m) (4) (4))), (1, .int (a))]) rfl rfl ?_
  refine j_iload_n X dX1_hasEntry_0 rfl rfl (q := 1) rfl ?_
  refine j_if_lt X dX1_hasEntry_1 rfl (tgt := 24) (by decide) (fun c_1 => ?_) (fun c_1 => ?_)
  · refine j_iconst X dX1_hasEntry_24 rfl (v := 0) (by decide) ?_
    exact j_ret (by first | rfl | simp [pHasE, bI, c_1]) (by first | rfl | simp [pHasE, bI, c_1]) rfl (K _ _ dX1_hasEntry_25)
  · refine j_iload_n X dX1_hasEntry_4 rfl rfl (q := 1) rfl ?_
    refine j_aload_n X dX1_hasEntry_5 rfl rfl (q := 0) rfl ?_
    refine jg_log X hm 7 (by decide) lk_RX1_34 rfl rfl dX1_hasEntry_6 rfl ?_
    refine j_icmp_ge X dX1_hasEntry_9 rfl (tgt := 24) (by decide) (fun c_9 => ?_) (fun c_9 => ?_)
    · refine j_iconst X dX1_hasEntry_24 rfl (v := 0) (by decide) ?_
      exact j_ret (by first | rfl | simp [pHasE, bI, c_1, c_9]) (by first | rfl | simp [pHasE, bI, c_1, c_9]) rfl (K _ _ dX1_hasEntry_25)
    · refine j_iload_n X dX1_hasEntry_12 rfl rfl (q := 1) rfl ?_
      refine j_aload_n X dX1_hasEntry_13 rfl rfl (q := 0) rfl ?_
      refine jg_log X hm 0 (by decide) lk_RX1_9 rfl rfl dX1_hasEntry_14 rfl ?_
      refine j_icmp_ge X dX1_hasEntry_17 rfl (tgt := 24) (by decide) (fun c_17 => ?_) (fun c_17 => ?_)
      · refine j_iconst X dX1_hasEntry_24 rfl (v := 0) (by decide) ?_
        exact j_ret (by first | rfl | simp [pHasE, bI, c_1, c_9, c_17]) (by first | rfl | simp [pHasE, bI, c_1, c_9, c_17]) rfl (K _ _ dX1_hasEntry_25)
      · refine j_iconst X dX1_hasEntry_20 rfl (v := 1) (by decide) ?_
        refine j_goto X (tgt := 25) dX1_hasEntry_21 (by decide) ?_
        exact j_ret (by first | rfl | simp [pHasE, bI, c_1, c_9, c_17]) (by first | rfl | simp [pHasE, bI, c_1, c_9, c_17]) rfl (K _ _ dX1_hasEntry_25)
set_option maxRecDepth 100000 in
set_option maxHeartbeats 4000000 in
theorem L_addEntry (l : Launch) (Z : wZ) (h : Hl) (m : Nat) (hm : m < 6) (q : Nat) (hqr : q < rmI m) (x t a : Int32) (m1 g1 i1 : Nat) (hr1 : (m1, g1, i1) ∈ wPl Z) (he1 : ∀ (h : Hl) (r : Nat → Int32), wE Z h m1 g1 i1 r = eI Z 8 r) (b : Int32) (m2 g2 i2 : Nat) (hr2 : (m2, g2, i2) ∈ wPl Z) (he2 : ∀ (h : Hl) (r : Nat → Int32), wE Z h m2 g2 i2 r = eI Z 8 r) {p : Program} {e : Env} {s : State} {mi : MethodId} {args : Array Value} {below : List Frame} {meth : Method} {c : Code} {A0 : Nat → Prop} {Q : State → Prop} (X : JX p s mi args meth c cX1_addEntry 8 yX1_addEntry.cls Z A0) : ∀ (n k : Nat) (S : St), k + n = 8 → S m 4 4 7 = nI q → J p l e { frames := 1, cells := 0, slots := 0, locals := 21 } s mi args below meth c 8 Z A0 0 0 Q ((lp (pLogF m q a m1 g1 i1 b m2 g2 i2) n k S)) h [(7, .int (nI (8))), (0, .ref (zA Z (m) (4) (4))), (1, .int (x)), (2, .int (t)), (3, .int (a)), (4, .ref (zA Z (m1) (g1) (i1))), (5, .int (b)), (6, .ref (zA Z (m2) (g2) (i2)))] 143 [] → J p l e { frames := 1, cells := 0, slots := 0, locals := 21 } s mi args below meth c 8 Z A0 0 0 Q S h [(7, .int (nI (k))), (0, .ref (zA Z (m) (4) (4))), (1, .int (x)), (2, .int (t)), (3, .int (a)), (4, .ref (zA Z (m1) (g1) (i1))), (5, .int (b)), (6, .ref (zA Z (m2) (g2) (i2)))] 63 [] := by
  have hrm := rmI_le m
  intro n
  induction n with
  | zero =>
    intro k S hkn hI hk
    have hkN : 8 = k := by omega
    subst hkN
    refine j_iload X dX1_addEntry_63 rfl (q := 0) rfl ?_
    refine j_bipush X dX1_addEntry_65 rfl (v := 8) (by decide) ?_
    refine j_icmp_ge_t X (tgt := 143) dX1_addEntry_67 (by decide) (nI_le (Nat.le_refl _) (by decide)) ?_
    exact hk
  | succ n ih =>
    intro k S hkn hI hk
    have hlt : k < 8 := by omega
    refine j_iload X dX1_addEntry_63 rfl (q := 0) rfl ?_
    refine j_bipush X dX1_addEntry_65 rfl (v := 8) (by decide) ?_
    refine j_icmp_ge_f X dX1_addEntry_67 rfl (tgt := 143) (by decide) (nI_ge hlt (by decide)) ?_
    refine j_aload_n X dX1_addEntry_70 rfl rfl (q := 1) rfl ?_
    refine jg_log X hm 5 (by decide) lk_RX1_28 rfl rfl dX1_addEntry_71 rfl ?_
    refine j_aload_n X dX1_addEntry_74 rfl rfl (q := 1) rfl ?_
    refine jg_log X hm 7 (by decide) lk_RX1_34 rfl rfl dX1_addEntry_75 rfl ?_
    refine j_topeq (y := (nI (q))) (hI) ?_
    refine j_bipush X dX1_addEntry_78 rfl (v := 8) (by decide) ?_
    refine j_imul X dX1_addEntry_80 rfl ?_
    refine j_topeq (y := nI (q * 8)) (pk_mul q 8) ?_
    refine j_iload X dX1_addEntry_81 rfl (q := 0) rfl ?_
    refine j_iadd X dX1_addEntry_83 rfl ?_
    refine j_topeq (y := nI ((q * 8) + k)) (nI_add (q * 8) k) ?_
    refine j_iload_n X dX1_addEntry_84 rfl rfl (q := 4) rfl ?_
    refine j_iload X dX1_addEntry_85 rfl (q := 0) rfl ?_
    refine j_callSNi X (c_X5_contains l Z S h (a) (nI (k))) nk_RX1_58 mt_X5_contains ini_RX5 mc_X5_contains md_X5_contains ⟨Nat.le_of_ble_eq_true rfl, Nat.le_of_ble_eq_true rfl⟩ ⟨Nat.le_of_ble_eq_true rfl, Nat.le_of_ble_eq_true rfl⟩ rfl (Nat.le_of_ble_eq_true rfl) (as := [.int (a), .int (nI (k))]) (rest := [.int (nI ((q * 8) + k)), .ref (zA Z (m) (4) (9))]) rfl dX1_addEntry_87 rfl ?_
    refine j_ifb_eq X dX1_addEntry_90 rfl (tgt := 101) (by decide) (fun c_90 => ?_) (fun c_90 => ?_)
    · refine j_iconst X dX1_addEntry_101 rfl (v := 0) (by decide) ?_
      refine j_iastN X (k := (q * 8) + k) (wm_mach hm (by decide)) (fun r => wE_mach hm 9 r) (by omega) (by unfold rmI; split <;> decide) dX1_addEntry_102 rfl ?_
      refine j_name (fun S1 eS1 => ?_)
      refine j_aload_n X dX1_addEntry_103 rfl rfl (q := 1) rfl ?_
      refine jg_log X hm 6 (by decide) lk_RX1_31 rfl rfl dX1_addEntry_104 rfl ?_
      refine j_aload_n X dX1_addEntry_107 rfl rfl (q := 1) rfl ?_
      refine jg_log X hm 7 (by decide) lk_RX1_34 rfl rfl dX1_addEntry_108 rfl ?_
      refine j_topeq (y := (nI (q))) (by subst eS1; simp [setF_at] <;> exact hI) ?_
      refine j_bipush X dX1_addEntry_111 rfl (v := 8) (by decide) ?_
      refine j_imul X dX1_addEntry_113 rfl ?_
      refine j_topeq (y := nI (q * 8)) (pk_mul q 8) ?_
      refine j_iload X dX1_addEntry_114 rfl (q := 0) rfl ?_
      refine j_iadd X dX1_addEntry_116 rfl ?_
      refine j_topeq (y := nI ((q * 8) + k)) (nI_add (q * 8) k) ?_
      refine j_iload X dX1_addEntry_117 rfl (q := 6) rfl ?_
      refine j_iload X dX1_addEntry_119 rfl (q := 0) rfl ?_
      refine j_callSNi X (c_X5_contains l Z S1 h (b) (nI (k))) nk_RX1_58 mt_X5_contains ini_RX5 mc_X5_contains md_X5_contains ⟨Nat.le_of_ble_eq_true rfl, Nat.le_of_ble_eq_true rfl⟩ ⟨Nat.le_of_ble_eq_true rfl, Nat.le_of_ble_eq_true rfl⟩ rfl (Nat.le_of_ble_eq_true rfl) (as := [.int (b), .int (nI (k))]) (rest := [.int (nI ((q * 8) + k)), .ref (zA Z (m) (4) (10))]) rfl dX1_addEntry_121 rfl ?_
      refine j_ifb_eq X dX1_addEntry_124 rfl (tgt := 135) (by decide) (fun c_124 => ?_) (fun c_124 => ?_)
      · refine j_iconst X dX1_addEntry_135 rfl (v := 0) (by decide) ?_
        refine j_iastN X (k := (q * 8) + k) (wm_mach hm (by decide)) (fun r => wE_mach hm 10 r) (by omega) (by unfold rmI; split <;> decide) dX1_addEntry_136 rfl ?_
        refine j_name (fun S2 eS2 => ?_)
        refine j_iinc X dX1_addEntry_137 rfl (q := 0) rfl (v := (nI (k + 1))) (nI_1 _) (by decide) (Ls2 := [(7, .int (nI (k + 1))), (0, .ref (zA Z (m) (4) (4))), (1, .int (x)), (2, .int (t)), (3, .int (a)), (4, .ref (zA Z (m1) (g1) (i1))), (5, .int (b)), (6, .ref (zA Z (m2) (g2) (i2)))]) rfl ?_
        refine j_goto X (tgt := 63) dX1_addEntry_140 (by decide) ?_
        have eB : (pLogF m q a m1 g1 i1 b m2 g2 i2) k S = S2 := by subst eS1; subst eS2; first | rfl | simp [pLogF, c_90, c_124]
        have eL : lp (pLogF m q a m1 g1 i1 b m2 g2 i2) (n + 1) k S = lp (pLogF m q a m1 g1 i1 b m2 g2 i2) n (k + 1) S2 := congrArg (lp (pLogF m q a m1 g1 i1 b m2 g2 i2) n (k + 1)) eB
        rw [eL] at hk
        exact ih (k + 1) S2 (by omega) (by subst eS1; subst eS2; rw [← eB, pLogF_ne (by simp)]; exact hI) hk
      · refine j_aload X dX1_addEntry_127 rfl (q := 7) rfl ?_
        refine j_iload X dX1_addEntry_129 rfl (q := 0) rfl ?_
        refine j_ialdN X (k := k) hr2 (he2 h _) hlt (by decide) dX1_addEntry_131 rfl ?_
        refine j_goto X (tgt := 136) dX1_addEntry_132 (by decide) ?_
        refine j_iastN X (k := (q * 8) + k) (wm_mach hm (by decide)) (fun r => wE_mach hm 10 r) (by omega) (by unfold rmI; split <;> decide) dX1_addEntry_136 rfl ?_
        refine j_name (fun S3 eS3 => ?_)
        refine j_iinc X dX1_addEntry_137 rfl (q := 0) rfl (v := (nI (k + 1))) (nI_1 _) (by decide) (Ls2 := [(7, .int (nI (k + 1))), (0, .ref (zA Z (m) (4) (4))), (1, .int (x)), (2, .int (t)), (3, .int (a)), (4, .ref (zA Z (m1) (g1) (i1))), (5, .int (b)), (6, .ref (zA Z (m2) (g2) (i2)))]) rfl ?_
        refine j_goto X (tgt := 63) dX1_addEntry_140 (by decide) ?_
        have eB : (pLogF m q a m1 g1 i1 b m2 g2 i2) k S = S3 := by subst eS1; subst eS3; first | rfl | simp [pLogF, c_90, c_124]
        have eL : lp (pLogF m q a m1 g1 i1 b m2 g2 i2) (n + 1) k S = lp (pLogF m q a m1 g1 i1 b m2 g2 i2) n (k + 1) S3 := congrArg (lp (pLogF m q a m1 g1 i1 b m2 g2 i2) n (k + 1)) eB
        rw [eL] at hk
        exact ih (k + 1) S3 (by omega) (by subst eS1; subst eS3; rw [← eB, pLogF_ne (by simp)]; exact hI) hk
    · refine j_aload X dX1_addEntry_93 rfl (q := 5) rfl ?_
      refine j_iload X dX1_addEntry_95 rfl (q := 0) rfl ?_
      refine j_ialdN X (k := k) hr1 (he1 h _) hlt (by decide) dX1_addEntry_97 rfl ?_
      refine j_goto X (tgt := 102) dX1_addEntry_98 (by decide) ?_
      refine j_iastN X (k := (q * 8) + k) (wm_mach hm (by decide)) (fun r => wE_mach hm 9 r) (by omega) (by unfold rmI; split <;> decide) dX1_addEntry_102 rfl ?_
      refine j_name (fun S4 eS4 => ?_)
      refine j_aload_n X dX1_addEntry_103 rfl rfl (q := 1) rfl ?_
      refine jg_log X hm 6 (by decide) lk_RX1_31 rfl rfl dX1_addEntry_104 rfl ?_
      refine j_aload_n X dX1_addEntry_107 rfl rfl (q := 1) rfl ?_
      refine jg_log X hm 7 (by decide) lk_RX1_34 rfl rfl dX1_addEntry_108 rfl ?_
      refine j_topeq (y := (nI (q))) (by subst eS4; simp [setF_at] <;> exact hI) ?_
      refine j_bipush X dX1_addEntry_111 rfl (v := 8) (by decide) ?_
      refine j_imul X dX1_addEntry_113 rfl ?_
      refine j_topeq (y := nI (q * 8)) (pk_mul q 8) ?_
      refine j_iload X dX1_addEntry_114 rfl (q := 0) rfl ?_
      refine j_iadd X dX1_addEntry_116 rfl ?_
      refine j_topeq (y := nI ((q * 8) + k)) (nI_add (q * 8) k) ?_
      refine j_iload X dX1_addEntry_117 rfl (q := 6) rfl ?_
      refine j_iload X dX1_addEntry_119 rfl (q := 0) rfl ?_
      refine j_callSNi X (c_X5_contains l Z S4 h (b) (nI (k))) nk_RX1_58 mt_X5_contains ini_RX5 mc_X5_contains md_X5_contains ⟨Nat.le_of_ble_eq_true rfl, Nat.le_of_ble_eq_true rfl⟩ ⟨Nat.le_of_ble_eq_true rfl, Nat.le_of_ble_eq_true rfl⟩ rfl (Nat.le_of_ble_eq_true rfl) (as := [.int (b), .int (nI (k))]) (rest := [.int (nI ((q * 8) + k)), .ref (zA Z (m) (4) (10))]) rfl dX1_addEntry_121 rfl ?_
      refine j_ifb_eq X dX1_addEntry_124 rfl (tgt := 135) (by decide) (fun c_124_5 => ?_) (fun c_124_5 => ?_)
      · refine j_iconst X dX1_addEntry_135 rfl (v := 0) (by decide) ?_
        refine j_iastN X (k := (q * 8) + k) (wm_mach hm (by decide)) (fun r => wE_mach hm 10 r) (by omega) (by unfold rmI; split <;> decide) dX1_addEntry_136 rfl ?_
        refine j_name (fun S6 eS6 => ?_)
        refine j_iinc X dX1_addEntry_137 rfl (q := 0) rfl (v := (nI (k + 1))) (nI_1 _) (by decide) (Ls2 := [(7, .int (nI (k + 1))), (0, .ref (zA Z (m) (4) (4))), (1, .int (x)), (2, .int (t)), (3, .int (a)), (4, .ref (zA Z (m1) (g1) (i1))), (5, .int (b)), (6, .ref (zA Z (m2) (g2) (i2)))]) rfl ?_
        refine j_goto X (tgt := 63) dX1_addEntry_140 (by decide) ?_
        have eB : (pLogF m q a m1 g1 i1 b m2 g2 i2) k S = S6 := by subst eS4; subst eS6; first | rfl | simp [pLogF, c_90, c_124_5]
        have eL : lp (pLogF m q a m1 g1 i1 b m2 g2 i2) (n + 1) k S = lp (pLogF m q a m1 g1 i1 b m2 g2 i2) n (k + 1) S6 := congrArg (lp (pLogF m q a m1 g1 i1 b m2 g2 i2) n (k + 1)) eB
        rw [eL] at hk
        exact ih (k + 1) S6 (by omega) (by subst eS4; subst eS6; rw [← eB, pLogF_ne (by simp)]; exact hI) hk
      · refine j_aload X dX1_addEntry_127 rfl (q := 7) rfl ?_
        refine j_iload X dX1_addEntry_129 rfl (q := 0) rfl ?_
        refine j_ialdN X (k := k) hr2 (he2 h _) hlt (by decide) dX1_addEntry_131 rfl ?_
        refine j_goto X (tgt := 136) dX1_addEntry_132 (by decide) ?_
        refine j_iastN X (k := (q * 8) + k) (wm_mach hm (by decide)) (fun r => wE_mach hm 10 r) (by omega) (by unfold rmI; split <;> decide) dX1_addEntry_136 rfl ?_
        refine j_name (fun S7 eS7 => ?_)
        refine j_iinc X dX1_addEntry_137 rfl (q := 0) rfl (v := (nI (k + 1))) (nI_1 _) (by decide) (Ls2 := [(7, .int (nI (k + 1))), (0, .ref (zA Z (m) (4) (4))), (1, .int (x)), (2, .int (t)), (3, .int (a)), (4, .ref (zA Z (m1) (g1) (i1))), (5, .int (b)), (6, .ref (zA Z (m2) (g2) (i2)))]) rfl ?_
        refine j_goto X (tgt := 63) dX1_addEntry_140 (by decide) ?_
        have eB : (pLogF m q a m1 g1 i1 b m2 g2 i2) k S = S7 := by subst eS4; subst eS7; first | rfl | simp [pLogF, c_90, c_124_5]
        have eL : lp (pLogF m q a m1 g1 i1 b m2 g2 i2) (n + 1) k S = lp (pLogF m q a m1 g1 i1 b m2 g2 i2) n (k + 1) S7 := congrArg (lp (pLogF m q a m1 g1 i1 b m2 g2 i2) n (k + 1)) eB
        rw [eL] at hk
        exact ih (k + 1) S7 (by omega) (by subst eS4; subst eS7; rw [← eB, pLogF_ne (by simp)]; exact hI) hk
set_option maxRecDepth 100000 in
set_option maxHeartbeats 4000000 in
theorem c_X1_addEntry (l : Launch) (Z : wZ) (S : St) (h : Hl) (m : Nat) (hm : m < 6) (x t a : Int32) (m1 g1 i1 : Nat) (hr1 : (m1, g1, i1) ∈ wPl Z) (he1 : ∀ (h : Hl) (r : Nat → Int32), wE Z h m1 g1 i1 r = eI Z 8 r) (b : Int32) (m2 g2 i2 : Nat) (hr2 : (m2, g2, i2) ∈ wPl Z) (he2 : ∀ (h : Hl) (r : Nat → Int32), wE Z h m2 g2 i2 r = eI Z 8 r) (hq : okI (S m 4 4 7) 400) : Cv l yX1_addEntry cX1_addEntry 8 1 21 Z [.ref (zA Z (m) (4) (4)), .int (x), .int (t), .int (a), .ref (zA Z (m1) (g1) (i1)), .int (b), .ref (zA Z (m2) (g2) (i2))] S h (pAddE S m x t a m1 g1 i1 b m2 g2 i2) (h) := by
  have hrm := rmI_le m
  have hq2 : pQ S m ≤ 400 := hq.2
  refine Cv.of rfl (Nat.le_of_ble_eq_true rfl) (fun p e s mi args below meth c A0 Q X K => ?_)
  refine j_at rfl rfl (Ls3 := [(0, .ref (zA Z (m) (4) (4))), (1, .int (x)), (2, .int (t)), (3, .int (a)), (4, .ref (zA Z (m1) (g1) (i1))), (5, .int (b)), (6, .ref (zA Z (m2) (g2) (i2)))]) rfl rfl ?_
  refine j_aload_n X dX1_addEntry_0 rfl rfl (q := 0) rfl ?_
  refine jg_log X hm 7 (by decide) lk_RX1_34 rfl rfl dX1_addEntry_1 rfl ?_
  refine j_topeq (y := (nI (pQ S m))) (hq.1) ?_
  refine j_if_lt_f X dX1_addEntry_4 rfl (tgt := 18) (by decide) (nI_pos (by omega)) ?_
  refine j_aload_n X dX1_addEntry_7 rfl rfl (q := 0) rfl ?_
  refine jg_log X hm 7 (by decide) lk_RX1_34 rfl rfl dX1_addEntry_8 rfl ?_
  refine j_topeq (y := (nI (pQ S m))) (hq.1) ?_
  refine j_aload_n X dX1_addEntry_11 rfl rfl (q := 0) rfl ?_
  refine jg_log X hm 0 (by decide) lk_RX1_9 rfl rfl dX1_addEntry_12 rfl ?_
  refine j_icmpN_lt X (a := pQ S m) (b := rmI m) (by omega) (by omega) dX1_addEntry_15 rfl (tgt := 19) (by decide) (fun c_15 => ?_) (fun c_15 => ?_)
  · refine j_aload_n X dX1_addEntry_19 rfl rfl (q := 0) rfl ?_
    refine jg_log X hm 1 (by decide) lk_RX1_15 rfl rfl dX1_addEntry_20 rfl ?_
    refine j_aload_n X dX1_addEntry_23 rfl rfl (q := 0) rfl ?_
    refine jg_log X hm 7 (by decide) lk_RX1_34 rfl rfl dX1_addEntry_24 rfl ?_
    refine j_topeq (y := (nI (pQ S m))) (hq.1) ?_
    refine j_iload_n X dX1_addEntry_27 rfl rfl (q := 1) rfl ?_
    refine j_iastN X (k := pQ S m) (wm_mach hm (by decide)) (fun r => wE_mach hm 5 r) c_15 (by unfold rmI; split <;> decide) dX1_addEntry_28 rfl ?_
    refine j_name (fun S1 eS1 => ?_)
    refine j_aload_n X dX1_addEntry_29 rfl rfl (q := 0) rfl ?_
    refine jg_log X hm 2 (by decide) lk_RX1_19 rfl rfl dX1_addEntry_30 rfl ?_
    refine j_aload_n X dX1_addEntry_33 rfl rfl (q := 0) rfl ?_
    refine jg_log X hm 7 (by decide) lk_RX1_34 rfl rfl dX1_addEntry_34 rfl ?_
    refine j_topeq (y := (nI (pQ S m))) (by subst eS1; simp [setF_at, lp_ne (pLogF m (pQ S m) a m1 g1 i1 b m2 g2 i2) (fun T => T m 4 4 7) (fun k T => pLogF_ne (by simp))] <;> exact hq.1) ?_
    refine j_iload_n X dX1_addEntry_37 rfl rfl (q := 2) rfl ?_
    refine j_iastN X (k := pQ S m) (wm_mach hm (by decide)) (fun r => wE_mach hm 6 r) c_15 (by unfold rmI; split <;> decide) dX1_addEntry_38 rfl ?_
    refine j_name (fun S2 eS2 => ?_)
    refine j_aload_n X dX1_addEntry_39 rfl rfl (q := 0) rfl ?_
    refine jg_log X hm 3 (by decide) lk_RX1_22 rfl rfl dX1_addEntry_40 rfl ?_
    refine j_aload_n X dX1_addEntry_43 rfl rfl (q := 0) rfl ?_
    refine jg_log X hm 7 (by decide) lk_RX1_34 rfl rfl dX1_addEntry_44 rfl ?_
    refine j_topeq (y := (nI (pQ S m))) (by subst eS1; subst eS2; simp [setF_at, lp_ne (pLogF m (pQ S m) a m1 g1 i1 b m2 g2 i2) (fun T => T m 4 4 7) (fun k T => pLogF_ne (by simp))] <;> exact hq.1) ?_
    refine j_iload_n X dX1_addEntry_47 rfl rfl (q := 3) rfl ?_
    refine j_iastN X (k := pQ S m) (wm_mach hm (by decide)) (fun r => wE_mach hm 7 r) c_15 (by unfold rmI; split <;> decide) dX1_addEntry_48 rfl ?_
    refine j_name (fun S3 eS3 => ?_)
    refine j_aload_n X dX1_addEntry_49 rfl rfl (q := 0) rfl ?_
    refine jg_log X hm 4 (by decide) lk_RX1_25 rfl rfl dX1_addEntry_50 rfl ?_
    refine j_aload_n X dX1_addEntry_53 rfl rfl (q := 0) rfl ?_
    refine jg_log X hm 7 (by decide) lk_RX1_34 rfl rfl dX1_addEntry_54 rfl ?_
    refine j_topeq (y := (nI (pQ S m))) (by subst eS1; subst eS2; subst eS3; simp [setF_at, lp_ne (pLogF m (pQ S m) a m1 g1 i1 b m2 g2 i2) (fun T => T m 4 4 7) (fun k T => pLogF_ne (by simp))] <;> exact hq.1) ?_
    refine j_iload X dX1_addEntry_57 rfl (q := 5) rfl ?_
    refine j_iastN X (k := pQ S m) (wm_mach hm (by decide)) (fun r => wE_mach hm 8 r) c_15 (by unfold rmI; split <;> decide) dX1_addEntry_59 rfl ?_
    refine j_name (fun S4 eS4 => ?_)
    refine j_iconst X dX1_addEntry_60 rfl (v := 0) (by decide) ?_
    refine j_istore X dX1_addEntry_61 rfl (by decide) (Ls2 := [(7, .int (0)), (0, .ref (zA Z (m) (4) (4))), (1, .int (x)), (2, .int (t)), (3, .int (a)), (4, .ref (zA Z (m1) (g1) (i1))), (5, .int (b)), (6, .ref (zA Z (m2) (g2) (i2)))]) rfl ?_
    refine j_sub [0, 1, 2, 3, 4, 5, 6, 7] (Ls2 := [(7, .int (0)), (0, .ref (zA Z (m) (4) (4))), (1, .int (x)), (2, .int (t)), (3, .int (a)), (4, .ref (zA Z (m1) (g1) (i1))), (5, .int (b)), (6, .ref (zA Z (m2) (g2) (i2)))]) rfl ?_
    refine L_addEntry l Z h m hm (pQ S m) c_15 x t a m1 g1 i1 hr1 he1 b m2 g2 i2 hr2 he2 X 8 0 S4 (by omega) (by subst eS1; subst eS2; subst eS3; subst eS4; simp [setF_at]; exact hq.1) ?_
    refine j_name (fun S5 eS5 => ?_)
    refine j_aload_n X dX1_addEntry_143 rfl rfl (q := 1) rfl ?_
    refine j_dup X dX1_addEntry_144 rfl rfl ?_
    refine jg_log X hm 7 (by decide) lk_RX1_34 rfl rfl dX1_addEntry_145 rfl ?_
    refine j_topeq (y := (nI (pQ S m))) (by subst eS1; subst eS2; subst eS3; subst eS4; subst eS5; simp [setF_at, lp_ne (pLogF m (pQ S m) a m1 g1 i1 b m2 g2 i2) (fun T => T m 4 4 7) (fun k T => pLogF_ne (by simp))] <;> exact hq.1) ?_
    refine j_iconst X dX1_addEntry_148 rfl (v := 1) (by decide) ?_
    refine j_iadd X dX1_addEntry_149 rfl ?_
    refine j_topeq (y := nI ((pQ S m) + 1)) (nI_add (pQ S m) 1) ?_
    refine jp_log X hm 7 (by decide) lk_RX1_34 rfl rfl rfl (vp_nar_int _) rfl rfl dX1_addEntry_150 rfl ?_
    refine j_name (fun S6 eS6 => ?_)
    exact j_at (by subst eS1; subst eS2; subst eS3; subst eS4; subst eS5; subst eS6; first | rfl | simp [pAddE, c_15]) rfl rfl rfl (K _ _ dX1_addEntry_153)
  · exact j_at (by first | rfl | simp [pAddE, c_15]) rfl rfl rfl (K _ _ dX1_addEntry_18)
set_option maxRecDepth 100000 in
set_option maxHeartbeats 4000000 in
theorem c_X1_addTransaction (l : Launch) (Z : wZ) (S : St) (h : Hl) (m : Nat) (hm : m < 6) (x : Int32) (m2 g : Nat) (hm2 : m2 < 6) (hg : g < 4) (hq : okI (S m 4 4 7) 400) : Cv l yX1_addTransaction cX1_addTransaction 3 2 48 Z [.ref (zA Z (m) (4) (4)), .int (x), .ref (zA Z (m2) (g) (0))] S h (pAddT S m x m2 g) (h) := by
  refine Cv.of rfl (Nat.le_of_ble_eq_true rfl) (fun p e s mi args below meth c A0 Q X K => ?_)
  refine j_at rfl rfl (Ls3 := [(0, .ref (zA Z (m) (4) (4))), (1, .int (x)), (2, .ref (zA Z (m2) (g) (0)))]) rfl rfl ?_
  refine j_aload_n X dX1_addTransaction_0 rfl rfl (q := 0) rfl ?_
  refine j_iload_n X dX1_addTransaction_1 rfl rfl (q := 1) rfl ?_
  refine j_aload_n X dX1_addTransaction_2 rfl rfl (q := 2) rfl ?_
  refine jgN_core X hm2 hg 5 (by decide) nk_RX1_37 rfl rfl dX1_addTransaction_3 rfl ?_
  refine j_aload_n X dX1_addTransaction_6 rfl rfl (q := 2) rfl ?_
  refine jgN_core X hm2 hg 11 (by decide) nk_RX1_42 rfl rfl dX1_addTransaction_7 rfl ?_
  refine j_aload_n X dX1_addTransaction_10 rfl rfl (q := 2) rfl ?_
  refine jgN_core X hm2 hg 12 (by decide) nk_RX1_45 rfl rfl dX1_addTransaction_11 rfl ?_
  refine j_aload_n X dX1_addTransaction_14 rfl rfl (q := 2) rfl ?_
  refine jgN_core X hm2 hg 10 (by decide) nk_RX1_48 rfl rfl dX1_addTransaction_15 rfl ?_
  refine j_aload_n X dX1_addTransaction_18 rfl rfl (q := 2) rfl ?_
  refine jgN_core X hm2 hg 1 (by decide) nk_RX1_51 rfl rfl dX1_addTransaction_19 rfl ?_
  refine j_callv X (c_X1_addEntry l Z S h m hm (x) (S m2 g 0 5) (S m2 g 0 11) m2 g 6 (wm_core hm2 hg (by decide)) (fun _ r => wE_core hm2 hg 6 r) (S m2 g 0 10) m2 g 2 (wm_core hm2 hg (by decide)) (fun _ r => wE_core hm2 hg 2 r) hq) (wm_mach hm (by decide)) (wE_mach hm 4 _) rfl lk_RX1_54 mi_X1_addEntry ms_X1_addEntry ini_RX1 mc_X1_addEntry md_X1_addEntry ⟨Nat.le_of_ble_eq_true rfl, Nat.le_of_ble_eq_true rfl⟩ ⟨Nat.le_of_ble_eq_true rfl, Nat.le_of_ble_eq_true rfl⟩ rfl (Nat.le_of_ble_eq_true rfl) (as := [.int (x), .int (S m2 g 0 5), .int (S m2 g 0 11), .ref (zA Z (m2) (g) (6)), .int (S m2 g 0 10), .ref (zA Z (m2) (g) (2))]) (rest := []) rfl dX1_addTransaction_22 rfl ?_
  refine j_name (fun S1 eS1 => ?_)
  exact j_at (by subst eS1; first | rfl | simp [pAddT]) rfl rfl rfl (K _ _ dX1_addTransaction_25)
set_option maxRecDepth 100000 in
set_option maxHeartbeats 4000000 in
theorem c_X1_addWrite (l : Launch) (Z : wZ) (S : St) (h : Hl) (m : Nat) (hm : m < 6) (x : Int32) (k : Nat) (m2 g2 i2 : Nat) (hr2 : (m2, g2, i2) ∈ wPl Z) (he2 : ∀ (h : Hl) (r : Nat → Int32), wE Z h m2 g2 i2 r = eI Z 8 r) (hq : okI (S m 4 4 7) 400) : Cv l yX1_addWrite cX1_addWrite 4 2 48 Z [.ref (zA Z (m) (4) (4)), .int (x), .int (nI (k)), .ref (zA Z (m2) (g2) (i2))] S h (pAddW S m x k m2 g2 i2) (h) := by
  refine Cv.of rfl (Nat.le_of_ble_eq_true rfl) (fun p e s mi args below meth c A0 Q X K => ?_)
  refine j_at rfl rfl (Ls3 := [(0, .ref (zA Z (m) (4) (4))), (1, .int (x)), (2, .int (nI (k))), (3, .ref (zA Z (m2) (g2) (i2)))]) rfl rfl ?_
  refine j_aload_n X dX1_addWrite_0 rfl rfl (q := 0) rfl ?_
  refine j_iload_n X dX1_addWrite_1 rfl rfl (q := 1) rfl ?_
  refine j_iconst X dX1_addWrite_2 rfl (v := -1) (by decide) ?_
  refine j_iconst X dX1_addWrite_3 rfl (v := 0) (by decide) ?_
  refine j_aload_n X dX1_addWrite_4 rfl rfl (q := 3) rfl ?_
  refine j_iconst X dX1_addWrite_5 rfl (v := 1) (by decide) ?_
  refine j_iload_n X dX1_addWrite_6 rfl rfl (q := 2) rfl ?_
  refine j_ishl X dX1_addWrite_7 rfl ?_
  refine j_aload_n X dX1_addWrite_8 rfl rfl (q := 3) rfl ?_
  refine j_callv X (c_X1_addEntry l Z S h m hm (x) (-1) (0) m2 g2 i2 hr2 he2 ((1) <<< ((nI (k)) &&& 31)) m2 g2 i2 hr2 he2 hq) (wm_mach hm (by decide)) (wE_mach hm 4 _) rfl lk_RX1_54 mi_X1_addEntry ms_X1_addEntry ini_RX1 mc_X1_addEntry md_X1_addEntry ⟨Nat.le_of_ble_eq_true rfl, Nat.le_of_ble_eq_true rfl⟩ ⟨Nat.le_of_ble_eq_true rfl, Nat.le_of_ble_eq_true rfl⟩ rfl (Nat.le_of_ble_eq_true rfl) (as := [.int (x), .int (-1), .int (0), .ref (zA Z (m2) (g2) (i2)), .int ((1) <<< ((nI (k)) &&& 31)), .ref (zA Z (m2) (g2) (i2))]) (rest := []) rfl dX1_addWrite_9 rfl ?_
  refine j_name (fun S1 eS1 => ?_)
  exact j_at (by subst eS1; first | rfl | simp [pAddW]) rfl rfl rfl (K _ _ dX1_addWrite_12)
set_option maxRecDepth 100000 in
set_option maxHeartbeats 4000000 in
theorem c_X1_fact_0 (l : Launch) (Z : wZ) (S : St) (h : Hl) (m : Nat) (hm : m < 6) (ei : Nat) (he : ei < rmI m) : Ci l yX1_fact cX1_fact 3 .int 0 0 Z [.ref (zA Z (m) (4) (4)), .int (nI (ei)), .int (nI (0))] S h (pLFact S m ei 0) (S) (h) := by
  refine Ci.of rfl rfl (Nat.le_of_ble_eq_true rfl) (fun p e s mi args below meth c A0 Q X K => ?_)
  refine j_at rfl rfl (Ls3 := [(0, .ref (zA Z (m) (4) (4))), (1, .int (nI (ei))), (2, .int (nI (0)))]) rfl rfl ?_
  refine j_iload_n X dX1_fact_0 rfl rfl (q := 2) rfl ?_
  refine j_tableIn X (tgt := 28) dX1_fact_1 (by decide) (by decide) rfl (by decide) ?_
  refine j_aload_n X dX1_fact_28 rfl rfl (q := 0) rfl ?_
  refine jg_log X hm 1 (by decide) lk_RX1_15 rfl rfl dX1_fact_29 rfl ?_
  refine j_iload_n X dX1_fact_32 rfl rfl (q := 1) rfl ?_
  refine j_ialdN X (k := ei) (wm_mach hm (by decide)) (wE_mach hm 5 _) he (by unfold rmI; split <;> decide) dX1_fact_33 rfl ?_
  exact j_ret (by first | rfl | simp [pLFact]) (by first | rfl | simp [pLFact]) rfl (K _ _ dX1_fact_34)
set_option maxRecDepth 100000 in
set_option maxHeartbeats 4000000 in
theorem c_X1_fact_1 (l : Launch) (Z : wZ) (S : St) (h : Hl) (m : Nat) (hm : m < 6) (ei : Nat) (he : ei < rmI m) : Ci l yX1_fact cX1_fact 3 .int 0 0 Z [.ref (zA Z (m) (4) (4)), .int (nI (ei)), .int (nI (1))] S h (pLFact S m ei 1) (S) (h) := by
  refine Ci.of rfl rfl (Nat.le_of_ble_eq_true rfl) (fun p e s mi args below meth c A0 Q X K => ?_)
  refine j_at rfl rfl (Ls3 := [(0, .ref (zA Z (m) (4) (4))), (1, .int (nI (ei))), (2, .int (nI (1)))]) rfl rfl ?_
  refine j_iload_n X dX1_fact_0 rfl rfl (q := 2) rfl ?_
  refine j_tableIn X (tgt := 35) dX1_fact_1 (by decide) (by decide) rfl (by decide) ?_
  refine j_aload_n X dX1_fact_35 rfl rfl (q := 0) rfl ?_
  refine jg_log X hm 2 (by decide) lk_RX1_19 rfl rfl dX1_fact_36 rfl ?_
  refine j_iload_n X dX1_fact_39 rfl rfl (q := 1) rfl ?_
  refine j_ialdN X (k := ei) (wm_mach hm (by decide)) (wE_mach hm 6 _) he (by unfold rmI; split <;> decide) dX1_fact_40 rfl ?_
  exact j_ret (by first | rfl | simp [pLFact]) (by first | rfl | simp [pLFact]) rfl (K _ _ dX1_fact_41)
set_option maxRecDepth 100000 in
set_option maxHeartbeats 4000000 in
theorem c_X1_fact_2 (l : Launch) (Z : wZ) (S : St) (h : Hl) (m : Nat) (hm : m < 6) (ei : Nat) (he : ei < rmI m) : Ci l yX1_fact cX1_fact 3 .int 0 0 Z [.ref (zA Z (m) (4) (4)), .int (nI (ei)), .int (nI (2))] S h (pLFact S m ei 2) (S) (h) := by
  refine Ci.of rfl rfl (Nat.le_of_ble_eq_true rfl) (fun p e s mi args below meth c A0 Q X K => ?_)
  refine j_at rfl rfl (Ls3 := [(0, .ref (zA Z (m) (4) (4))), (1, .int (nI (ei))), (2, .int (nI (2)))]) rfl rfl ?_
  refine j_iload_n X dX1_fact_0 rfl rfl (q := 2) rfl ?_
  refine j_tableIn X (tgt := 42) dX1_fact_1 (by decide) (by decide) rfl (by decide) ?_
  refine j_aload_n X dX1_fact_42 rfl rfl (q := 0) rfl ?_
  refine jg_log X hm 3 (by decide) lk_RX1_22 rfl rfl dX1_fact_43 rfl ?_
  refine j_iload_n X dX1_fact_46 rfl rfl (q := 1) rfl ?_
  refine j_ialdN X (k := ei) (wm_mach hm (by decide)) (wE_mach hm 7 _) he (by unfold rmI; split <;> decide) dX1_fact_47 rfl ?_
  exact j_ret (by first | rfl | simp [pLFact]) (by first | rfl | simp [pLFact]) rfl (K _ _ dX1_fact_48)
set_option maxRecDepth 100000 in
set_option maxHeartbeats 4000000 in
theorem c_X1_fact_3 (l : Launch) (Z : wZ) (S : St) (h : Hl) (m : Nat) (hm : m < 6) (ei : Nat) (he : ei < rmI m) : Ci l yX1_fact cX1_fact 3 .int 0 0 Z [.ref (zA Z (m) (4) (4)), .int (nI (ei)), .int (nI (3))] S h (pLFact S m ei 3) (S) (h) := by
  refine Ci.of rfl rfl (Nat.le_of_ble_eq_true rfl) (fun p e s mi args below meth c A0 Q X K => ?_)
  refine j_at rfl rfl (Ls3 := [(0, .ref (zA Z (m) (4) (4))), (1, .int (nI (ei))), (2, .int (nI (3)))]) rfl rfl ?_
  refine j_iload_n X dX1_fact_0 rfl rfl (q := 2) rfl ?_
  refine j_tableOut X (tgt := 49) dX1_fact_1 (by decide) (by decide) ?_
  refine j_aload_n X dX1_fact_49 rfl rfl (q := 0) rfl ?_
  refine jg_log X hm 4 (by decide) lk_RX1_25 rfl rfl dX1_fact_50 rfl ?_
  refine j_iload_n X dX1_fact_53 rfl rfl (q := 1) rfl ?_
  refine j_ialdN X (k := ei) (wm_mach hm (by decide)) (wE_mach hm 8 _) he (by unfold rmI; split <;> decide) dX1_fact_54 rfl ?_
  exact j_ret (by first | rfl | simp [pLFact]) (by first | rfl | simp [pLFact]) rfl (K _ _ dX1_fact_55)
theorem c_X1_fact (l : Launch) (Z : wZ) (S : St) (h : Hl) (m : Nat) (hm : m < 6) (ei : Nat) (he : ei < rmI m) (k : Nat) (hk : k < 4) : Ci l yX1_fact cX1_fact 3 .int 0 0 Z [.ref (zA Z (m) (4) (4)), .int (nI (ei)), .int (nI (k))] S h (pLFact S m ei k) (S) h := by
  match k, hk with
  | 0, _ => exact c_X1_fact_0 l Z S h m hm ei he
  | 1, _ => exact c_X1_fact_1 l Z S h m hm ei he
  | 2, _ => exact c_X1_fact_2 l Z S h m hm ei he
  | 3, _ => exact c_X1_fact_3 l Z S h m hm ei he
set_option maxRecDepth 100000 in
set_option maxHeartbeats 4000000 in
theorem c_X1_lineValue (l : Launch) (Z : wZ) (S : St) (h : Hl) (m : Nat) (hm : m < 6) (ei k : Nat) (he : ei < rmI m) (hk : k < 8) (w : Bool) : Ci l yX1_lineValue cX1_lineValue 4 .int 0 0 Z [.ref (zA Z (m) (4) (4)), .int (nI (ei)), .int (nI (k)), .int (bI (w))] S h (pLVal S m ei k w) (S) (h) := by
  refine Ci.of rfl rfl (Nat.le_of_ble_eq_true rfl) (fun p e s mi args below meth c A0 Q X K => ?_)
  refine j_at rfl rfl (Ls3 := [(0, .ref (zA Z (m) (4) (4))), (1, .int (nI (ei))), (2, .int (nI (k))), (3, .int (bI (w)))]) rfl rfl ?_
  refine j_iload_n X dX1_lineValue_0 rfl rfl (q := 3) rfl ?_
  refine j_ifb_eq X dX1_lineValue_1 rfl (tgt := 18) (by decide) (fun c_1 => ?_) (fun c_1 => ?_)
  · refine j_aload_n X dX1_lineValue_18 rfl rfl (q := 0) rfl ?_
    refine jg_log X hm 5 (by decide) lk_RX1_28 rfl rfl dX1_lineValue_19 rfl ?_
    refine j_iload_n X dX1_lineValue_22 rfl rfl (q := 1) rfl ?_
    refine j_bipush X dX1_lineValue_23 rfl (v := 8) (by decide) ?_
    refine j_imul X dX1_lineValue_25 rfl ?_
    refine j_topeq (y := nI (ei * 8)) (pk_mul ei 8) ?_
    refine j_iload_n X dX1_lineValue_26 rfl rfl (q := 2) rfl ?_
    refine j_iadd X dX1_lineValue_27 rfl ?_
    refine j_topeq (y := nI ((ei * 8) + k)) (nI_add (ei * 8) k) ?_
    refine j_ialdN X (k := (ei * 8) + k) (wm_mach hm (by decide)) (wE_mach hm 9 _) (by omega) (by unfold rmI; split <;> decide) dX1_lineValue_28 rfl ?_
    exact j_ret (by first | rfl | simp [pLVal, c_1]) (by first | rfl | simp [pLVal, c_1]) rfl (K _ _ dX1_lineValue_29)
  · refine j_aload_n X dX1_lineValue_4 rfl rfl (q := 0) rfl ?_
    refine jg_log X hm 6 (by decide) lk_RX1_31 rfl rfl dX1_lineValue_5 rfl ?_
    refine j_iload_n X dX1_lineValue_8 rfl rfl (q := 1) rfl ?_
    refine j_bipush X dX1_lineValue_9 rfl (v := 8) (by decide) ?_
    refine j_imul X dX1_lineValue_11 rfl ?_
    refine j_topeq (y := nI (ei * 8)) (pk_mul ei 8) ?_
    refine j_iload_n X dX1_lineValue_12 rfl rfl (q := 2) rfl ?_
    refine j_iadd X dX1_lineValue_13 rfl ?_
    refine j_topeq (y := nI ((ei * 8) + k)) (nI_add (ei * 8) k) ?_
    refine j_ialdN X (k := (ei * 8) + k) (wm_mach hm (by decide)) (wE_mach hm 10 _) (by omega) (by unfold rmI; split <;> decide) dX1_lineValue_14 rfl ?_
    refine j_goto X (tgt := 29) dX1_lineValue_15 (by decide) ?_
    exact j_ret (by first | rfl | simp [pLVal, c_1]) (by first | rfl | simp [pLVal, c_1]) rfl (K _ _ dX1_lineValue_29)
set_option maxRecDepth 100000 in
set_option maxHeartbeats 4000000 in
theorem L_readsMatch (l : Launch) (Z : wZ) (h : Hl) (m : Nat) (hm : m < 6) (ei : Nat) (he : ei < rmI m) (m2 g2 i2 : Nat) (hr2 : (m2, g2, i2) ∈ wPl Z) (he2 : ∀ (h : Hl) (r : Nat → Int32), wE Z h m2 g2 i2 r = eI Z 8 r) {p : Program} {e : Env} {s : State} {mi : MethodId} {args : Array Value} {below : List Frame} {meth : Method} {c : Code} {A0 : Nat → Prop} {Q : State → Prop} (X : JX p s mi args meth c cX1_readsMatch 4 yX1_readsMatch.cls Z A0) : ∀ (n k : Nat) (S : St), k + n = 8 → ((lpE (pMatF m ei m2 g2 i2) n k S).1 = true → J p l e { frames := 1, cells := 0, slots := 0, locals := 23 } s mi args below meth c 4 Z A0 0 0 Q ((lpE (pMatF m ei m2 g2 i2) n k S).2) h [] 42 []) → ((lpE (pMatF m ei m2 g2 i2) n k S).1 = false → J p l e { frames := 1, cells := 0, slots := 0, locals := 23 } s mi args below meth c 4 Z A0 0 0 Q ((lpE (pMatF m ei m2 g2 i2) n k S).2) h [] 34 []) → J p l e { frames := 1, cells := 0, slots := 0, locals := 23 } s mi args below meth c 4 Z A0 0 0 Q S h [(3, .int (nI (k))), (0, .ref (zA Z (m) (4) (4))), (1, .int (nI (ei))), (2, .ref (zA Z (m2) (g2) (i2)))] 2 [] := by
  intro n
  induction n with
  | zero =>
    intro k S hkn hT hF
    have hkN : 8 = k := by omega
    subst hkN
    refine j_iload_n X dX1_readsMatch_2 rfl rfl (q := 0) rfl ?_
    refine j_bipush X dX1_readsMatch_3 rfl (v := 8) (by decide) ?_
    refine j_icmp_ge_t X (tgt := 42) dX1_readsMatch_5 (by decide) (nI_le (Nat.le_refl _) (by decide)) ?_
    refine j_sub [] (Ls2 := []) rfl ?_
    exact hT rfl
  | succ n ih =>
    intro k S hkn hT hF
    have hlt : k < 8 := by omega
    refine j_iload_n X dX1_readsMatch_2 rfl rfl (q := 0) rfl ?_
    refine j_bipush X dX1_readsMatch_3 rfl (v := 8) (by decide) ?_
    refine j_icmp_ge_f X dX1_readsMatch_5 rfl (tgt := 42) (by decide) (nI_ge hlt (by decide)) ?_
    refine j_aload_n X dX1_readsMatch_8 rfl rfl (q := 1) rfl ?_
    refine jg_log X hm 3 (by decide) lk_RX1_22 rfl rfl dX1_readsMatch_9 rfl ?_
    refine j_iload_n X dX1_readsMatch_12 rfl rfl (q := 2) rfl ?_
    refine j_ialdN X (k := ei) (wm_mach hm (by decide)) (wE_mach hm 7 _) he (by unfold rmI; split <;> decide) dX1_readsMatch_13 rfl ?_
    refine j_iload_n X dX1_readsMatch_14 rfl rfl (q := 0) rfl ?_
    refine j_callSNi X (c_X5_contains l Z S h (S m 4 7 ei) (nI (k))) nk_RX1_58 mt_X5_contains ini_RX5 mc_X5_contains md_X5_contains ⟨Nat.le_of_ble_eq_true rfl, Nat.le_of_ble_eq_true rfl⟩ ⟨Nat.le_of_ble_eq_true rfl, Nat.le_of_ble_eq_true rfl⟩ rfl (Nat.le_of_ble_eq_true rfl) (as := [.int (S m 4 7 ei), .int (nI (k))]) (rest := []) rfl dX1_readsMatch_15 rfl ?_
    refine j_ifb_eq X dX1_readsMatch_18 rfl (tgt := 36) (by decide) (fun c_18 => ?_) (fun c_18 => ?_)
    · refine j_iinc X dX1_readsMatch_36 rfl (q := 0) rfl (v := (nI (k + 1))) (nI_1 _) (by decide) (Ls2 := [(3, .int (nI (k + 1))), (0, .ref (zA Z (m) (4) (4))), (1, .int (nI (ei))), (2, .ref (zA Z (m2) (g2) (i2)))]) rfl ?_
      refine j_goto X (tgt := 2) dX1_readsMatch_39 (by decide) ?_
      have eB : (pMatF m ei m2 g2 i2) k S = (true, S) := by first | rfl | simp [pMatF, c_18]
      have eL : lpE (pMatF m ei m2 g2 i2) (n + 1) k S = lpE (pMatF m ei m2 g2 i2) n (k + 1) S := by rw [lpE, eB]; rfl
      rw [eL] at hT hF
      exact ih (k + 1) S (by omega) hT hF
    · refine j_aload_n X dX1_readsMatch_21 rfl rfl (q := 1) rfl ?_
      refine j_iload_n X dX1_readsMatch_22 rfl rfl (q := 2) rfl ?_
      refine j_iload_n X dX1_readsMatch_23 rfl rfl (q := 0) rfl ?_
      refine j_iconst X dX1_readsMatch_24 rfl (v := 0) (by decide) ?_
      refine j_calli X (c_X1_lineValue l Z S h m hm ei k he hlt false) (wm_mach hm (by decide)) (wE_mach hm 4 _) rfl lk_RX1_70 mi_X1_lineValue ms_X1_lineValue ini_RX1 mc_X1_lineValue md_X1_lineValue ⟨Nat.le_of_ble_eq_true rfl, Nat.le_of_ble_eq_true rfl⟩ ⟨Nat.le_of_ble_eq_true rfl, Nat.le_of_ble_eq_true rfl⟩ rfl (Nat.le_of_ble_eq_true rfl) (as := [.int (nI (ei)), .int (nI (k)), .int (0)]) (rest := []) rfl dX1_readsMatch_25 rfl ?_
      refine j_aload_n X dX1_readsMatch_28 rfl rfl (q := 3) rfl ?_
      refine j_iload_n X dX1_readsMatch_29 rfl rfl (q := 0) rfl ?_
      refine j_ialdN X (k := k) hr2 (he2 h _) hlt (by decide) dX1_readsMatch_30 rfl ?_
      refine j_icmp_eq X dX1_readsMatch_31 rfl (tgt := 36) (by decide) (fun c_31 => ?_) (fun c_31 => ?_)
      · refine j_iinc X dX1_readsMatch_36 rfl (q := 0) rfl (v := (nI (k + 1))) (nI_1 _) (by decide) (Ls2 := [(3, .int (nI (k + 1))), (0, .ref (zA Z (m) (4) (4))), (1, .int (nI (ei))), (2, .ref (zA Z (m2) (g2) (i2)))]) rfl ?_
        refine j_goto X (tgt := 2) dX1_readsMatch_39 (by decide) ?_
        have eB : (pMatF m ei m2 g2 i2) k S = (true, S) := by first | rfl | simp [pMatF, c_18, c_31]
        have eL : lpE (pMatF m ei m2 g2 i2) (n + 1) k S = lpE (pMatF m ei m2 g2 i2) n (k + 1) S := by rw [lpE, eB]; rfl
        rw [eL] at hT hF
        exact ih (k + 1) S (by omega) hT hF
      · have eB : (pMatF m ei m2 g2 i2) k S = (false, S) := by first | rfl | simp [pMatF, c_18, c_31]
        have eL : lpE (pMatF m ei m2 g2 i2) (n + 1) k S = (false, S) := by rw [lpE, eB]; rfl
        rw [eL] at hF
        refine j_sub [] (Ls2 := []) rfl ?_
        exact hF rfl
set_option maxRecDepth 100000 in
set_option maxHeartbeats 4000000 in
theorem c_X1_readsMatch (l : Launch) (Z : wZ) (S : St) (h : Hl) (m : Nat) (hm : m < 6) (ei : Nat) (he : ei < rmI m) (m2 g2 i2 : Nat) (hr2 : (m2, g2, i2) ∈ wPl Z) (he2 : ∀ (h : Hl) (r : Nat → Int32), wE Z h m2 g2 i2 r = eI Z 8 r) : Ci l yX1_readsMatch cX1_readsMatch 4 .boolean 1 23 Z [.ref (zA Z (m) (4) (4)), .int (nI (ei)), .ref (zA Z (m2) (g2) (i2))] S h (bI (pMatch S m ei m2 g2 i2)) (S) (h) := by
  refine Ci.of rfl (bI_nar _) (Nat.le_of_ble_eq_true rfl) (fun p e s mi args below meth c A0 Q X K => ?_)
  refine j_at rfl rfl (Ls3 := [(0, .ref (zA Z (m) (4) (4))), (1, .int (nI (ei))), (2, .ref (zA Z (m2) (g2) (i2)))]) rfl rfl ?_
  refine j_iconst X dX1_readsMatch_0 rfl (v := 0) (by decide) ?_
  refine j_istore_n X dX1_readsMatch_1 rfl rfl (by decide) (Ls2 := [(3, .int (0)), (0, .ref (zA Z (m) (4) (4))), (1, .int (nI (ei))), (2, .ref (zA Z (m2) (g2) (i2)))]) rfl ?_
  refine j_sub [0, 1, 2, 3] (Ls2 := [(3, .int (0)), (0, .ref (zA Z (m) (4) (4))), (1, .int (nI (ei))), (2, .ref (zA Z (m2) (g2) (i2)))]) rfl ?_
  refine L_readsMatch l Z h m hm ei he m2 g2 i2 hr2 he2 X 8 0 S (by omega) (fun hb1 => ?_) (fun hb1 => ?_)
  · refine j_name (fun S2 eS2 => ?_)
    refine j_iconst X dX1_readsMatch_42 rfl (v := 1) (by decide) ?_
    exact j_ret (by subst eS2; first | rfl | simp [pMatch, bI, pMatS, hb1]) (by subst eS2; first | rfl | simp [pMatch, bI, pMatS, hb1]) rfl (K _ _ dX1_readsMatch_43)
  · refine j_name (fun S3 eS3 => ?_)
    refine j_iconst X dX1_readsMatch_34 rfl (v := 0) (by decide) ?_
    exact j_ret (by subst eS3; first | rfl | simp [pMatch, bI, pMatS, hb1]) (by subst eS3; first | rfl | simp [pMatch, bI, pMatS, hb1]) rfl (K _ _ dX1_readsMatch_35)
set_option maxRecDepth 100000 in
set_option maxHeartbeats 4000000 in
theorem L_applyWrites (l : Launch) (Z : wZ) (h : Hl) (m : Nat) (hm : m < 6) (ei : Nat) (he : ei < rmI m) (m2 g2 i2 : Nat) (hr2 : (m2, g2, i2) ∈ wPl Z) (he2 : ∀ (h : Hl) (r : Nat → Int32), wE Z h m2 g2 i2 r = eI Z 8 r) {p : Program} {e : Env} {s : State} {mi : MethodId} {args : Array Value} {below : List Frame} {meth : Method} {c : Code} {A0 : Nat → Prop} {Q : State → Prop} (X : JX p s mi args meth c cX1_applyWrites 4 yX1_applyWrites.cls Z A0) : ∀ (n k : Nat) (S : St), k + n = 8 → J p l e { frames := 1, cells := 0, slots := 0, locals := 23 } s mi args below meth c 4 Z A0 0 0 Q ((lp (pAppF m ei m2 g2 i2) n k S)) h [] 37 [] → J p l e { frames := 1, cells := 0, slots := 0, locals := 23 } s mi args below meth c 4 Z A0 0 0 Q S h [(3, .int (nI (k))), (0, .ref (zA Z (m) (4) (4))), (1, .int (nI (ei))), (2, .ref (zA Z (m2) (g2) (i2)))] 2 [] := by
  intro n
  induction n with
  | zero =>
    intro k S hkn hk
    have hkN : 8 = k := by omega
    subst hkN
    refine j_iload_n X dX1_applyWrites_2 rfl rfl (q := 0) rfl ?_
    refine j_bipush X dX1_applyWrites_3 rfl (v := 8) (by decide) ?_
    refine j_icmp_ge_t X (tgt := 37) dX1_applyWrites_5 (by decide) (nI_le (Nat.le_refl _) (by decide)) ?_
    refine j_sub [] (Ls2 := []) rfl ?_
    exact hk
  | succ n ih =>
    intro k S hkn hk
    have hlt : k < 8 := by omega
    refine j_iload_n X dX1_applyWrites_2 rfl rfl (q := 0) rfl ?_
    refine j_bipush X dX1_applyWrites_3 rfl (v := 8) (by decide) ?_
    refine j_icmp_ge_f X dX1_applyWrites_5 rfl (tgt := 37) (by decide) (nI_ge hlt (by decide)) ?_
    refine j_aload_n X dX1_applyWrites_8 rfl rfl (q := 1) rfl ?_
    refine jg_log X hm 4 (by decide) lk_RX1_25 rfl rfl dX1_applyWrites_9 rfl ?_
    refine j_iload_n X dX1_applyWrites_12 rfl rfl (q := 2) rfl ?_
    refine j_ialdN X (k := ei) (wm_mach hm (by decide)) (wE_mach hm 8 _) he (by unfold rmI; split <;> decide) dX1_applyWrites_13 rfl ?_
    refine j_iload_n X dX1_applyWrites_14 rfl rfl (q := 0) rfl ?_
    refine j_callSNi X (c_X5_contains l Z S h (S m 4 8 ei) (nI (k))) nk_RX1_58 mt_X5_contains ini_RX5 mc_X5_contains md_X5_contains ⟨Nat.le_of_ble_eq_true rfl, Nat.le_of_ble_eq_true rfl⟩ ⟨Nat.le_of_ble_eq_true rfl, Nat.le_of_ble_eq_true rfl⟩ rfl (Nat.le_of_ble_eq_true rfl) (as := [.int (S m 4 8 ei), .int (nI (k))]) (rest := []) rfl dX1_applyWrites_15 rfl ?_
    refine j_ifb_eq X dX1_applyWrites_18 rfl (tgt := 31) (by decide) (fun c_18 => ?_) (fun c_18 => ?_)
    · refine j_iinc X dX1_applyWrites_31 rfl (q := 0) rfl (v := (nI (k + 1))) (nI_1 _) (by decide) (Ls2 := [(3, .int (nI (k + 1))), (0, .ref (zA Z (m) (4) (4))), (1, .int (nI (ei))), (2, .ref (zA Z (m2) (g2) (i2)))]) rfl ?_
      refine j_goto X (tgt := 2) dX1_applyWrites_34 (by decide) ?_
      have eB : (pAppF m ei m2 g2 i2) k S = S := by first | rfl | simp [pAppF, c_18]
      have eL : lp (pAppF m ei m2 g2 i2) (n + 1) k S = lp (pAppF m ei m2 g2 i2) n (k + 1) S := congrArg (lp (pAppF m ei m2 g2 i2) n (k + 1)) eB
      rw [eL] at hk
      exact ih (k + 1) S (by omega) hk
    · refine j_aload_n X dX1_applyWrites_21 rfl rfl (q := 3) rfl ?_
      refine j_iload_n X dX1_applyWrites_22 rfl rfl (q := 0) rfl ?_
      refine j_aload_n X dX1_applyWrites_23 rfl rfl (q := 1) rfl ?_
      refine j_iload_n X dX1_applyWrites_24 rfl rfl (q := 2) rfl ?_
      refine j_iload_n X dX1_applyWrites_25 rfl rfl (q := 0) rfl ?_
      refine j_iconst X dX1_applyWrites_26 rfl (v := 1) (by decide) ?_
      refine j_calli X (c_X1_lineValue l Z S h m hm ei k he hlt true) (wm_mach hm (by decide)) (wE_mach hm 4 _) rfl lk_RX1_70 mi_X1_lineValue ms_X1_lineValue ini_RX1 mc_X1_lineValue md_X1_lineValue ⟨Nat.le_of_ble_eq_true rfl, Nat.le_of_ble_eq_true rfl⟩ ⟨Nat.le_of_ble_eq_true rfl, Nat.le_of_ble_eq_true rfl⟩ rfl (Nat.le_of_ble_eq_true rfl) (as := [.int (nI (ei)), .int (nI (k)), .int (1)]) (rest := [.int (nI (k)), .ref (zA Z (m2) (g2) (i2))]) rfl dX1_applyWrites_27 rfl ?_
      refine j_iastN X (k := k) hr2 (fun r => he2 h r) hlt (by decide) dX1_applyWrites_30 rfl ?_
      refine j_name (fun S1 eS1 => ?_)
      refine j_iinc X dX1_applyWrites_31 rfl (q := 0) rfl (v := (nI (k + 1))) (nI_1 _) (by decide) (Ls2 := [(3, .int (nI (k + 1))), (0, .ref (zA Z (m) (4) (4))), (1, .int (nI (ei))), (2, .ref (zA Z (m2) (g2) (i2)))]) rfl ?_
      refine j_goto X (tgt := 2) dX1_applyWrites_34 (by decide) ?_
      have eB : (pAppF m ei m2 g2 i2) k S = S1 := by subst eS1; first | rfl | simp [pAppF, c_18]
      have eL : lp (pAppF m ei m2 g2 i2) (n + 1) k S = lp (pAppF m ei m2 g2 i2) n (k + 1) S1 := congrArg (lp (pAppF m ei m2 g2 i2) n (k + 1)) eB
      rw [eL] at hk
      exact ih (k + 1) S1 (by omega) hk
set_option maxRecDepth 100000 in
set_option maxHeartbeats 4000000 in
theorem c_X1_applyWrites (l : Launch) (Z : wZ) (S : St) (h : Hl) (m : Nat) (hm : m < 6) (ei : Nat) (he : ei < rmI m) (m2 g2 i2 : Nat) (hr2 : (m2, g2, i2) ∈ wPl Z) (he2 : ∀ (h : Hl) (r : Nat → Int32), wE Z h m2 g2 i2 r = eI Z 8 r) : Cv l yX1_applyWrites cX1_applyWrites 4 1 23 Z [.ref (zA Z (m) (4) (4)), .int (nI (ei)), .ref (zA Z (m2) (g2) (i2))] S h (pApply S m ei m2 g2 i2) (h) := by
  refine Cv.of rfl (Nat.le_of_ble_eq_true rfl) (fun p e s mi args below meth c A0 Q X K => ?_)
  refine j_at rfl rfl (Ls3 := [(0, .ref (zA Z (m) (4) (4))), (1, .int (nI (ei))), (2, .ref (zA Z (m2) (g2) (i2)))]) rfl rfl ?_
  refine j_iconst X dX1_applyWrites_0 rfl (v := 0) (by decide) ?_
  refine j_istore_n X dX1_applyWrites_1 rfl rfl (by decide) (Ls2 := [(3, .int (0)), (0, .ref (zA Z (m) (4) (4))), (1, .int (nI (ei))), (2, .ref (zA Z (m2) (g2) (i2)))]) rfl ?_
  refine j_sub [0, 1, 2, 3] (Ls2 := [(3, .int (0)), (0, .ref (zA Z (m) (4) (4))), (1, .int (nI (ei))), (2, .ref (zA Z (m2) (g2) (i2)))]) rfl ?_
  refine L_applyWrites l Z h m hm ei he m2 g2 i2 hr2 he2 X 8 0 S (by omega) ?_
  refine j_name (fun S1 eS1 => ?_)
  exact j_at (by subst eS1; first | rfl | simp [pApply]) rfl rfl rfl (K _ _ dX1_applyWrites_37)
set_option maxRecDepth 100000 in
set_option maxHeartbeats 4000000 in
theorem c_X1_copyFrom (l : Launch) (Z : wZ) (S : St) (h : Hl) (m m2 : Nat) (hm : m < 6) (hm2 : m2 < 6) (hq : okI (S m2 4 4 7) 400) (hqr : pQ S m2 ≤ rmI m2) : Cv l yX1_copyFrom cX1_copyFrom 3 1 18 Z [.ref (zA Z (m) (4) (4)), .ref (zA Z (m2) (4) (4))] S h (pCopyL S m m2) (h) := by
  refine Cv.of rfl (Nat.le_of_ble_eq_true rfl) (fun p e s mi args below meth c A0 Q X K => ?_)
  refine j_at rfl rfl (Ls3 := [(0, .ref (zA Z (m) (4) (4))), (1, .ref (zA Z (m2) (4) (4)))]) rfl rfl ?_
  refine j_aload_n X dX1_copyFrom_0 rfl rfl (q := 1) rfl ?_
  refine jg_log X hm2 7 (by decide) lk_RX1_34 rfl rfl dX1_copyFrom_1 rfl ?_
  refine j_topeq (y := (nI (pQ S m2))) (hq.1) ?_
  refine j_aload_n X dX1_copyFrom_4 rfl rfl (q := 0) rfl ?_
  refine jg_log X hm 0 (by decide) lk_RX1_9 rfl rfl dX1_copyFrom_5 rfl ?_
  refine j_min X lk_RX1_74 (Nat.le_of_ble_eq_true rfl) (Nat.le_of_ble_eq_true rfl) ⟨Nat.le_of_ble_eq_true rfl, Nat.le_of_ble_eq_true rfl⟩ dX1_copyFrom_8 rfl ?_
  refine j_topeq (pKept_min hq) ?_
  refine j_istore_n X dX1_copyFrom_11 rfl rfl (by decide) (Ls2 := [(2, .int (nI (pKept S m m2))), (0, .ref (zA Z (m) (4) (4))), (1, .ref (zA Z (m2) (4) (4)))]) rfl ?_
  refine j_aload_n X dX1_copyFrom_12 rfl rfl (q := 2) rfl ?_
  refine jg_log X hm2 1 (by decide) lk_RX1_15 rfl rfl dX1_copyFrom_13 rfl ?_
  refine j_iconst X dX1_copyFrom_16 rfl (v := 0) (by decide) ?_
  refine j_aload_n X dX1_copyFrom_17 rfl rfl (q := 1) rfl ?_
  refine jg_log X hm 1 (by decide) lk_RX1_15 rfl rfl dX1_copyFrom_18 rfl ?_
  refine j_iconst X dX1_copyFrom_21 rfl (v := 0) (by decide) ?_
  refine j_iload_n X dX1_copyFrom_22 rfl rfl (q := 0) rfl ?_
  refine j_copyi X (nn := pKept S m m2) (wm_mach hm2 (by decide)) (wE_mach hm2 5 _) (wm_mach hm (by decide)) (fun r => wE_mach hm 5 r) lk_RX1_80 (by have := (pKept_le S m m2).2; omega) (pKept_le S m m2).1 (by have := rmI_le m; have := (pKept_le S m m2).1; omega) (Nat.le_of_ble_eq_true rfl) (Nat.le_of_ble_eq_true rfl) dX1_copyFrom_23 rfl ?_
  refine j_name (fun S1 eS1 => ?_)
  refine j_aload_n X dX1_copyFrom_26 rfl rfl (q := 2) rfl ?_
  refine jg_log X hm2 2 (by decide) lk_RX1_19 rfl rfl dX1_copyFrom_27 rfl ?_
  refine j_iconst X dX1_copyFrom_30 rfl (v := 0) (by decide) ?_
  refine j_aload_n X dX1_copyFrom_31 rfl rfl (q := 1) rfl ?_
  refine jg_log X hm 2 (by decide) lk_RX1_19 rfl rfl dX1_copyFrom_32 rfl ?_
  refine j_iconst X dX1_copyFrom_35 rfl (v := 0) (by decide) ?_
  refine j_iload_n X dX1_copyFrom_36 rfl rfl (q := 0) rfl ?_
  refine j_copyi X (nn := pKept S m m2) (wm_mach hm2 (by decide)) (wE_mach hm2 6 _) (wm_mach hm (by decide)) (fun r => wE_mach hm 6 r) lk_RX1_80 (by have := (pKept_le S m m2).2; omega) (pKept_le S m m2).1 (by have := rmI_le m; have := (pKept_le S m m2).1; omega) (Nat.le_of_ble_eq_true rfl) (Nat.le_of_ble_eq_true rfl) dX1_copyFrom_37 rfl ?_
  refine j_name (fun S2 eS2 => ?_)
  refine j_aload_n X dX1_copyFrom_40 rfl rfl (q := 2) rfl ?_
  refine jg_log X hm2 3 (by decide) lk_RX1_22 rfl rfl dX1_copyFrom_41 rfl ?_
  refine j_iconst X dX1_copyFrom_44 rfl (v := 0) (by decide) ?_
  refine j_aload_n X dX1_copyFrom_45 rfl rfl (q := 1) rfl ?_
  refine jg_log X hm 3 (by decide) lk_RX1_22 rfl rfl dX1_copyFrom_46 rfl ?_
  refine j_iconst X dX1_copyFrom_49 rfl (v := 0) (by decide) ?_
  refine j_iload_n X dX1_copyFrom_50 rfl rfl (q := 0) rfl ?_
  refine j_copyi X (nn := pKept S m m2) (wm_mach hm2 (by decide)) (wE_mach hm2 7 _) (wm_mach hm (by decide)) (fun r => wE_mach hm 7 r) lk_RX1_80 (by have := (pKept_le S m m2).2; omega) (pKept_le S m m2).1 (by have := rmI_le m; have := (pKept_le S m m2).1; omega) (Nat.le_of_ble_eq_true rfl) (Nat.le_of_ble_eq_true rfl) dX1_copyFrom_51 rfl ?_
  refine j_name (fun S3 eS3 => ?_)
  refine j_aload_n X dX1_copyFrom_54 rfl rfl (q := 2) rfl ?_
  refine jg_log X hm2 4 (by decide) lk_RX1_25 rfl rfl dX1_copyFrom_55 rfl ?_
  refine j_iconst X dX1_copyFrom_58 rfl (v := 0) (by decide) ?_
  refine j_aload_n X dX1_copyFrom_59 rfl rfl (q := 1) rfl ?_
  refine jg_log X hm 4 (by decide) lk_RX1_25 rfl rfl dX1_copyFrom_60 rfl ?_
  refine j_iconst X dX1_copyFrom_63 rfl (v := 0) (by decide) ?_
  refine j_iload_n X dX1_copyFrom_64 rfl rfl (q := 0) rfl ?_
  refine j_copyi X (nn := pKept S m m2) (wm_mach hm2 (by decide)) (wE_mach hm2 8 _) (wm_mach hm (by decide)) (fun r => wE_mach hm 8 r) lk_RX1_80 (by have := (pKept_le S m m2).2; omega) (pKept_le S m m2).1 (by have := rmI_le m; have := (pKept_le S m m2).1; omega) (Nat.le_of_ble_eq_true rfl) (Nat.le_of_ble_eq_true rfl) dX1_copyFrom_65 rfl ?_
  refine j_name (fun S4 eS4 => ?_)
  refine j_aload_n X dX1_copyFrom_68 rfl rfl (q := 2) rfl ?_
  refine jg_log X hm2 5 (by decide) lk_RX1_28 rfl rfl dX1_copyFrom_69 rfl ?_
  refine j_iconst X dX1_copyFrom_72 rfl (v := 0) (by decide) ?_
  refine j_aload_n X dX1_copyFrom_73 rfl rfl (q := 1) rfl ?_
  refine jg_log X hm 5 (by decide) lk_RX1_28 rfl rfl dX1_copyFrom_74 rfl ?_
  refine j_iconst X dX1_copyFrom_77 rfl (v := 0) (by decide) ?_
  refine j_iload_n X dX1_copyFrom_78 rfl rfl (q := 0) rfl ?_
  refine j_bipush X dX1_copyFrom_79 rfl (v := 8) (by decide) ?_
  refine j_imul X dX1_copyFrom_81 rfl ?_
  refine j_topeq (y := nI ((pKept S m m2) * 8)) (pk_mul (pKept S m m2) 8) ?_
  refine j_copyi X (nn := (pKept S m m2) * 8) (wm_mach hm2 (by decide)) (wE_mach hm2 9 _) (wm_mach hm (by decide)) (fun r => wE_mach hm 9 r) lk_RX1_80 (by have := (pKept_le S m m2).2; omega) (by have := (pKept_le S m m2).1; omega) (by have := rmI_le m; have := (pKept_le S m m2).1; omega) (Nat.le_of_ble_eq_true rfl) (Nat.le_of_ble_eq_true rfl) dX1_copyFrom_82 rfl ?_
  refine j_name (fun S5 eS5 => ?_)
  refine j_aload_n X dX1_copyFrom_85 rfl rfl (q := 2) rfl ?_
  refine jg_log X hm2 6 (by decide) lk_RX1_31 rfl rfl dX1_copyFrom_86 rfl ?_
  refine j_iconst X dX1_copyFrom_89 rfl (v := 0) (by decide) ?_
  refine j_aload_n X dX1_copyFrom_90 rfl rfl (q := 1) rfl ?_
  refine jg_log X hm 6 (by decide) lk_RX1_31 rfl rfl dX1_copyFrom_91 rfl ?_
  refine j_iconst X dX1_copyFrom_94 rfl (v := 0) (by decide) ?_
  refine j_iload_n X dX1_copyFrom_95 rfl rfl (q := 0) rfl ?_
  refine j_bipush X dX1_copyFrom_96 rfl (v := 8) (by decide) ?_
  refine j_imul X dX1_copyFrom_98 rfl ?_
  refine j_topeq (y := nI ((pKept S m m2) * 8)) (pk_mul (pKept S m m2) 8) ?_
  refine j_copyi X (nn := (pKept S m m2) * 8) (wm_mach hm2 (by decide)) (wE_mach hm2 10 _) (wm_mach hm (by decide)) (fun r => wE_mach hm 10 r) lk_RX1_80 (by have := (pKept_le S m m2).2; omega) (by have := (pKept_le S m m2).1; omega) (by have := rmI_le m; have := (pKept_le S m m2).1; omega) (Nat.le_of_ble_eq_true rfl) (Nat.le_of_ble_eq_true rfl) dX1_copyFrom_99 rfl ?_
  refine j_name (fun S6 eS6 => ?_)
  refine j_aload_n X dX1_copyFrom_102 rfl rfl (q := 1) rfl ?_
  refine j_iload_n X dX1_copyFrom_103 rfl rfl (q := 0) rfl ?_
  refine jp_log X hm 7 (by decide) lk_RX1_34 rfl rfl rfl (vp_nar_int _) rfl rfl dX1_copyFrom_104 rfl ?_
  refine j_name (fun S7 eS7 => ?_)
  exact j_at (by subst eS1; subst eS2; subst eS3; subst eS4; subst eS5; subst eS6; subst eS7; first | rfl | simp [pCopyL]) rfl rfl rfl (K _ _ dX1_copyFrom_107)

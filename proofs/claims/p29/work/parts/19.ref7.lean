theorem rAllL_K : ∀ (n : Nat) {S : St}, rdOK S → okI (S 7 0 0 11) 30 → rdOK (rAllL n S).2 ∧ okI ((rAllL n S).2 7 0 0 11) 30 ∧ (rAllL n S).2 7 0 0 7 = S 7 0 0 7
  | 0, _, h, hi => ⟨h, hi, rfl⟩
  | n + 1, S, h, hi => by
    rw [rAllL]
    split
    · exact ⟨h, hi, rfl⟩
    · have hK := rIns_K h hi
      split
      · have h2 := rAllL_K n hK.1 hK.2.1
        exact ⟨h2.1, h2.2.1, h2.2.2.trans hK.2.2.1⟩
      · exact ⟨hK.1, hK.2.1, hK.2.2.1⟩
theorem rAll_K {S : St} (htl : okI (S 7 0 0 7) 120) : rdOK (rAll S).2 ∧ okI ((rAll S).2 7 0 0 11) 30 ∧ (rAll S).2 7 0 0 7 = S 7 0 0 7 := by
  have e10 : setF (setF S 7 0 0 10 0) 7 0 0 11 0 7 0 0 10 = 0 := by simp [setF_at]
  have e7 : setF (setF S 7 0 0 10 0) 7 0 0 11 0 7 0 0 7 = S 7 0 0 7 := by simp [setF_at]
  have e11 : setF (setF S 7 0 0 10 0) 7 0 0 11 0 7 0 0 11 = 0 := by simp [setF_at]
  have h0 : okI (0 : Int32) 30 := okI_lit (k := 0) (by omega) (by omega) _ rfl
  have h00 : okI (0 : Int32) 120 := okI_lit (k := 0) (by omega) (by omega) _ rfl
  have h := rAllL_K 120 (S := setF (setF S 7 0 0 10 0) 7 0 0 11 0) ⟨by rw [e10]; exact h00, by rw [e7]; exact htl, by show (setF (setF S 7 0 0 10 0) 7 0 0 11 0 7 0 0 10).toNatClampNeg ≤ _; rw [e10]; exact Nat.zero_le _⟩ (by rw [e11]; exact h0)
  rw [e7] at h
  unfold rAll
  exact h
def rLdF (a : Nat) (k : Nat) (S : St) : St := rPut S a (36 + k) (S 7 0 7 k)
def rLdR (S : St) : Bool × St := rAll (rCd S 0)
def rLdT (T : St) (a : Nat) : St := rPut (rPut (rPut (rPut T a 2 (T 7 0 0 11)) a 1 0) a 0 0) a 4 (-1)
def rLdL (T : St) (a : Nat) : St := lp (rLdF a) (2 * rIs T) 0 T
def rLdE (S : St) (a : Nat) : St := rLdT (rLdL (rKeep (rLdR S).2) a) a
def rLoadQ (S : St) (a : Nat) : Int32 × St := if rOf S a 3 = 1 then (0, rCd S 2) else if (rLdR S).1 = true then (rLdE S a 7 0 0 11, rLdE S a) else (-10 - (rLdR S).2 7 0 0 10, (rLdR S).2)
def rStepQ (S : St) (a : Nat) : Int32 × St := if rFin S a = true then (0, rCd S 2) else rGo (rKeep (rCd S 0)) a
theorem rKC_m {S : St} {v : Int32} : rKeep (rCd S v) 7 0 1 = S 7 0 1 := by rw [rKeep_m, rCd_m (by decide)]
theorem wfE_KC {S : St} {a : Nat} {v : Int32} (h : wfE S a) : wfE (rKeep (rCd S v)) a := wfE_eq h (by rw [rKC_m]) (by rw [rKC_m]) (fun w => by show rKeep (rCd S v) 7 0 1 _ = _; rw [rKC_m])
def rPokF (j : Nat) (k : Nat) (S : St) : St := rPut (rPut (if rWay S k (nI j) true = true then rAbort S k 5 else S) k (20 + j) 0) k (28 + j) 0
def rPok1 (S : St) : St := setF (rKeep (rCd S 0)) 7 0 0 13 0
def rPok2 (S : St) (j : Nat) (v : Int32) : St := setF (lp (rPokF j) (rCC (rPok1 S)) 0 (rPok1 S)) 7 0 1 (5 + j) v
def rPok3 (S : St) (j : Nat) (v : Int32) : St := rLogX (rPok2 S j v) (1 <<< (nI j &&& 31))
def rPokS (S : St) (j : Nat) (v : Int32) : St := if 406 + 19 * rQ (rPok2 S j v) < 406 + 19 * rQ (rPok3 S j v) then setF (rPok3 S j v) 7 0 1 (406 + 19 * rQ (rPok2 S j v) + 11 + j) v else rPok3 S j v
theorem rPokF_k {S : St} {j k k2 : Nat} (hk : loK k2) : rPokF j k S 7 0 1 k2 = S 7 0 1 k2 := by
  unfold rPokF
  rw [rPut_k hk, rPut_k hk]
  split
  · exact rAbort_k (by omega) hk
  · rfl
theorem rPokL_k {S : St} {j n k2 : Nat} (hk : loK k2) : lp (rPokF j) n 0 S 7 0 1 k2 = S 7 0 1 k2 := lp_ne (rPokF j) (fun T => T 7 0 1 k2) (fun k T => rPokF_k hk) _ 0 S
theorem rPok1_m {S : St} : rPok1 S 7 0 1 = S 7 0 1 := by
  funext k; rw [rPok1, setO_M (by decide), rKC_m]
theorem rPok2_k {S : St} {j k2 : Nat} {v : Int32} (hj : j < 8) (hk : loK k2) : rPok2 S j v 7 0 1 k2 = S 7 0 1 k2 := by
  rw [rPok2, setM_k (by omega) (by omega) hk, rPokL_k hk, rPok1_m]
theorem rLogX_q {S : St} {y : Int32} (hq : okI (S 7 0 1 21) 400) : okI (rLogX S y 7 0 1 21) 400 := by
  unfold rLogX
  split
  · split
    · exact hq
    · rename_i h4
      have e : lp (rLogO (406 + 19 * rQ S)) 8 0 (rLogH S (-1) (-1) 0 y) 7 0 1 21 = S 7 0 1 21 := by
        rw [lp_ne (rLogO (406 + 19 * rQ S)) (fun T => T 7 0 1 21) (fun k T => by
          dsimp only [rLogO]; rw [setM_ne (by omega), setM_ne (by omega)])]
        unfold rLogH
        rw [setM_ne (by omega), setM_ne (by omega), setM_ne (by omega)]
      show okI (setF _ 7 0 1 21 _ 7 0 1 21) 400
      rw [setF_at, if_pos ⟨rfl, rfl, rfl, rfl⟩, e]
      have h399 : okI (S 7 0 1 21) 399 := ⟨hq.1, by have : rQ S ≤ 400 := hq.2; show rQ S ≤ 399; omega⟩
      exact (okI_inc h399 (by decide)).1
  · exact hq
abbrev rIsE (S : St) (x : Int32) : Bool := rIn x 0 (S 7 0 1 21 - 1)
def rComQ (S : St) (ei k : Nat) : Int32 := if k < 2 then S 7 0 1 (406 + 19 * ei + k) else if k = 2 then S 7 0 1 (406 + 19 * ei + 2) - S 7 0 1 (406 + 19 * ei + 2) / 256 * 256 else S 7 0 1 (406 + 19 * ei + 2) / 256
def rComV (S : St) (ei j : Nat) (w : Bool) : Int32 := S 7 0 1 (406 + 19 * ei + (if w = true then 11 else 3) + j)
def rSeZ (k : Nat) (S : St) : St := setF S 7 0 8 k 0
def rSeF (S : St) (ev : Nat) (k : Nat) (b : Int32) : Int32 := if b = 0 then 0 else if rHas (S 7 0 1 (ev + 2)) (nI k) = true then (if S 7 0 8 k = S 7 0 1 (ev + 3 + k) then 1 else 0) else 1
def rSeG (ev : Nat) (k : Nat) (S : St) : St := setF S 7 0 8 k (if rHas (S 7 0 1 (ev + 2) / 256) (nI k) = true then S 7 0 1 (ev + 11 + k) else S 7 0 8 k)
def rSeK (k : Nat) (q : St × Int32) : St × Int32 := (lp (rSeG (406 + 19 * k)) 8 0 q.1, lp (rSeF q.1 (406 + 19 * k)) 8 0 q.2)
def rSer (S : St) : St × Int32 := lp rSeK (rQ S) 0 (lp rSeZ 8 0 (rCd S 0), 1)
theorem rSeG_m {ev k : Nat} {S : St} : rSeG ev k S 7 0 1 = S 7 0 1 := by
  funext q; rw [rSeG, setF_at, if_neg (by omega)]
theorem rSeL_m {ev n k : Nat} {S : St} : lp (rSeG ev) n k S 7 0 1 = S 7 0 1 := lp_ne (rSeG ev) (fun T => T 7 0 1) (fun k T => rSeG_m) n k S
theorem rSeZ_m {n k : Nat} {S : St} : lp rSeZ n k S 7 0 1 = S 7 0 1 := lp_ne rSeZ (fun T => T 7 0 1) (fun k T => by funext q; dsimp only [rSeZ]; rw [setF_at, if_neg (by omega)]) n k S

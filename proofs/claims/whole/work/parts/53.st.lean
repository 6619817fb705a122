/-! what a command does to both, as contracts -/
theorem up_1 (h : Hl) {v w : Int32} (e : w = v) : va_up h 1 v.toInt64 1 = w.toInt64 := by subst e; simp [va_up]
theorem Inv_facts {S : St} {N : Nat} (h : Inv S N) : (okI (S 6 0 0 6) 3 ∧ okI (S 6 0 0 7) 4 ∧ okI (S 6 0 0 1) 120) ∧ (okI (S 0 4 0 4) 4 ∧ okI (S 0 4 4 7) 400) ∧ okI (S 7 0 0 7) 120 ∧ okI (S 7 0 1 0) 4 ∧ okI (S 7 0 1 21) 400 := by
  obtain ⟨A, hA⟩ := Inv_rel0 h
  obtain ⟨g1, -, -, g4, -, -, -, -, g9, g10, -⟩ := hA.1
  exact ⟨⟨h.2.2.2.1, h.2.2.2.2.1, h.2.2.1.1⟩, ⟨g4, g10⟩, by rw [h.2.2.1.2.1]; exact h.2.2.1.1, by rw [← g1 0 (by omega)]; exact g4, g9⟩
theorem rIn_t {v a b : Int32} : rIn v a b = true ↔ ¬ v < a ∧ ¬ b < v := by unfold rIn; simp
theorem rIn_f {v a b : Int32} (h : ¬ rIn v a b = true) : rIn v a b = false := by simpa using h
theorem bf {b : Bool} (h : ¬ b = true) : b = false := by simpa using h
theorem okI_rg {x M : Int32} {n : Nat} (hM : M.toInt = n) (h0 : ¬ x < 0) (h1 : ¬ M < x) (hn : n < 2 ^ 31) : okI x n := by
  obtain ⟨j, hj, rfl⟩ := nI_of2 hM h0 (Int32.not_lt.mp h1)
  exact okI_nI hj hn
theorem wfE_cong {S S1 : St} {a : Nat} (e : S1 7 = S 7) (h : wfE S a) : wfE S1 a := by
  unfold wfE rOp rPs rOf at *
  rw [e]; exact h
theorem isC_cong {S S1 : St} {x : Int32} (e : S1 7 = S 7) (h : rIsC S x = true) : rIsC S1 x = true := by
  show rIn x 0 (S1 7 0 1 0 - 1) = true
  rw [e]; exact h
def StW (l : Launch) (Z : wZ) (S : St) (h : Hl) (N : Nat) (y : MethodName) (cw : ByteArray) (mlw : Nat) (hh : List (Nat × Nat × Nat × Nat)) (asw : List Value) (y6 : MethodName) (c6 : ByteArray) (ml6 : Nat) (as6 : List Value) : Prop :=
  ∃ (S1 S2 : St) (h1 : Hl) (r v : Int32) (fr lo fr6 lo6 : Nat), Cw l y cw mlw hh fr lo Z asw S h r S1 h1 ∧ Ci l y6 c6 ml6 .int fr6 lo6 Z as6 S1 h1 v S2 h1 ∧ (fr + 1 ≤ 13 ∧ 8 + (mlw + 11) + lo ≤ 504) ∧ (fr6 + 1 ≤ 13 ∧ 8 + (ml6 + 11) + lo6 ≤ 504) ∧ S2 7 0 0 9 = r ∧ (r = 0 → h1 1 = v.toInt64) ∧ Inv S2 (N + 1000)
theorem StW.ret {l : Launch} {Z : wZ} {S S1 S2 : St} {h : Hl} {N N' : Nat} {y y6 : MethodName} {cw c6 : ByteArray} {mlw ml6 : Nat} {hh : List (Nat × Nat × Nat × Nat)} {asw as6 : List Value} {v5 v6 : Int32} {fr lo fr6 lo6 : Nat} (hW : Cw l y cw mlw hh fr lo Z asw S h 0 S1 (va_up h 1 v5.toInt64)) (hC : Ci l y6 c6 ml6 .int fr6 lo6 Z as6 S1 (va_up h 1 v5.toInt64) v6 S2 (va_up h 1 v5.toInt64)) (hf : fr + 1 ≤ 13 ∧ 8 + (mlw + 11) + lo ≤ 504) (hf6 : fr6 + 1 ≤ 13 ∧ 8 + (ml6 + 11) + lo6 ≤ 504) (e : v6 = v5) (h9 : S2 7 0 0 9 = 0) (hI : Inv S2 N') (hN : N' ≤ N + 1000) : StW l Z S h N y cw mlw hh asw y6 c6 ml6 as6 :=
  ⟨S1, S2, _, 0, v6, fr, lo, fr6, lo6, hW, hC, hf, hf6, h9, fun _ => up_1 h e, Inv_mono hI hN⟩
theorem StW.thr {l : Launch} {Z : wZ} {S : St} {h : Hl} {N : Nat} {y y6 : MethodName} {cw c6 : ByteArray} {mlw ml6 : Nat} {hh : List (Nat × Nat × Nat × Nat)} {asw as6 : List Value} {k : Int32} {fr lo fr6 lo6 : Nat} (hk : k ≠ 0) (hW : Cw l y cw mlw hh fr lo Z asw S h k S h) (hC : Ci l y6 c6 ml6 .int fr6 lo6 Z as6 S h 0 (rCd S k) h) (hf : fr + 1 ≤ 13 ∧ 8 + (mlw + 11) + lo ≤ 504) (hf6 : fr6 + 1 ≤ 13 ∧ 8 + (ml6 + 11) + lo6 ≤ 504) (hI : Inv S N) : StW l Z S h N y cw mlw hh asw y6 c6 ml6 as6 :=
  ⟨S, rCd S k, h, k, 0, fr, lo, fr6, lo6, hW, hC, hf, hf6, (rCd_at S k).2.2, fun q => absurd q hk, Inv_mono (Inv_rCd k hI) (by omega)⟩
/-- a question: nothing changes but the reference's code -/
theorem StW.ask {l : Launch} {Z : wZ} {S : St} {h : Hl} {N : Nat} {y y6 : MethodName} {cw c6 : ByteArray} {mlw ml6 : Nat} {hh : List (Nat × Nat × Nat × Nat)} {asw as6 : List Value} {v5 v6 : Int32} {fr lo fr6 lo6 : Nat} (hW : Cw l y cw mlw hh fr lo Z asw S h 0 S (va_up h 1 v5.toInt64)) (hC : Ci l y6 c6 ml6 .int fr6 lo6 Z as6 S (va_up h 1 v5.toInt64) v6 (rCd S 0) (va_up h 1 v5.toInt64)) (hf : fr + 1 ≤ 13 ∧ 8 + (mlw + 11) + lo ≤ 504) (hf6 : fr6 + 1 ≤ 13 ∧ 8 + (ml6 + 11) + lo6 ≤ 504) (e : v6 = v5) (hI : Inv S N) : StW l Z S h N y cw mlw hh asw y6 c6 ml6 as6 :=
  StW.ret hW hC hf hf6 e (rCd_at S 0).2.2 (Inv_rCd 0 hI) (by omega)
section ST
variable {l : Launch} {Z : wZ} {S : St} {h : Hl} {N : Nat}
theorem st_begin (hO : zO Z = true) (hfl : l.stackTraces = false) (hI : Inv S N) (x y z : Int32) : StW l Z S h N yL_begin cL_begin 6 [(0, 12, 15, 13)] [.ref (zA Z 6 0 0), .int x, .int y, .int z, .ref (zA Z 8 0 0)] yX6_begin cX6_begin 5 [.ref (zA Z 7 0 0), .int x, .int y, .int z] := by
  have T : (¬ x < 2 → ¬ 4 < x → pIsPol y = true → ¬ z < 1 → z ≤ 8 → False) → rBegin S x y z = (0, rCd S 1) → StW l Z S h N yL_begin cL_begin 6 [(0, 12, 15, 13)] [.ref (zA Z 6 0 0), .int x, .int y, .int z, .ref (zA Z 8 0 0)] yX6_begin cX6_begin 5 [.ref (zA Z 7 0 0), .int x, .int y, .int z] := fun hb e => by
    have hC := c_X6_begin l Z S h x y z
    rw [e] at hC
    exact StW.thr (by decide) (wt_begin l Z S h x y z (t_X5_begin l hfl Z S h x y z hb)) hC ⟨Nat.le_of_ble_eq_true rfl, Nat.le_of_ble_eq_true rfl⟩ ⟨Nat.le_of_ble_eq_true rfl, Nat.le_of_ble_eq_true rfl⟩ hI
  by_cases h1 : rIn x 2 4 = true
  · rcases pol_in y with ⟨ky, py, ry⟩ | ⟨py, ry⟩
    · by_cases h3 : rIn z 1 8 = true
      · obtain ⟨a1, a2⟩ := rIn_t.mp h1
        obtain ⟨b1, b2⟩ := rIn_t.mp h3
        obtain ⟨⟨f1, f2, f3⟩, ⟨f4, f5⟩, -⟩ := Inv_facts hI
        obtain ⟨e1, e2, e3⟩ := begin_ok (x := x) (y := y) (z := z) hI (okI_rg (M := 4) (by decide) (fun q => a1 (Int32.lt_trans q (by decide))) a2 (by decide)) ky (okI_rg (M := 8) (by decide) (fun q => b1 (Int32.lt_trans q (by decide))) b2 (by decide)) h1 ry h3
        exact StW.ret (w_begin l Z hO S _ h x y z _ (c_X5_begin l Z S h x y z a1 a2 py b1 (Int32.not_lt.mp b2) f1 f2 f5)) (c_X6_begin l Z _ _ x y z) ⟨Nat.le_of_ble_eq_true rfl, Nat.le_of_ble_eq_true rfl⟩ ⟨Nat.le_of_ble_eq_true rfl, Nat.le_of_ble_eq_true rfl⟩ e1 e2 e3 (by omega)
      · refine T (fun _ _ _ q1 q2 => h3 (rIn_t.mpr ⟨q1, Int32.not_lt.mpr q2⟩)) ?_
        unfold rBegin; rw [if_pos h1, if_pos ry, if_neg h3]
    · refine T (fun _ _ q _ _ => nt py q) ?_
      unfold rBegin; rw [if_pos h1, if_neg (nt ry)]
  · refine T (fun q1 q2 _ _ _ => h1 (rIn_t.mpr ⟨q1, q2⟩)) ?_
    unfold rBegin; rw [if_neg h1]
theorem st_setPolicy (hO : zO Z = true) (hfl : l.stackTraces = false) (hI : Inv S N) (x : Int32) : StW l Z S h N yL_setPolicy cL_setPolicy 4 [(0, 9, 12, 13)] [.ref (zA Z 6 0 0), .int x, .ref (zA Z 8 0 0)] yX6_setPolicy cX6_setPolicy 3 [.ref (zA Z 7 0 0), .int x] := by
  rcases pol_in x with ⟨kx, px, rx⟩ | ⟨px, rx⟩
  · obtain ⟨⟨f1, f2, f3⟩, ⟨f4, f5⟩, -⟩ := Inv_facts hI
    obtain ⟨e1, e2, e3⟩ := setPol_ok hI kx rx
    exact StW.ret (w_setPolicy l Z hO S _ h x _ (c_X5_setPolicy l Z S h x px f1 f2 f5)) (c_X6_setPolicy l Z _ _ x) ⟨Nat.le_of_ble_eq_true rfl, Nat.le_of_ble_eq_true rfl⟩ ⟨Nat.le_of_ble_eq_true rfl, Nat.le_of_ble_eq_true rfl⟩ e1 e2 e3 (by omega)
  · have hC := c_X6_setPolicy l Z S h x
    rw [show rSetPol S x = (0, rCd S 1) by unfold rSetPol; rw [if_neg (nt rx)]] at hC
    exact StW.thr (by decide) (wt_setPolicy l Z S h x (t_X5_setPolicy l hfl Z S h x px)) hC ⟨Nat.le_of_ble_eq_true rfl, Nat.le_of_ble_eq_true rfl⟩ ⟨Nat.le_of_ble_eq_true rfl, Nat.le_of_ble_eq_true rfl⟩ hI
theorem st_seed (hO : zO Z = true) (hfl : l.stackTraces = false) (hI : Inv S N) (x : Int32) : StW l Z S h N yL_seed cL_seed 4 [(0, 9, 12, 13)] [.ref (zA Z 6 0 0), .int x, .ref (zA Z 8 0 0)] yX6_seed cX6_seed 3 [.ref (zA Z 7 0 0), .int x] := by
  by_cases h1 : rIn x 0 999999 = true
  · obtain ⟨a1, a2⟩ := rIn_t.mp h1
    obtain ⟨⟨f1, f2, f3⟩, ⟨f4, f5⟩, -⟩ := Inv_facts hI
    obtain ⟨j, hj, ej⟩ := nI_of a1
    obtain ⟨e1, e2, e3⟩ := seed_ok hI (by rw [ej]; exact okI_nI (by omega) (by omega)) h1
    exact StW.ret (w_seed l Z hO S _ h x _ (c_X5_seed l Z S h x a1 (Int32.not_lt.mp a2) f1 f2 f5)) (c_X6_seed l Z _ _ x) ⟨Nat.le_of_ble_eq_true rfl, Nat.le_of_ble_eq_true rfl⟩ ⟨Nat.le_of_ble_eq_true rfl, Nat.le_of_ble_eq_true rfl⟩ e1 e2 e3 (by omega)
  · have hC := c_X6_seed l Z S h x
    rw [show rSeed S x = (0, rCd S 1) by unfold rSeed; rw [if_neg h1]] at hC
    exact StW.thr (by decide) (wt_seed l Z S h x (t_X5_seed l hfl Z S h x (fun q1 q2 => h1 (rIn_t.mpr ⟨q1, Int32.not_lt.mpr q2⟩)))) hC ⟨Nat.le_of_ble_eq_true rfl, Nat.le_of_ble_eq_true rfl⟩ ⟨Nat.le_of_ble_eq_true rfl, Nat.le_of_ble_eq_true rfl⟩ hI
theorem st_append (hO : zO Z = true) (hfl : l.stackTraces = false) (hI : Inv S N) (x : Int32) : StW l Z S h N yL_append cL_append 4 [(0, 9, 12, 13), (0, 9, 15, 25)] [.ref (zA Z 6 0 0), .int x, .ref (zA Z 8 0 0)] yX6_append cX6_append 2 [.ref (zA Z 7 0 0), .int x] := by
  obtain ⟨⟨f1, f2, f3⟩, ⟨f4, f5⟩, f6, f7, f8⟩ := Inv_facts hI
  by_cases h1 : rIn x 0 127 = true
  · obtain ⟨a1, a2⟩ := rIn_t.mp h1
    have eT : rTL S = pTL S := by show (S 7 0 0 7).toNatClampNeg = (S 6 0 0 1).toNatClampNeg; rw [hI.2.2.1.2.1]
    by_cases h2 : pTL S < 120
    · obtain ⟨e1, e2, e3⟩ := append_ok hI h1 h2
      have e7 : pAppS S x 7 = S 7 := by unfold pAppS; rw [setF_m (by omega), setF_m (by omega)]
      exact StW.ret (w_append l Z hO S _ h x _ (c_X5_append l Z S h x a1 (Int32.not_lt.mp a2) f3 h2)) (c_X6_append l Z _ _ x (by rw [e7]; exact f6)) ⟨Nat.le_of_ble_eq_true rfl, Nat.le_of_ble_eq_true rfl⟩ ⟨Nat.le_of_ble_eq_true rfl, Nat.le_of_ble_eq_true rfl⟩ e1 e2 e3 (by omega)
    · have e120 : pTL S = 120 := by have : pTL S ≤ 120 := f3.2; omega
      have hC := c_X6_append l Z S h x f6
      rw [show rAppend S x = (0, rCd S 2) by unfold rAppend; rw [if_pos h1, if_pos (eT.trans e120)]] at hC
      exact StW.thr (by decide) (wt_append_full l Z S h x (t_X5_append_full l hfl Z S h x a1 (Int32.not_lt.mp a2) (by rw [f3.1, show (S 6 0 0 1).toNatClampNeg = 120 from e120]; rfl))) hC ⟨Nat.le_of_ble_eq_true rfl, Nat.le_of_ble_eq_true rfl⟩ ⟨Nat.le_of_ble_eq_true rfl, Nat.le_of_ble_eq_true rfl⟩ hI
  · have hC := c_X6_append l Z S h x f6
    rw [show rAppend S x = (0, rCd S 1) by unfold rAppend; rw [if_neg h1]] at hC
    exact StW.thr (by decide) (wt_append l Z S h x (t_X5_append l hfl Z S h x (fun q1 q2 => h1 (rIn_t.mpr ⟨q1, Int32.not_lt.mpr q2⟩)))) hC ⟨Nat.le_of_ble_eq_true rfl, Nat.le_of_ble_eq_true rfl⟩ ⟨Nat.le_of_ble_eq_true rfl, Nat.le_of_ble_eq_true rfl⟩ hI
theorem loadQ_7 {a : Nat} (hI : Inv S N) (ha : a < 4) : (pLoadQ S a).2 7 = S 7 := by
  have f7 : (pRdT S (pTL S)).2 7 = S 7 := by funext g i k; exact pRdT_o (m := 7) (g := g) (i := i) (k := k) (by unfold rdOut; omega)
  unfold pLoadQ
  split
  · have hM : frM 0 (pSave (pRdT S (pTL S)).2) (pLdS (pRdT S (pTL S)).2 a) := take_M
    exact (hM 7 (by omega)).trans ((save_7 _).trans f7)
  · exact f7
theorem inT_rOf {a : Nat} (hI : Inv S N) (ha : a < 4) : (pInT S 0 a = true ↔ rOf S a 3 = 1) ∧ pFin S 0 a = rFin S a := by
  obtain ⟨A, hA⟩ := Inv_rel0 hI
  obtain ⟨-, h1, -⟩ := hA.2.2.1 a ha
  exact ⟨inT_iff.trans (act_iff h1).1.symm, (fin_eq (hA.2.2.1 a ha)).1⟩
theorem st_load (hO : zO Z = true) (hfl : l.stackTraces = false) (hI : Inv S N) (x : Int32) : StW l Z S h N yL_load cL_load 4 [(0, 9, 12, 30), (0, 9, 15, 25)] [.ref (zA Z 6 0 0), .int x, .ref (zA Z 8 0 0)] yX6_load cX6_load 3 [.ref (zA Z 7 0 0), .int x] := by
  obtain ⟨⟨f1, f2, f3⟩, ⟨f4, f5⟩, f6, f7, f8⟩ := Inv_facts hI
  obtain ⟨A, hA⟩ := Inv_rel0 hI
  rcases core_in hA x with ⟨a, a1, a4, rfl, hc, hr⟩ | ⟨hc, hr⟩
  · by_cases ht : pInT S 0 a = true
    · have hC := c_X6_load l Z S h a a4 hr f6
      rw [show rLoadQ S a = (0, rCd S 2) by unfold rLoadQ; rw [if_pos ((inT_rOf hI a4).1.mp ht)]] at hC
      exact StW.thr (by decide) (wt_load_tr l Z S h _ (t_X5_load_tr l hfl Z S h a a4 hc ht)) hC ⟨Nat.le_of_ble_eq_true rfl, Nat.le_of_ble_eq_true rfl⟩ ⟨Nat.le_of_ble_eq_true rfl, Nat.le_of_ble_eq_true rfl⟩ hI
    · obtain ⟨e1, e2, e3⟩ := load_ok hI a4 (bf ht)
      exact StW.ret (w_load l Z hO S _ h _ _ (c_X5_load l Z S h a a4 hc (bf ht) f3 f1 f2 f5)) (c_X6_load l Z _ _ a a4 (isC_cong (loadQ_7 hI a4) hr) (by rw [loadQ_7 hI a4]; exact f6)) ⟨Nat.le_of_ble_eq_true rfl, Nat.le_of_ble_eq_true rfl⟩ ⟨Nat.le_of_ble_eq_true rfl, Nat.le_of_ble_eq_true rfl⟩ e1 e2 e3 (by omega)
  · exact StW.thr (by decide) (wt_load l Z S h x (t_X5_load l hfl Z S h x hc)) (c_X6_load_no l Z S h x hr) ⟨Nat.le_of_ble_eq_true rfl, Nat.le_of_ble_eq_true rfl⟩ ⟨Nat.le_of_ble_eq_true rfl, Nat.le_of_ble_eq_true rfl⟩ hI
theorem st_again (hO : zO Z = true) (hfl : l.stackTraces = false) (hI : Inv S N) (x : Int32) : StW l Z S h N yL_again cL_again 4 [(0, 9, 12, 30), (0, 9, 15, 25)] [.ref (zA Z 6 0 0), .int x, .ref (zA Z 8 0 0)] yX6_again cX6_again 2 [.ref (zA Z 7 0 0), .int x] := by
  obtain ⟨⟨f1, f2, f3⟩, ⟨f4, f5⟩, f6, f7, f8⟩ := Inv_facts hI
  obtain ⟨A, hA⟩ := Inv_rel0 hI
  rcases core_in hA x with ⟨a, a1, a4, rfl, hc, hr⟩ | ⟨hc, hr⟩
  · by_cases hf : pFin S 0 a = true
    · by_cases ht : pInT S 0 a = true
      · have hC := c_X6_again l Z S h a a4 hr
        rw [show rAgain S a = (0, rCd S 2) by unfold rAgain; rw [if_pos ((inT_rOf hI a4).2.symm.trans hf), if_pos ((inT_rOf hI a4).1.mp ht)]] at hC
        exact StW.thr (by decide) (wt_again_st l Z S h _ (t_X5_again_st l hfl Z S h a a4 hc (fun _ q => nt q ht))) hC ⟨Nat.le_of_ble_eq_true rfl, Nat.le_of_ble_eq_true rfl⟩ ⟨Nat.le_of_ble_eq_true rfl, Nat.le_of_ble_eq_true rfl⟩ hI
      · obtain ⟨e1, e2, e3⟩ := again_ok hI a4 hf (bf ht)
        have e7 : pAgain S a 7 = S 7 := (frM.set (m := 0) 7 (by omega)).trans (save_7 S)
        exact StW.ret (w_again l Z hO S _ h _ _ (c_X5_again l Z S h a a4 hc hf (bf ht) f1 f2 f5)) (c_X6_again l Z _ _ a a4 (isC_cong e7 hr)) ⟨Nat.le_of_ble_eq_true rfl, Nat.le_of_ble_eq_true rfl⟩ ⟨Nat.le_of_ble_eq_true rfl, Nat.le_of_ble_eq_true rfl⟩ e1 e2 e3 (by omega)
    · have hC := c_X6_again l Z S h a a4 hr
      rw [show rAgain S a = (0, rCd S 2) by unfold rAgain; rw [if_neg (by rw [← (inT_rOf hI a4).2]; exact hf)]] at hC
      exact StW.thr (by decide) (wt_again_st l Z S h _ (t_X5_again_st l hfl Z S h a a4 hc (fun q _ => hf q))) hC ⟨Nat.le_of_ble_eq_true rfl, Nat.le_of_ble_eq_true rfl⟩ ⟨Nat.le_of_ble_eq_true rfl, Nat.le_of_ble_eq_true rfl⟩ hI
  · exact StW.thr (by decide) (wt_again l Z S h x (t_X5_again l hfl Z S h x hc)) (c_X6_again_no l Z S h x hr) ⟨Nat.le_of_ble_eq_true rfl, Nat.le_of_ble_eq_true rfl⟩ ⟨Nat.le_of_ble_eq_true rfl, Nat.le_of_ble_eq_true rfl⟩ hI
theorem st_step (hO : zO Z = true) (hfl : l.stackTraces = false) (hI : Inv S N) (hN : N + 2000 < 2 ^ 30) (x : Int32) : StW l Z S h N yL_step cL_step 4 [(0, 9, 12, 30), (0, 9, 15, 25)] [.ref (zA Z 6 0 0), .int x, .ref (zA Z 8 0 0)] yX6_step cX6_step 2 [.ref (zA Z 7 0 0), .int x] := by
  obtain ⟨⟨f1, f2, f3⟩, ⟨f4, f5⟩, f6, f7, f8⟩ := Inv_facts hI
  obtain ⟨A, hA⟩ := Inv_rel0 hI
  rcases core_in hA x with ⟨a, a1, a4, rfl, hc, hr⟩ | ⟨hc, hr⟩
  · by_cases hf : pFin S 0 a = true
    · have hC := c_X6_step l Z S h a a4 hr (fun q => absurd q (by rw [← (inT_rOf hI a4).2, hf]; decide))
      rw [show rStepQ S a = (0, rCd S 2) by unfold rStepQ; rw [if_pos ((inT_rOf hI a4).2.symm.trans hf)]] at hC
      exact StW.thr (by decide) (wt_step_fin l Z S h _ (t_X5_step_fin l hfl Z S h a a4 hc hf)) hC ⟨Nat.le_of_ble_eq_true rfl, Nat.le_of_ble_eq_true rfl⟩ ⟨Nat.le_of_ble_eq_true rfl, Nat.le_of_ble_eq_true rfl⟩ hI
    · obtain ⟨e1, e2, e3⟩ := step_ok hI (by omega) a1 (bf hf)
      obtain ⟨w1, w2⟩ := wf_rel hA a4 (bf hf)
      have hM : frM 0 (pSave S) (pStep (pSave S) 0 a).2 := step_M
      have e7 : (pStep (pSave S) 0 a).2 7 = S 7 := (hM 7 (by omega)).trans (save_7 S)
      exact StW.ret (w_step l Z hO S _ h _ _ (c_X5_step l Z S h a a4 hc (bf hf) w1 f1 f2 f5)) (c_X6_step l Z _ _ a a4 (isC_cong e7 hr) (fun _ => wfE_cong e7 w2)) ⟨Nat.le_of_ble_eq_true rfl, Nat.le_of_ble_eq_true rfl⟩ ⟨Nat.le_of_ble_eq_true rfl, Nat.le_of_ble_eq_true rfl⟩ e1 e2 e3 (by omega)
  · exact StW.thr (by decide) (wt_step l Z S h x (t_X5_step l hfl Z S h x hc)) (c_X6_step_no l Z S h x hr) ⟨Nat.le_of_ble_eq_true rfl, Nat.le_of_ble_eq_true rfl⟩ ⟨Nat.le_of_ble_eq_true rfl, Nat.le_of_ble_eq_true rfl⟩ hI
theorem st_run (hO : zO Z = true) (hfl : l.stackTraces = false) (hI : Inv S N) (hN : N + 2000 < 2 ^ 30) (x : Int32) : StW l Z S h N yL_run cL_run 4 [(0, 9, 12, 13)] [.ref (zA Z 6 0 0), .int x, .ref (zA Z 8 0 0)] yX6_run cX6_run 2 [.ref (zA Z 7 0 0), .int x] := by
  obtain ⟨⟨f1, f2, f3⟩, ⟨f4, f5⟩, f6, f7, f8⟩ := Inv_facts hI
  rcases run_in x with ⟨b, hb, rfl, hp, hr⟩ | ⟨hp, hr⟩
  · obtain ⟨q1, q2, q3, q4, q5, q6, q7⟩ := run_ok (b := b) hI (by omega)
    exact StW.ret (w_run l Z hO S _ h _ _ (c_X5_run l Z S h b hb hp f1 f2 f5 q1 q3)) (c_X6_run l Z _ _ b hb hr q2 q4) ⟨Nat.le_of_ble_eq_true rfl, Nat.le_of_ble_eq_true rfl⟩ ⟨Nat.le_of_ble_eq_true rfl, Nat.le_of_ble_eq_true rfl⟩ q5 q6 q7 (by omega)
  · exact StW.thr (by decide) (wt_run l Z S h x (t_X5_run l hfl Z S h x hp)) (c_X6_run_no l Z S h x hr) ⟨Nat.le_of_ble_eq_true rfl, Nat.le_of_ble_eq_true rfl⟩ ⟨Nat.le_of_ble_eq_true rfl, Nat.le_of_ble_eq_true rfl⟩ hI
theorem st_poke (hO : zO Z = true) (hfl : l.stackTraces = false) (hI : Inv S N) (x y : Int32) : StW l Z S h N yL_poke cL_poke 5 [(0, 10, 13, 30)] [.ref (zA Z 6 0 0), .int x, .int y, .ref (zA Z 8 0 0)] yX6_poke cX6_poke 4 [.ref (zA Z 7 0 0), .int x, .int y] := by
  obtain ⟨⟨f1, f2, f3⟩, ⟨f4, f5⟩, f6, f7, f8⟩ := Inv_facts hI
  rcases line_in x with ⟨j, hj, rfl, hp, hr⟩ | ⟨hp, hr⟩
  · obtain ⟨e1, e2, e3⟩ := poke_ok (v := y) hI hj
    have hM : frM 0 (pSave S) (pOut (pSave S) 0 j y).2 := out_M
    have e7 : (pOut (pSave S) 0 j y).2 7 = S 7 := (hM 7 (by omega)).trans (save_7 S)
    exact StW.ret (w_poke l Z hO S _ h _ y _ (c_X5_poke l Z S h j hj y f4 f1 f2 f5)) (c_X6_poke l Z _ _ j hj hr y (by rw [e7]; exact f7) (by rw [e7]; exact f8)) ⟨Nat.le_of_ble_eq_true rfl, Nat.le_of_ble_eq_true rfl⟩ ⟨Nat.le_of_ble_eq_true rfl, Nat.le_of_ble_eq_true rfl⟩ e1 e2 e3 (by omega)
  · exact StW.thr (by decide) (wt_poke l Z S h x y (t_X5_poke l hfl Z S h x y hp)) (c_X6_poke_nl l Z S h x y hr) ⟨Nat.le_of_ble_eq_true rfl, Nat.le_of_ble_eq_true rfl⟩ ⟨Nat.le_of_ble_eq_true rfl, Nat.le_of_ble_eq_true rfl⟩ hI
end ST

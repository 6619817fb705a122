def rMix (h : Hl) (v : Int64) : Hl := va_up h 0 (31 * h 0 + v)
def rMcA (S : St) (a k : Nat) (h : Hl) : Hl := rMix h (rCoreO S a k).toInt64
def rMcB (S : St) (a k : Nat) (h : Hl) : Hl := rMix (rMix h (rOf S a (20 + k)).toInt64) (rOf S a (28 + k)).toInt64
def rMcC (S : St) (a : Nat) (h : Hl) : Hl := lp (rMcB S a) 8 0 (rMix (rMix (lp (rMcA S a) 6 0 h) (rOf S a 7).toInt64) (rOf S a 8).toInt64)
def rDg1 (S : St) (k : Nat) (h : Hl) : Hl := rMix h (rValO S k).toInt64
def rDg2 (S : St) (k : Nat) (h : Hl) : Hl := rMcC S k h
def rDg3 (S : St) (w : Bool) (k : Nat) (h : Hl) : Hl := rMix h (rMem S k w).toInt64
def rDg5 (S : St) (k : Nat) (h : Hl) : Hl := rMix h (S 7 0 1 (13 + k)).toInt64
def rDgH (S : St) (h : Hl) : Hl :=
  rMix (rMix (lp (rDg5 S) 8 0 (lp (rDg3 S true) 8 0 (lp (rDg3 S false) 8 0 (lp (rDg2 S) (rCC S) 0 (rMix (lp (rDg1 S) 5 0 (rMix (va_up h 0 3011) (S 7 0 0 7).toInt64)) (S 7 0 1 3).toInt64))))) (S 7 0 1 21).toInt64) (S 7 0 0 5).toInt64
/-! serializable -/
theorem lp_inv {σ : Type} (f : Nat → σ → σ) (P : σ → Prop) (h : ∀ k S, P S → P (f k S)) : ∀ (n k : Nat) (S : σ), P S → P (lp f n k S)
  | 0, _, _, hS => hS
  | n + 1, k, S, hS => lp_inv f P h n (k + 1) (f k S) (h k S hS)
theorem lp_s {σ : Type} {f : Nat → σ → σ} {k i : Nat} {S T : σ} (h : f k S = T) : lp f (i + 1) k S = lp f i (k + 1) T := by rw [lp, h]
theorem rSer_b (S : St) : (rSer S).2 = bI (decide ((rSer S).2 = 1)) := by
  have h : (rSer S).2 = 0 ∨ (rSer S).2 = 1 := by
    unfold rSer
    refine lp_inv rSeK (fun q => q.2 = 0 ∨ q.2 = 1) (fun k q hq => ?_) _ 0 _ (Or.inr rfl)
    dsimp only [rSeK]
    refine lp_inv _ (fun b => b = 0 ∨ b = 1) (fun j b hb => ?_) _ 0 _ hq
    dsimp only [rSeF]
    split
    · exact Or.inl rfl
    · split
      · split
        · exact Or.inr rfl
        · exact Or.inl rfl
      · exact Or.inr rfl
  rcases h with h | h
  · rw [h]; rfl
  · rw [h]; rfl
/-! trials -/
def okRs (S : St) (b : Nat) : Prop := ∀ i, i ≤ b → (lpE rRunF i 0 S).1 = true → okR (lpE rRunF i 0 S).2
def okDs (S : St) (m b : Nat) : Prop := ∀ i, i ≤ b → (lpE (pOftF m) i 0 S).1 = true → okD (lpE (pOftF m) i 0 S).2 m
def rRunQ (S : St) (b : Nat) : St := rRuns (rKeep (rCd S 0)) b
def rFoL (S : St) (x : Int32) : Bool × St × Int32 := rUntL (rBegT S x)
def rFoN (S : St) (x : Int32) : Int32 := if rFinC (rFoL S x).2.1 = (rFoL S x).2.1 7 0 1 0 then (if (rFoL S x).1 = true then 2000 else (rFoL S x).2.2) else -1
def rFoS (S : St) (x : Int32) : St := rEndT (rFoL S x).2.1
def okF (S : St) (x : Int32) : Prop := (∀ i, i ≤ 2000 → (lpE rUntF i 0 (rBegT S x, 0)).1 = true → okR (lpE rUntF i 0 (rBegT S x, 0)).2.1) ∧ okI ((rFoL S x).2.1 7 0 1 0) 4
def rAbW (S : St) (x : Int32) (b : Nat) : Int32 := (rRuns (rBegT S x) b 7 0 1 18 + rRuns (rBegT S x) b 7 0 1 19) - (rBegT S x 7 0 1 18 + rBegT S x 7 0 1 19)
def rBesF (k : Nat) (q : St × Int32 × Int32) : St × Int32 × Int32 :=
  if rFoN q.1 (nI k) = -1 then (rFoS q.1 (nI k), q.2.1, q.2.2) else if q.2.1 = -1 then (rFoS q.1 (nI k), nI k, rFoN q.1 (nI k)) else if q.2.2 ≤ rFoN q.1 (nI k) then (rFoS q.1 (nI k), q.2.1, q.2.2) else (rFoS q.1 (nI k), nI k, rFoN q.1 (nI k))
def rBest (S : St) : St × Int32 × Int32 := lp rBesF 3 0 (rCd S 0, -1, 0)
def pRunS (S : St) (b : Nat) : St := pOft (pSave S) 0 b
def pFoL (S : St) (x : Int32) : Int32 × St := pUnt (pTrial S x) 1
def okT (S : St) (x : Int32) : Prop := okI (S 0 4 4 7) 400 ∧ ∀ i, i ≤ 2000 → (lpE (pUntF 1) i 0 (pTrial S x, 0)).1 = true → okD (lpE (pUntF 1) i 0 (pTrial S x, 0)).2.1 1
def pBesF (k : Nat) (q : St × Int32 × Int32) : St × Int32 × Int32 :=
  if (pFoL q.1 (nI k)).1 = -1 then ((pFoL q.1 (nI k)).2, q.2.1, q.2.2) else if q.2.1 = -1 then ((pFoL q.1 (nI k)).2, nI k, (pFoL q.1 (nI k)).1) else if q.2.2 ≤ (pFoL q.1 (nI k)).1 then ((pFoL q.1 (nI k)).2, q.2.1, q.2.2) else ((pFoL q.1 (nI k)).2, nI k, (pFoL q.1 (nI k)).1)
def pBest (S : St) : St × Int32 × Int32 := lp pBesF 3 0 (S, -1, 0)
def pAbW (S : St) (x : Int32) (b : Nat) : Int32 := pAborts (pOft (pTrial S x) 1 b) 1 - pAborts (pTrial S x) 1
set_option maxRecDepth 100000 in
set_option maxHeartbeats 400000 in
theorem c_X5_run (l : Launch) (Z : wZ) (S : St) (h : Hl) (b : Nat) (hb : b ≤ 1000) (hr : pIsRun (nI b) = true) (ho : okI (S 6 0 0 6) 3) (hn : okI (S 6 0 0 7) 4) (hq : okI (S 0 4 4 7) 400) (hok : okDs (pSave S) 0 b) (hfc : okI (pRunS S b 0 4 0 4) 4) : Ci l yX5_run cX5_run 2 .int 6 143 Z [.ref (zA Z (6) (0) (0)), .int (nI (b))] S h (pFinC (pRunS S b) 0) (pRunS S b) (h) := by
  refine Ci.of rfl rfl (Nat.le_of_ble_eq_true rfl) (fun p e s mi args below meth c A0 Q X K => ?_)
  refine j_at rfl rfl (Ls3 := [(0, .ref (zA Z (6) (0) (0))), (1, .int (nI (b)))]) rfl rfl ?_
  refine j_iload_n X dX5_run_0 rfl rfl (q := 1) rfl ?_
  refine j_callSi X (c_X5_isRunLength l Z S h (nI (b))) lk_RX5_146 mt_X5_isRunLength ini_RX5 mc_X5_isRunLength md_X5_isRunLength ⟨Nat.le_of_ble_eq_true rfl, Nat.le_of_ble_eq_true rfl⟩ ⟨Nat.le_of_ble_eq_true rfl, Nat.le_of_ble_eq_true rfl⟩ rfl (Nat.le_of_ble_eq_true rfl) (as := [.int (nI (b))]) (rest := []) rfl dX5_run_1 rfl ?_
  refine j_if_ne_t X (tgt := 17) dX5_run_4 (by decide) (by rw [hr]; decide) ?_
  refine j_aload_n X dX5_run_17 rfl rfl (q := 0) rfl ?_
  refine j_callv X (c_X5_saveState l Z S h ho hn hq) (wm_top (by decide)) ((fun _ => rfl) _) rfl lk_RX5_60 mi_X5_saveState ms_X5_saveState ini_RX5 mc_X5_saveState md_X5_saveState ⟨Nat.le_of_ble_eq_true rfl, Nat.le_of_ble_eq_true rfl⟩ ⟨Nat.le_of_ble_eq_true rfl, Nat.le_of_ble_eq_true rfl⟩ rfl (Nat.le_of_ble_eq_true rfl) (as := []) (rest := []) rfl dX5_run_18 rfl ?_
  refine j_name (fun S1 eS1 => ?_)
  refine j_aload_n X dX5_run_21 rfl rfl (q := 0) rfl ?_
  refine jg_top X 3 (by decide) lk_RX5_29 rfl rfl dX5_run_22 rfl ?_
  refine j_iload_n X dX5_run_25 rfl rfl (q := 1) rfl ?_
  refine j_callNv X (c_X2_stepOften l Z S1 h 0 (by decide) b hb (by subst eS1; exact hok)) (wm_mach (by decide) (by decide)) (wE_mach (by decide) 0 _) rfl nk_RX5_151 mi_X2_stepOften ms_X2_stepOften ini_RX2 mc_X2_stepOften md_X2_stepOften ⟨Nat.le_of_ble_eq_true rfl, Nat.le_of_ble_eq_true rfl⟩ ⟨Nat.le_of_ble_eq_true rfl, Nat.le_of_ble_eq_true rfl⟩ rfl (Nat.le_of_ble_eq_true rfl) (as := [.int (nI (b))]) (rest := []) rfl dX5_run_26 rfl ?_
  refine j_name (fun S2 eS2 => ?_)
  refine j_aload_n X dX5_run_29 rfl rfl (q := 0) rfl ?_
  refine jg_top X 3 (by decide) lk_RX5_29 rfl rfl dX5_run_30 rfl ?_
  refine j_callNi X (c_X2_finishedCores l Z S2 h 0 (by decide) (by subst eS1; subst eS2; exact hfc)) (wm_mach (by decide) (by decide)) (wE_mach (by decide) 0 _) rfl nk_RX5_154 mi_X2_finishedCores ms_X2_finishedCores ini_RX2 mc_X2_finishedCores md_X2_finishedCores ⟨Nat.le_of_ble_eq_true rfl, Nat.le_of_ble_eq_true rfl⟩ ⟨Nat.le_of_ble_eq_true rfl, Nat.le_of_ble_eq_true rfl⟩ rfl (Nat.le_of_ble_eq_true rfl) (as := []) (rest := []) rfl dX5_run_33 rfl ?_
  exact j_ret (by subst eS1; subst eS2; first | with_reducible rfl | (simp [pRunS]; done) | (simp_all [pRunS]; done) | rfl) (by subst eS1; subst eS2; first | with_reducible rfl | (simp [pRunS]; done) | (simp_all [pRunS]; done) | rfl) rfl (K _ _ dX5_run_36)
set_option maxRecDepth 100000 in
set_option maxHeartbeats 400000 in
theorem c_X5_finish (l : Launch) (Z : wZ) (S : St) (h : Hl) (x : Int32) (h3 : pIsPol x = true) (hok : okT S x) : Ci l yX5_finish cX5_finish 2 .int 6 142 Z [.ref (zA Z (6) (0) (0)), .int (x)] S h ((pFoL S x).1) ((pFoL S x).2) (h) := by
  refine Ci.of rfl rfl (Nat.le_of_ble_eq_true rfl) (fun p e s mi args below meth c A0 Q X K => ?_)
  refine j_at rfl rfl (Ls3 := [(0, .ref (zA Z (6) (0) (0))), (1, .int (x))]) rfl rfl ?_
  refine j_iload_n X dX5_finish_0 rfl rfl (q := 1) rfl ?_
  refine j_callSi X (c_X5_isPolicy l Z S h (x)) lk_RX5_49 mt_X5_isPolicy ini_RX5 mc_X5_isPolicy md_X5_isPolicy ⟨Nat.le_of_ble_eq_true rfl, Nat.le_of_ble_eq_true rfl⟩ ⟨Nat.le_of_ble_eq_true rfl, Nat.le_of_ble_eq_true rfl⟩ rfl (Nat.le_of_ble_eq_true rfl) (as := [.int (x)]) (rest := []) rfl dX5_finish_1 rfl ?_
  refine j_if_ne_t X (tgt := 17) dX5_finish_4 (by decide) (by rw [h3]; decide) ?_
  refine j_aload_n X dX5_finish_17 rfl rfl (q := 0) rfl ?_
  refine j_iload_n X dX5_finish_18 rfl rfl (q := 1) rfl ?_
  refine j_callv X (c_X5_startTrial l Z S h (x) hok.1) (wm_top (by decide)) ((fun _ => rfl) _) rfl lk_RX5_213 mi_X5_startTrial ms_X5_startTrial ini_RX5 mc_X5_startTrial md_X5_startTrial ⟨Nat.le_of_ble_eq_true rfl, Nat.le_of_ble_eq_true rfl⟩ ⟨Nat.le_of_ble_eq_true rfl, Nat.le_of_ble_eq_true rfl⟩ rfl (Nat.le_of_ble_eq_true rfl) (as := [.int (x)]) (rest := []) rfl dX5_finish_19 rfl ?_
  refine j_name (fun S1 eS1 => ?_)
  refine j_aload_n X dX5_finish_22 rfl rfl (q := 0) rfl ?_
  refine jg_top X 4 (by decide) lk_RX5_33 rfl rfl dX5_finish_23 rfl ?_
  refine j_callNi X (c_X2_stepsUntilFinished l Z S1 h 1 (by decide) (by subst eS1; exact hok.2)) (wm_mach (by decide) (by decide)) (wE_mach (by decide) 0 _) rfl nk_RX5_216 mi_X2_stepsUntilFinished ms_X2_stepsUntilFinished ini_RX2 mc_X2_stepsUntilFinished md_X2_stepsUntilFinished ⟨Nat.le_of_ble_eq_true rfl, Nat.le_of_ble_eq_true rfl⟩ ⟨Nat.le_of_ble_eq_true rfl, Nat.le_of_ble_eq_true rfl⟩ rfl (Nat.le_of_ble_eq_true rfl) (as := []) (rest := []) rfl dX5_finish_26 rfl ?_
  refine j_name (fun S2 eS2 => ?_)
  exact j_ret (by subst eS1; subst eS2; first | with_reducible rfl | (simp [pFoL]; done) | (simp_all [pFoL]; done) | rfl) (by subst eS1; subst eS2; first | with_reducible rfl | (simp [pFoL]; done) | (simp_all [pFoL]; done) | rfl) rfl (K _ _ dX5_finish_29)
set_option maxRecDepth 100000 in
set_option maxHeartbeats 400000 in
theorem c_X5_abortsWith (l : Launch) (Z : wZ) (S : St) (h : Hl) (x : Int32) (h3 : pIsPol x = true) (b : Nat) (hb : b ≤ 1000) (hr : pIsRun (nI b) = true) (hq : okI (S 0 4 4 7) 400) (hok : okDs (pTrial S x) 1 b) : Ci l yX5_abortsWith cX5_abortsWith 4 .int 6 143 Z [.ref (zA Z (6) (0) (0)), .int (x), .int (nI (b))] S h (pAbW S x b) (pOft (pTrial S x) 1 b) (h) := by
  refine Ci.of rfl rfl (Nat.le_of_ble_eq_true rfl) (fun p e s mi args below meth c A0 Q X K => ?_)
  refine j_at rfl rfl (Ls3 := [(0, .ref (zA Z (6) (0) (0))), (1, .int (x)), (2, .int (nI (b)))]) rfl rfl ?_
  refine j_iload_n X dX5_abortsWith_0 rfl rfl (q := 1) rfl ?_
  refine j_callSi X (c_X5_isPolicy l Z S h (x)) lk_RX5_49 mt_X5_isPolicy ini_RX5 mc_X5_isPolicy md_X5_isPolicy ⟨Nat.le_of_ble_eq_true rfl, Nat.le_of_ble_eq_true rfl⟩ ⟨Nat.le_of_ble_eq_true rfl, Nat.le_of_ble_eq_true rfl⟩ rfl (Nat.le_of_ble_eq_true rfl) (as := [.int (x)]) (rest := []) rfl dX5_abortsWith_1 rfl ?_
  refine j_if_eq_f X dX5_abortsWith_4 rfl (tgt := 14) (by decide) (by rw [h3]; decide) ?_
  refine j_iload_n X dX5_abortsWith_7 rfl rfl (q := 2) rfl ?_
  refine j_callSi X (c_X5_isRunLength l Z S h (nI (b))) lk_RX5_146 mt_X5_isRunLength ini_RX5 mc_X5_isRunLength md_X5_isRunLength ⟨Nat.le_of_ble_eq_true rfl, Nat.le_of_ble_eq_true rfl⟩ ⟨Nat.le_of_ble_eq_true rfl, Nat.le_of_ble_eq_true rfl⟩ rfl (Nat.le_of_ble_eq_true rfl) (as := [.int (nI (b))]) (rest := []) rfl dX5_abortsWith_8 rfl ?_
  refine j_if_ne_t X (tgt := 24) dX5_abortsWith_11 (by decide) (by rw [hr]; decide) ?_
  refine j_aload_n X dX5_abortsWith_24 rfl rfl (q := 0) rfl ?_
  refine j_iload_n X dX5_abortsWith_25 rfl rfl (q := 1) rfl ?_
  refine j_callv X (c_X5_startTrial l Z S h (x) hq) (wm_top (by decide)) ((fun _ => rfl) _) rfl lk_RX5_213 mi_X5_startTrial ms_X5_startTrial ini_RX5 mc_X5_startTrial md_X5_startTrial ⟨Nat.le_of_ble_eq_true rfl, Nat.le_of_ble_eq_true rfl⟩ ⟨Nat.le_of_ble_eq_true rfl, Nat.le_of_ble_eq_true rfl⟩ rfl (Nat.le_of_ble_eq_true rfl) (as := [.int (x)]) (rest := []) rfl dX5_abortsWith_26 rfl ?_
  refine j_name (fun S1 eS1 => ?_)
  refine j_aload_n X dX5_abortsWith_29 rfl rfl (q := 0) rfl ?_
  refine jg_top X 4 (by decide) lk_RX5_33 rfl rfl dX5_abortsWith_30 rfl ?_
  refine j_callNi X (c_X2_abortsSoFar l Z S1 h 1 (by decide) ) (wm_mach (by decide) (by decide)) (wE_mach (by decide) 0 _) rfl nk_RX5_219 mi_X2_abortsSoFar ms_X2_abortsSoFar ini_RX2 mc_X2_abortsSoFar md_X2_abortsSoFar ⟨Nat.le_of_ble_eq_true rfl, Nat.le_of_ble_eq_true rfl⟩ ⟨Nat.le_of_ble_eq_true rfl, Nat.le_of_ble_eq_true rfl⟩ rfl (Nat.le_of_ble_eq_true rfl) (as := []) (rest := []) rfl dX5_abortsWith_33 rfl ?_
  refine j_istore_n X dX5_abortsWith_36 rfl rfl (by decide) (Ls2 := [(3, .int (pAborts S1 1)), (0, .ref (zA Z (6) (0) (0))), (1, .int (x)), (2, .int (nI (b)))]) rfl ?_
  refine j_aload_n X dX5_abortsWith_37 rfl rfl (q := 1) rfl ?_
  refine jg_top X 4 (by decide) lk_RX5_33 rfl rfl dX5_abortsWith_38 rfl ?_
  refine j_iload_n X dX5_abortsWith_41 rfl rfl (q := 3) rfl ?_
  refine j_callNv X (c_X2_stepOften l Z S1 h 1 (by decide) b hb (by subst eS1; exact hok)) (wm_mach (by decide) (by decide)) (wE_mach (by decide) 0 _) rfl nk_RX5_151 mi_X2_stepOften ms_X2_stepOften ini_RX2 mc_X2_stepOften md_X2_stepOften ⟨Nat.le_of_ble_eq_true rfl, Nat.le_of_ble_eq_true rfl⟩ ⟨Nat.le_of_ble_eq_true rfl, Nat.le_of_ble_eq_true rfl⟩ rfl (Nat.le_of_ble_eq_true rfl) (as := [.int (nI (b))]) (rest := []) rfl dX5_abortsWith_42 rfl ?_
  refine j_name (fun S2 eS2 => ?_)
  refine j_aload_n X dX5_abortsWith_45 rfl rfl (q := 1) rfl ?_
  refine jg_top X 4 (by decide) lk_RX5_33 rfl rfl dX5_abortsWith_46 rfl ?_
  refine j_callNi X (c_X2_abortsSoFar l Z S2 h 1 (by decide) ) (wm_mach (by decide) (by decide)) (wE_mach (by decide) 0 _) rfl nk_RX5_219 mi_X2_abortsSoFar ms_X2_abortsSoFar ini_RX2 mc_X2_abortsSoFar md_X2_abortsSoFar ⟨Nat.le_of_ble_eq_true rfl, Nat.le_of_ble_eq_true rfl⟩ ⟨Nat.le_of_ble_eq_true rfl, Nat.le_of_ble_eq_true rfl⟩ rfl (Nat.le_of_ble_eq_true rfl) (as := []) (rest := []) rfl dX5_abortsWith_49 rfl ?_
  refine j_iload_n X dX5_abortsWith_52 rfl rfl (q := 0) rfl ?_
  refine j_isub X dX5_abortsWith_53 rfl ?_
  exact j_ret (by subst eS1; subst eS2; first | with_reducible rfl | (simp [pAbW]; done) | (simp_all [pAbW]; done) | rfl) (by subst eS1; subst eS2; first | with_reducible rfl | (simp [pAbW]; done) | (simp_all [pAbW]; done) | rfl) rfl (K _ _ dX5_abortsWith_54)

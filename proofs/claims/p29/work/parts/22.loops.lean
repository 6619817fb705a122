/-! loops over steps: what each round wants -/
def okD (S : St) (m : Nat) : Prop := okI (S m 4 0 4) 4 ∧ (¬ (pDraw S m).1 = -1 → okI (pDraw S m).1 3 ∧ wfS (pDraw S m).2 m (pDraw S m).1.toNatClampNeg)
def pOftF (m : Nat) (_ : Nat) (S : St) : Bool × St := if (pDraw S m).1 = -1 then (false, (pDraw S m).2) else (true, (pStep (pDraw S m).2 m (pDraw S m).1.toNatClampNeg).2)
def pOft (S : St) (m b : Nat) : St := (lpE (pOftF m) b 0 S).2
def pUntF (m : Nat) (k : Nat) (q : St × Int32) : Bool × St × Int32 := if (pDraw q.1 m).1 = -1 then (false, (pDraw q.1 m).2, nI k) else (true, (pStep (pDraw q.1 m).2 m (pDraw q.1 m).1.toNatClampNeg).2, q.2)
def pUntL (S : St) (m : Nat) : Bool × St × Int32 := lpE (pUntF m) 2000 0 (S, 0)
def pUnt (S : St) (m : Nat) : Int32 × St := if (pUntL S m).1 = true then (if pFinC (pUntL S m).2.1 m = (pUntL S m).2.1 m 4 0 4 then 2000 else -1, (pUntL S m).2.1) else ((pUntL S m).2.2, (pUntL S m).2.1)
theorem lpE_s {σ : Type} {f : Nat → σ → Bool × σ} {k i : Nat} {S T : σ} (h : f k S = (true, T)) : lpE f (i + 1) k S = lpE f i (k + 1) T := by rw [lpE, h]; rfl
def okR (S : St) : Prop := okI (S 7 0 1 0) 4 ∧ (¬ rRun S = 0 → (rSelL S).1 = false) ∧ ∀ k, k < rCC S → rFin S k = false → wfE S k
def rRunF (_ : Nat) (S : St) : Bool × St := if (rSch S).1 = true then (true, (rSch S).2) else (false, (rSch S).2)
def rRuns (S : St) (b : Nat) : St := (lpE rRunF b 0 S).2
def rUntF (k : Nat) (q : St × Int32) : Bool × St × Int32 := if (rSch q.1).1 = true then (true, (rSch q.1).2, q.2) else (false, (rSch q.1).2, nI k)
def rUntL (S : St) : Bool × St × Int32 := lpE rUntF 2000 0 (S, 0)
set_option maxRecDepth 100000 in
set_option maxHeartbeats 4000000 in
theorem L_often (l : Launch) (Z : wZ) (h : Hl) (m : Nat) (hm : m < 6) (b : Nat) (hb : b ≤ 1000) {p : Program} {e : Env} {s : State} {mi : MethodId} {args : Array Value} {below : List Frame} {meth : Method} {c : Code} {A0 : Nat → Prop} {Q : State → Prop} (X : JX p s mi args meth c cX2_stepOften 4 yX2_stepOften.cls Z A0) : ∀ (n k : Nat) (S : St), k + n = b → (∀ i, i ≤ n → (lpE (pOftF m) i k S).1 = true → okD (lpE (pOftF m) i k S).2 m) → ((lpE (pOftF m) n k S).1 = true → J p l e { frames := 5, cells := 0, slots := 0, locals := 120 } s mi args below meth c 4 Z A0 0 0 Q ((lpE (pOftF m) n k S).2) h [] 30 []) → ((lpE (pOftF m) n k S).1 = false → J p l e { frames := 5, cells := 0, slots := 0, locals := 120 } s mi args below meth c 4 Z A0 0 0 Q ((lpE (pOftF m) n k S).2) h [] 17 []) → J p l e { frames := 5, cells := 0, slots := 0, locals := 120 } s mi args below meth c 4 Z A0 0 0 Q S h [(2, .int (nI (k))), (0, .ref (zA Z (m) (4) (0))), (1, .int (nI (b)))] 2 [] := by
  intro n
  induction n with
  | zero =>
    intro k S hkn hI hT hF
    have hkN : b = k := by omega
    subst hkN
    have hD : okD S m := hI 0 (Nat.zero_le _) rfl
    refine j_iload_n X dX2_stepOften_2 rfl rfl (q := 0) rfl ?_
    refine j_iload_n X dX2_stepOften_3 rfl rfl (q := 2) rfl ?_
    refine j_icmp_ge_t X (tgt := 30) dX2_stepOften_4 (by decide) (nI_le (Nat.le_refl _) (by omega)) ?_
    refine j_sub [] (Ls2 := []) rfl ?_
    exact hT rfl
  | succ n ih =>
    intro k S hkn hI hT hF
    have hlt : k < b := by omega
    have hD : okD S m := hI 0 (Nat.zero_le _) rfl
    refine j_iload_n X dX2_stepOften_2 rfl rfl (q := 0) rfl ?_
    refine j_iload_n X dX2_stepOften_3 rfl rfl (q := 2) rfl ?_
    refine j_icmp_ge_f X dX2_stepOften_4 rfl (tgt := 30) (by decide) (nI_ge hlt (by omega)) ?_
    refine j_aload_n X dX2_stepOften_7 rfl rfl (q := 1) rfl ?_
    refine j_calli X (c_X2_drawCore l Z S h m hm hD.1) (wm_mach hm (by decide)) (wE_mach hm 0 _) rfl lk_RX2_90 mi_X2_drawCore ms_X2_drawCore ini_RX2 mc_X2_drawCore md_X2_drawCore ⟨Nat.le_of_ble_eq_true rfl, Nat.le_of_ble_eq_true rfl⟩ ⟨Nat.le_of_ble_eq_true rfl, Nat.le_of_ble_eq_true rfl⟩ rfl (Nat.le_of_ble_eq_true rfl) (as := []) (rest := []) rfl dX2_stepOften_8 rfl ?_
    refine j_name (fun S1 eS1 => ?_)
    refine j_istore_n X dX2_stepOften_11 rfl rfl (by decide) (Ls2 := [(3, .int ((pDraw S m).1)), (2, .int (nI (k))), (0, .ref (zA Z (m) (4) (0))), (1, .int (nI (b)))]) rfl ?_
    refine j_iload_n X dX2_stepOften_12 rfl rfl (q := 0) rfl ?_
    refine j_iconst X dX2_stepOften_13 rfl (v := -1) (by decide) ?_
    refine j_icmp_ne X dX2_stepOften_14 rfl (tgt := 18) (by decide) (fun c_14 => ?_) (fun c_14 => ?_)
    · refine j_aload_n X dX2_stepOften_18 rfl rfl (q := 2) rfl ?_
      refine j_iload_n X dX2_stepOften_19 rfl rfl (q := 0) rfl ?_
      refine j_topeq (y := nI (pDraw S m).1.toNatClampNeg) (hD.2 c_14).1.1 ?_
      refine j_calli X (c_X2_stepCore l Z S1 h m ((pDraw S m).1.toNatClampNeg) hm (by have := (hD.2 c_14).1.2; omega) (by subst eS1; exact (hD.2 c_14).2)) (wm_mach hm (by decide)) (wE_mach hm 0 _) rfl lk_RX2_93 mi_X2_stepCore ms_X2_stepCore ini_RX2 mc_X2_stepCore md_X2_stepCore ⟨Nat.le_of_ble_eq_true rfl, Nat.le_of_ble_eq_true rfl⟩ ⟨Nat.le_of_ble_eq_true rfl, Nat.le_of_ble_eq_true rfl⟩ rfl (Nat.le_of_ble_eq_true rfl) (as := [.int (nI ((pDraw S m).1.toNatClampNeg))]) (rest := []) rfl dX2_stepOften_20 rfl ?_
      refine j_name (fun S2 eS2 => ?_)
      refine j_pop X dX2_stepOften_23 rfl rfl ?_
      refine j_iinc X dX2_stepOften_24 rfl (q := 1) rfl (v := (nI (k + 1))) (nI_1 _) (by decide) (Ls2 := [(2, .int (nI (k + 1))), (3, .int ((pDraw S m).1)), (0, .ref (zA Z (m) (4) (0))), (1, .int (nI (b)))]) rfl ?_
      refine j_goto X (tgt := 2) dX2_stepOften_27 (by decide) ?_
      refine j_sub [0, 2, 3] (Ls2 := [(2, .int (nI (k + 1))), (0, .ref (zA Z (m) (4) (0))), (1, .int (nI (b)))]) rfl ?_
      have eB : (pOftF m) k S = (true, S2) := by subst eS1; subst eS2; first | rfl | simp [pOftF, c_14]
      have eL : lpE (pOftF m) (n + 1) k S = lpE (pOftF m) n (k + 1) S2 := by rw [lpE, eB]; rfl
      rw [eL] at hT hF
      exact ih (k + 1) S2 (by omega) (by subst eS1; subst eS2; intro i hi h1; have h2 := hI (i + 1) (by omega); rw [lpE_s eB] at h2; exact h2 h1) hT hF
    · have eB : (pOftF m) k S = (false, S1) := by subst eS1; first | rfl | simp [pOftF, c_14]
      have eL : lpE (pOftF m) (n + 1) k S = (false, S1) := by rw [lpE, eB]; rfl
      rw [eL] at hF
      refine j_sub [] (Ls2 := []) rfl ?_
      exact hF rfl
set_option maxRecDepth 100000 in
set_option maxHeartbeats 4000000 in
theorem c_X2_stepOften (l : Launch) (Z : wZ) (S : St) (h : Hl) (m : Nat) (hm : m < 6) (b : Nat) (hb : b ≤ 1000) (hok : ∀ i, i ≤ b → (lpE (pOftF m) i 0 S).1 = true → okD (lpE (pOftF m) i 0 S).2 m) : Cv l yX2_stepOften cX2_stepOften 4 5 120 Z [.ref (zA Z (m) (4) (0)), .int (nI (b))] S h (pOft S m b) (h) := by
  refine Cv.of rfl (Nat.le_of_ble_eq_true rfl) (fun p e s mi args below meth c A0 Q X K => ?_)
  refine j_at rfl rfl (Ls3 := [(0, .ref (zA Z (m) (4) (0))), (1, .int (nI (b)))]) rfl rfl ?_
  refine j_iconst X dX2_stepOften_0 rfl (v := 0) (by decide) ?_
  refine j_istore_n X dX2_stepOften_1 rfl rfl (by decide) (Ls2 := [(2, .int (0)), (0, .ref (zA Z (m) (4) (0))), (1, .int (nI (b)))]) rfl ?_
  refine j_sub [0, 1, 2] (Ls2 := [(2, .int (0)), (0, .ref (zA Z (m) (4) (0))), (1, .int (nI (b)))]) rfl ?_
  refine L_often l Z h m hm b hb X b 0 S (by omega) hok (fun hb1 => ?_) (fun hb1 => ?_)
  · refine j_name (fun S2 eS2 => ?_)
    exact j_at (by subst eS2; first | rfl | simp [pOft, hb1]) rfl rfl rfl (K _ _ dX2_stepOften_30)
  · refine j_name (fun S3 eS3 => ?_)
    exact j_at (by subst eS3; first | rfl | simp [pOft, hb1]) rfl rfl rfl (K _ _ dX2_stepOften_17)
set_option maxRecDepth 100000 in
set_option maxHeartbeats 4000000 in
theorem L_unt (l : Launch) (Z : wZ) (h : Hl) (m : Nat) (hm : m < 6) {p : Program} {e : Env} {s : State} {mi : MethodId} {args : Array Value} {below : List Frame} {meth : Method} {c : Code} {A0 : Nat → Prop} {Q : State → Prop} (X : JX p s mi args meth c cX2_stepsUntilFinished 3 yX2_stepsUntilFinished.cls Z A0) : ∀ (n k : Nat) (S : St) (r : Int32), k + n = 2000 → (∀ i, i ≤ n → (lpE (pUntF m) i k (S, r)).1 = true → okD (lpE (pUntF m) i k (S, r)).2.1 m) → ((lpE (pUntF m) n k (S, r)).1 = true → J p l e { frames := 5, cells := 0, slots := 0, locals := 120 } s mi args below meth c 3 Z A0 0 0 Q ((lpE (pUntF m) n k (S, r)).2.1) h [(0, .ref (zA Z (m) (4) (0)))] 33 []) → ((lpE (pUntF m) n k (S, r)).1 = false → J p l e { frames := 5, cells := 0, slots := 0, locals := 120 } s mi args below meth c 3 Z A0 0 0 Q ((lpE (pUntF m) n k (S, r)).2.1) h [] 20 [.int ((lpE (pUntF m) n k (S, r)).2.2)]) → J p l e { frames := 5, cells := 0, slots := 0, locals := 120 } s mi args below meth c 3 Z A0 0 0 Q S h [(1, .int (nI (k))), (0, .ref (zA Z (m) (4) (0)))] 2 [] := by
  intro n
  induction n with
  | zero =>
    intro k S r hkn hI hT hF
    have hkN : 2000 = k := by omega
    subst hkN
    have hD : okD S m := hI 0 (Nat.zero_le _) rfl
    refine j_iload_n X dX2_stepsUntilFinished_2 rfl rfl (q := 0) rfl ?_
    refine j_sipush X dX2_stepsUntilFinished_3 rfl (v := 2000) (by decide) ?_
    refine j_icmp_ge_t X (tgt := 33) dX2_stepsUntilFinished_6 (by decide) (nI_le (Nat.le_refl _) (by decide)) ?_
    refine j_sub [1] (Ls2 := [(0, .ref (zA Z (m) (4) (0)))]) rfl ?_
    exact hT rfl
  | succ n ih =>
    intro k S r hkn hI hT hF
    have hlt : k < 2000 := by omega
    have hD : okD S m := hI 0 (Nat.zero_le _) rfl
    refine j_iload_n X dX2_stepsUntilFinished_2 rfl rfl (q := 0) rfl ?_
    refine j_sipush X dX2_stepsUntilFinished_3 rfl (v := 2000) (by decide) ?_
    refine j_icmp_ge_f X dX2_stepsUntilFinished_6 rfl (tgt := 33) (by decide) (nI_ge hlt (by decide)) ?_
    refine j_aload_n X dX2_stepsUntilFinished_9 rfl rfl (q := 1) rfl ?_
    refine j_calli X (c_X2_drawCore l Z S h m hm hD.1) (wm_mach hm (by decide)) (wE_mach hm 0 _) rfl lk_RX2_90 mi_X2_drawCore ms_X2_drawCore ini_RX2 mc_X2_drawCore md_X2_drawCore ⟨Nat.le_of_ble_eq_true rfl, Nat.le_of_ble_eq_true rfl⟩ ⟨Nat.le_of_ble_eq_true rfl, Nat.le_of_ble_eq_true rfl⟩ rfl (Nat.le_of_ble_eq_true rfl) (as := []) (rest := []) rfl dX2_stepsUntilFinished_10 rfl ?_
    refine j_name (fun S1 eS1 => ?_)
    refine j_istore_n X dX2_stepsUntilFinished_13 rfl rfl (by decide) (Ls2 := [(2, .int ((pDraw S m).1)), (1, .int (nI (k))), (0, .ref (zA Z (m) (4) (0)))]) rfl ?_
    refine j_iload_n X dX2_stepsUntilFinished_14 rfl rfl (q := 0) rfl ?_
    refine j_iconst X dX2_stepsUntilFinished_15 rfl (v := -1) (by decide) ?_
    refine j_icmp_ne X dX2_stepsUntilFinished_16 rfl (tgt := 21) (by decide) (fun c_16 => ?_) (fun c_16 => ?_)
    · refine j_aload_n X dX2_stepsUntilFinished_21 rfl rfl (q := 2) rfl ?_
      refine j_iload_n X dX2_stepsUntilFinished_22 rfl rfl (q := 0) rfl ?_
      refine j_topeq (y := nI (pDraw S m).1.toNatClampNeg) (hD.2 c_16).1.1 ?_
      refine j_calli X (c_X2_stepCore l Z S1 h m ((pDraw S m).1.toNatClampNeg) hm (by have := (hD.2 c_16).1.2; omega) (by subst eS1; exact (hD.2 c_16).2)) (wm_mach hm (by decide)) (wE_mach hm 0 _) rfl lk_RX2_93 mi_X2_stepCore ms_X2_stepCore ini_RX2 mc_X2_stepCore md_X2_stepCore ⟨Nat.le_of_ble_eq_true rfl, Nat.le_of_ble_eq_true rfl⟩ ⟨Nat.le_of_ble_eq_true rfl, Nat.le_of_ble_eq_true rfl⟩ rfl (Nat.le_of_ble_eq_true rfl) (as := [.int (nI ((pDraw S m).1.toNatClampNeg))]) (rest := []) rfl dX2_stepsUntilFinished_23 rfl ?_
      refine j_name (fun S2 eS2 => ?_)
      refine j_pop X dX2_stepsUntilFinished_26 rfl rfl ?_
      refine j_iinc X dX2_stepsUntilFinished_27 rfl (q := 1) rfl (v := (nI (k + 1))) (nI_1 _) (by decide) (Ls2 := [(1, .int (nI (k + 1))), (2, .int ((pDraw S m).1)), (0, .ref (zA Z (m) (4) (0)))]) rfl ?_
      refine j_goto X (tgt := 2) dX2_stepsUntilFinished_30 (by decide) ?_
      refine j_sub [0, 2] (Ls2 := [(1, .int (nI (k + 1))), (0, .ref (zA Z (m) (4) (0)))]) rfl ?_
      have eB : (pUntF m) k (S, r) = (true, (S2, r)) := by subst eS1; subst eS2; first | rfl | simp [pUntF, c_16]
      have eL : lpE (pUntF m) (n + 1) k (S, r) = lpE (pUntF m) n (k + 1) (S2, r) := by rw [lpE, eB]; rfl
      rw [eL] at hT hF
      exact ih (k + 1) S2 r (by omega) (by subst eS1; subst eS2; intro i hi h1; have h2 := hI (i + 1) (by omega); rw [lpE_s eB] at h2; exact h2 h1) hT hF
    · refine j_iload_n X dX2_stepsUntilFinished_19 rfl rfl (q := 1) rfl ?_
      have eB : (pUntF m) k (S, r) = (false, (S1, (nI (k)))) := by subst eS1; first | rfl | simp [pUntF, c_16]
      have eL : lpE (pUntF m) (n + 1) k (S, r) = (false, (S1, (nI (k)))) := by rw [lpE, eB]; rfl
      rw [eL] at hF
      refine j_sub [] (Ls2 := []) rfl ?_
      exact hF rfl
set_option maxRecDepth 100000 in
set_option maxHeartbeats 4000000 in
theorem c_X2_stepsUntilFinished (l : Launch) (Z : wZ) (S : St) (h : Hl) (m : Nat) (hm : m < 6) (hok : ∀ i, i ≤ 2000 → (lpE (pUntF m) i 0 (S, 0)).1 = true → okD (lpE (pUntF m) i 0 (S, 0)).2.1 m) : Ci l yX2_stepsUntilFinished cX2_stepsUntilFinished 3 .int 5 120 Z [.ref (zA Z (m) (4) (0))] S h ((pUnt S m).1) ((pUnt S m).2) (h) := by
  refine Ci.of rfl rfl (Nat.le_of_ble_eq_true rfl) (fun p e s mi args below meth c A0 Q X K => ?_)
  refine j_at rfl rfl (Ls3 := [(0, .ref (zA Z (m) (4) (0)))]) rfl rfl ?_
  refine j_iconst X dX2_stepsUntilFinished_0 rfl (v := 0) (by decide) ?_
  refine j_istore_n X dX2_stepsUntilFinished_1 rfl rfl (by decide) (Ls2 := [(1, .int (0)), (0, .ref (zA Z (m) (4) (0)))]) rfl ?_
  refine j_sub [0, 1] (Ls2 := [(1, .int (0)), (0, .ref (zA Z (m) (4) (0)))]) rfl ?_
  refine L_unt l Z h m hm X 2000 0 S 0 (by omega) hok (fun hb1 => ?_) (fun hb1 => ?_)
  · refine j_name (fun S2 eS2 => ?_)
    refine j_aload_n X dX2_stepsUntilFinished_33 rfl rfl (q := 0) rfl ?_
    refine j_calli X (c_X2_finishedCores l Z S2 h m hm (by subst eS2; exact (hok 2000 (Nat.le_refl _) hb1).1)) (wm_mach hm (by decide)) (wE_mach hm 0 _) rfl lk_RX2_69 mi_X2_finishedCores ms_X2_finishedCores ini_RX2 mc_X2_finishedCores md_X2_finishedCores ⟨Nat.le_of_ble_eq_true rfl, Nat.le_of_ble_eq_true rfl⟩ ⟨Nat.le_of_ble_eq_true rfl, Nat.le_of_ble_eq_true rfl⟩ rfl (Nat.le_of_ble_eq_true rfl) (as := []) (rest := []) rfl dX2_stepsUntilFinished_34 rfl ?_
    refine j_aload_n X dX2_stepsUntilFinished_37 rfl rfl (q := 0) rfl ?_
    refine jg_mach X hm 4 (by decide) lk_RX2_34 rfl rfl dX2_stepsUntilFinished_38 rfl ?_
    refine j_icmp_ne X dX2_stepsUntilFinished_41 rfl (tgt := 50) (by decide) (fun c_41 => ?_) (fun c_41 => ?_)
    · refine j_iconst X dX2_stepsUntilFinished_50 rfl (v := -1) (by decide) ?_
      have hb' : (pUntL S m).1 = true := by subst eS2; exact hb1
      have hc' : ¬ pFinC (pUntL S m).2.1 m = (pUntL S m).2.1 m 4 0 4 := by subst eS2; exact c_41
      exact j_ret (by subst eS2; rw [pUnt, if_pos hb', if_neg hc']) (by subst eS2; rw [pUnt, if_pos hb']; rfl) rfl (K _ _ dX2_stepsUntilFinished_51)
    · refine j_sipush X dX2_stepsUntilFinished_44 rfl (v := 2000) (by decide) ?_
      refine j_goto X (tgt := 51) dX2_stepsUntilFinished_47 (by decide) ?_
      have hb' : (pUntL S m).1 = true := by subst eS2; exact hb1
      have hc' : pFinC (pUntL S m).2.1 m = (pUntL S m).2.1 m 4 0 4 := by subst eS2; exact c_41
      exact j_ret (by subst eS2; rw [pUnt, if_pos hb', if_pos hc']) (by subst eS2; rw [pUnt, if_pos hb']; rfl) rfl (K _ _ dX2_stepsUntilFinished_51)
  · refine j_name (fun S3 eS3 => ?_)
    have hb' : (pUntL S m).1 = false := by subst eS3; exact hb1
    exact j_ret (by subst eS3; rw [pUnt, if_neg (by rw [hb']; decide)]; rfl) (by subst eS3; rw [pUnt, if_neg (by rw [hb']; decide)]; rfl) rfl (K _ _ dX2_stepsUntilFinished_20)

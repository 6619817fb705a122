/-- what a step of a core wants of the state -/
def wfS (S : St) (m g : Nat) : Prop := okI (S m 4 0 4) 4 ∧ okI (S m 4 4 7) 400 ∧ okI (S m g 0 3) 29 ∧ pFin S m g = false ∧ okI (S m g 4 (pPs S m g)) 4 ∧ ((S m g 4 (pPs S m g) = 2 ∨ S m g 4 (pPs S m g) = 3) → okI (S m g 5 (pPs S m g)) 7)
theorem okI_ex {x : Int32} {b : Nat} (h : okI x b) : ∃ k, k ≤ b ∧ x = nI k := ⟨_, h.2, h.1⟩
theorem okI_nI {k b : Nat} (h : k ≤ b) (hb : b < 2 ^ 31) : okI (nI k) b := by
  unfold okI; rw [nI_clamp (by omega)]; exact ⟨rfl, h⟩
theorem c_X2_stepCore (l : Launch) (Z : wZ) (S : St) (h : Hl) (m g : Nat) (hm : m < 6) (hg : g < 4) (hw : wfS S m g) : Ci l yX2_stepCore cX2_stepCore 7 .int 4 94 Z [.ref (zA Z (m) (4) (0)), .int (nI (g))] S h (pStep S m g).1 (pStep S m g).2 h := by
  obtain ⟨hcc, hq, hps, hfin, hkd, hop⟩ := hw
  obtain ⟨kd, hk4, hk⟩ := okI_ex hkd
  have ek : (S m g 4 (pPs S m g)).toNatClampNeg = kd := by rw [hk]; exact nI_clamp (by omega)
  unfold pStep
  rw [ek]
  have e2 : nI 2 = 2 := rfl
  have e3 : nI 3 = 3 := rfl
  match kd, hk4, hk with
  | 0, _, hk => exact c_X2_stepCore_0 l Z S h m g hm hg hcc hq hps hfin hk _
  | 1, _, hk => exact c_X2_stepCore_1 l Z S h m g hm hg hcc hq hps hfin hk _
  | 2, _, hk =>
    have ho := hop (Or.inl hk)
    exact c_X2_stepCore_2 l Z S h m g hm hg hcc hq hps hfin hk _ (by have := ho.2; omega) ho.1
  | 3, _, hk =>
    have ho := hop (Or.inr hk)
    exact c_X2_stepCore_3 l Z S h m g hm hg hcc hq hps hfin hk _ (by have := ho.2; omega) ho.1
  | 4, _, hk => exact c_X2_stepCore_4 l Z S h m g hm hg hcc hq hps hfin hk _
set_option maxRecDepth 100000 in
set_option maxHeartbeats 4000000 in
theorem L_draw (l : Launch) (Z : wZ) (h : Hl) (S : St) (m : Nat) (hm : m < 6) (cc : Nat) (hc4 : cc ≤ 4) (hI : S m 4 0 4 = nI cc) {p : Program} {e : Env} {s : State} {mi : MethodId} {args : Array Value} {below : List Frame} {meth : Method} {c : Code} {A0 : Nat → Prop} {Q : State → Prop} (X : JX p s mi args meth c cX2_drawCore 4 yX2_drawCore.cls Z A0) : ∀ (n k : Nat) (t : Int32) (r : Int32), k + n = cc → ((lpE (pDrawF S m) n k (t, r)).1 = true → J p l e { frames := 2, cells := 0, slots := 0, locals := 42 } s mi args below meth c 4 Z A0 0 0 Q (S) h [] 88 []) → ((lpE (pDrawF S m) n k (t, r)).1 = false → J p l e { frames := 2, cells := 0, slots := 0, locals := 42 } s mi args below meth c 4 Z A0 0 0 Q (S) h [] 78 [.int ((lpE (pDrawF S m) n k (t, r)).2.2)]) → J p l e { frames := 2, cells := 0, slots := 0, locals := 42 } s mi args below meth c 4 Z A0 0 0 Q S h [(3, .int (nI (k))), (0, .ref (zA Z (m) (4) (0))), (2, .int (t))] 50 [] := by
  intro n
  induction n with
  | zero =>
    intro k t r hkn hT hF
    have hkN : cc = k := by omega
    subst hkN
    refine j_iload_n X dX2_drawCore_50 rfl rfl (q := 0) rfl ?_
    refine j_aload_n X dX2_drawCore_51 rfl rfl (q := 1) rfl ?_
    refine jg_mach X hm 4 (by decide) lk_RX2_34 rfl rfl dX2_drawCore_52 rfl ?_
    refine j_topeq (y := (nI (cc))) (hI) ?_
    refine j_icmp_ge_t X (tgt := 88) dX2_drawCore_55 (by decide) (nI_le (Nat.le_refl _) (by omega)) ?_
    refine j_sub [] (Ls2 := []) rfl ?_
    exact hT rfl
  | succ n ih =>
    intro k t r hkn hT hF
    have hlt : k < cc := by omega
    refine j_iload_n X dX2_drawCore_50 rfl rfl (q := 0) rfl ?_
    refine j_aload_n X dX2_drawCore_51 rfl rfl (q := 1) rfl ?_
    refine jg_mach X hm 4 (by decide) lk_RX2_34 rfl rfl dX2_drawCore_52 rfl ?_
    refine j_topeq (y := (nI (cc))) (hI) ?_
    refine j_icmp_ge_f X dX2_drawCore_55 rfl (tgt := 88) (by decide) (nI_ge hlt (by omega)) ?_
    refine j_aload_n X dX2_drawCore_58 rfl rfl (q := 1) rfl ?_
    refine jg_mach X hm 0 (by decide) lk_RX2_11 rfl rfl dX2_drawCore_59 rfl ?_
    refine j_iload_n X dX2_drawCore_62 rfl rfl (q := 0) rfl ?_
    refine j_aldCN X (g := k) hm (by omega) dX2_drawCore_63 rfl ?_
    refine j_callNi X (c_X0_isFinished l Z S h m k hm (by omega) ) (wm_core hm (by omega) (by decide)) (wE_core hm (by omega) 0 _) rfl nk_RX2_73 mi_X0_isFinished ms_X0_isFinished ini_RX0 mc_X0_isFinished md_X0_isFinished ⟨Nat.le_of_ble_eq_true rfl, Nat.le_of_ble_eq_true rfl⟩ ⟨Nat.le_of_ble_eq_true rfl, Nat.le_of_ble_eq_true rfl⟩ rfl (Nat.le_of_ble_eq_true rfl) (as := []) (rest := []) rfl dX2_drawCore_64 rfl ?_
    refine j_ifb_eq X dX2_drawCore_67 rfl (tgt := 73) (by decide) (fun c_67 => ?_) (fun c_67 => ?_)
    · refine j_iload_n X dX2_drawCore_73 rfl rfl (q := 2) rfl ?_
      refine j_if_ne X dX2_drawCore_74 rfl (tgt := 79) (by decide) (fun c_74 => ?_) (fun c_74 => ?_)
      · refine j_iinc X dX2_drawCore_79 rfl (q := 2) rfl (v := ((t) + (-1))) rfl (by decide) (Ls2 := [(2, .int ((t) + (-1))), (3, .int (nI (k))), (0, .ref (zA Z (m) (4) (0)))]) rfl ?_
        refine j_iinc X dX2_drawCore_82 rfl (q := 1) rfl (v := (nI (k + 1))) (nI_1 _) (by decide) (Ls2 := [(3, .int (nI (k + 1))), (2, .int ((t) + (-1))), (0, .ref (zA Z (m) (4) (0)))]) rfl ?_
        refine j_goto X (tgt := 50) dX2_drawCore_85 (by decide) ?_
        refine j_sub [0, 2, 1] (Ls2 := [(3, .int (nI (k + 1))), (0, .ref (zA Z (m) (4) (0))), (2, .int ((t) + (-1)))]) rfl ?_
        have eB : (pDrawF S m) k (t, r) = (true, (((t) + (-1)), r)) := by first | rfl | simp [pDrawF, c_67, c_74]
        have eL : lpE (pDrawF S m) (n + 1) k (t, r) = lpE (pDrawF S m) n (k + 1) (((t) + (-1)), r) := by rw [lpE, eB]; rfl
        rw [eL] at hT hF
        exact ih (k + 1) (((t) + (-1))) r (by omega) hT hF
      · refine j_iload_n X dX2_drawCore_77 rfl rfl (q := 0) rfl ?_
        have eB : (pDrawF S m) k (t, r) = (false, ((t), (nI (k)))) := by first | rfl | simp [pDrawF, c_67, c_74]
        have eL : lpE (pDrawF S m) (n + 1) k (t, r) = (false, ((t), (nI (k)))) := by rw [lpE, eB]; rfl
        rw [eL] at hF
        refine j_sub [] (Ls2 := []) rfl ?_
        exact hF rfl
    · refine j_goto X (tgt := 82) dX2_drawCore_70 (by decide) ?_
      refine j_iinc X dX2_drawCore_82 rfl (q := 0) rfl (v := (nI (k + 1))) (nI_1 _) (by decide) (Ls2 := [(3, .int (nI (k + 1))), (0, .ref (zA Z (m) (4) (0))), (2, .int (t))]) rfl ?_
      refine j_goto X (tgt := 50) dX2_drawCore_85 (by decide) ?_
      refine j_sub [0, 1, 2] (Ls2 := [(3, .int (nI (k + 1))), (0, .ref (zA Z (m) (4) (0))), (2, .int (t))]) rfl ?_
      have eB : (pDrawF S m) k (t, r) = (true, ((t), r)) := by first | rfl | simp [pDrawF, c_67]
      have eL : lpE (pDrawF S m) (n + 1) k (t, r) = lpE (pDrawF S m) n (k + 1) ((t), r) := by rw [lpE, eB]; rfl
      rw [eL] at hT hF
      exact ih (k + 1) ((t)) r (by omega) hT hF
set_option maxRecDepth 100000 in
set_option maxHeartbeats 4000000 in
theorem c_X2_drawCore (l : Launch) (Z : wZ) (S : St) (h : Hl) (m : Nat) (hm : m < 6) (hcc : okI (S m 4 0 4) 4) : Ci l yX2_drawCore cX2_drawCore 4 .int 2 42 Z [.ref (zA Z (m) (4) (0))] S h ((pDraw S m).1) ((pDraw S m).2) (h) := by
  have hc4 : pCC S m ≤ 4 := hcc.2
  refine Ci.of rfl rfl (Nat.le_of_ble_eq_true rfl) (fun p e s mi args below meth c A0 Q X K => ?_)
  refine j_at rfl rfl (Ls3 := [(0, .ref (zA Z (m) (4) (0)))]) rfl rfl ?_
  refine j_aload_n X dX2_drawCore_0 rfl rfl (q := 0) rfl ?_
  refine jg_mach X hm 4 (by decide) lk_RX2_34 rfl rfl dX2_drawCore_1 rfl ?_
  refine j_aload_n X dX2_drawCore_4 rfl rfl (q := 0) rfl ?_
  refine j_calli X (c_X2_finishedCores l Z S h m hm hcc) (wm_mach hm (by decide)) (wE_mach hm 0 _) rfl lk_RX2_69 mi_X2_finishedCores ms_X2_finishedCores ini_RX2 mc_X2_finishedCores md_X2_finishedCores ⟨Nat.le_of_ble_eq_true rfl, Nat.le_of_ble_eq_true rfl⟩ ⟨Nat.le_of_ble_eq_true rfl, Nat.le_of_ble_eq_true rfl⟩ rfl (Nat.le_of_ble_eq_true rfl) (as := []) (rest := [.int (S m 4 0 4)]) rfl dX2_drawCore_5 rfl ?_
  refine j_isub X dX2_drawCore_8 rfl ?_
  refine j_istore_n X dX2_drawCore_9 rfl rfl (by decide) (Ls2 := [(1, .int ((S m 4 0 4) - (pFinC S m))), (0, .ref (zA Z (m) (4) (0)))]) rfl ?_
  refine j_iload_n X dX2_drawCore_10 rfl rfl (q := 0) rfl ?_
  refine j_if_gt X dX2_drawCore_11 rfl (tgt := 16) (by decide) (fun c_11 => ?_) (fun c_11 => ?_)
  · refine j_aload_n X dX2_drawCore_16 rfl rfl (q := 1) rfl ?_
    refine j_ldc2 X (v := 1103515245) dX2_drawCore_17 rfl (List.mem_of_getElem? (i := 479) (by decide +kernel)) ?_
    refine j_aload_n X dX2_drawCore_20 rfl rfl (q := 1) rfl ?_
    refine jg_mach X hm 7 (by decide) lk_RX2_44 rfl rfl dX2_drawCore_21 rfl ?_
    refine j_i2l X dX2_drawCore_24 rfl ?_
    refine j_lmul X dX2_drawCore_25 rfl ?_
    refine j_ldc2 X (v := 12345) dX2_drawCore_26 rfl (List.mem_of_getElem? (i := 480) (by decide +kernel)) ?_
    refine j_ladd X dX2_drawCore_29 rfl ?_
    refine j_ldc2 X (v := 2147483648) dX2_drawCore_30 rfl (List.mem_of_getElem? (i := 481) (by decide +kernel)) ?_
    refine j_lrem X dX2_drawCore_33 rfl (by decide) ?_
    refine j_l2i X dX2_drawCore_34 rfl ?_
    refine jp_mach X hm 7 (by decide) lk_RX2_44 rfl rfl rfl (vp_nar_int _) rfl rfl dX2_drawCore_35 rfl ?_
    refine j_name (fun S1 eS1 => ?_)
    refine j_aload_n X dX2_drawCore_38 rfl rfl (q := 1) rfl ?_
    refine jg_mach X hm 7 (by decide) lk_RX2_44 rfl rfl dX2_drawCore_39 rfl ?_
    refine j_ldc X (v := 65536) dX2_drawCore_42 rfl (List.mem_of_getElem? (i := 482) (by decide +kernel)) ?_
    refine j_idiv X dX2_drawCore_44 rfl (by decide) ?_
    refine j_iload_n X dX2_drawCore_45 rfl rfl (q := 0) rfl ?_
    refine j_irem X dX2_drawCore_46 rfl (by intro z; rw [z] at c_11; exact absurd c_11 (by decide)) ?_
    refine j_istore_n X dX2_drawCore_47 rfl rfl (by decide) (Ls2 := [(2, .int (((S1 m 4 0 7) / (65536)) - ((S1 m 4 0 7) / (65536)) / ((S m 4 0 4) - (pFinC S m)) * ((S m 4 0 4) - (pFinC S m)))), (1, .int ((S m 4 0 4) - (pFinC S m))), (0, .ref (zA Z (m) (4) (0)))]) rfl ?_
    refine j_iconst X dX2_drawCore_48 rfl (v := 0) (by decide) ?_
    refine j_istore_n X dX2_drawCore_49 rfl rfl (by decide) (Ls2 := [(3, .int (0)), (2, .int (((S1 m 4 0 7) / (65536)) - ((S1 m 4 0 7) / (65536)) / ((S m 4 0 4) - (pFinC S m)) * ((S m 4 0 4) - (pFinC S m)))), (1, .int ((S m 4 0 4) - (pFinC S m))), (0, .ref (zA Z (m) (4) (0)))]) rfl ?_
    refine j_sub [0, 3, 1] (Ls2 := [(3, .int (0)), (0, .ref (zA Z (m) (4) (0))), (2, .int (((S1 m 4 0 7) / (65536)) - ((S1 m 4 0 7) / (65536)) / ((S m 4 0 4) - (pFinC S m)) * ((S m 4 0 4) - (pFinC S m))))]) rfl ?_
    refine L_draw l Z h S1 m hm (pCC S m) hcc.2 (by subst eS1; simp [setF_at] <;> exact hcc.1) X (pCC S m) 0 ((((S1 m 4 0 7) / (65536)) - ((S1 m 4 0 7) / (65536)) / ((S m 4 0 4) - (pFinC S m)) * ((S m 4 0 4) - (pFinC S m)))) 0 (by omega) (fun hb2 => ?_) (fun hb2 => ?_)
    · refine j_iconst X dX2_drawCore_88 rfl (v := -1) (by decide) ?_
      have h0 : 0 < pRun S m := c_11
      have hb' : (pDrawL S m).1 = true := by subst eS1; exact hb2
      exact j_ret (by subst eS1; rw [pDraw, if_pos h0]; show _ = (if (pDrawL S m).1 = true then (-1 : Int32) else (pDrawL S m).2.2); rw [hb']; rfl) (by subst eS1; rw [pDraw, if_pos h0]; rfl) rfl (K _ _ dX2_drawCore_89)
    · have h0 : 0 < pRun S m := c_11
      have hb' : (pDrawL S m).1 = false := by subst eS1; exact hb2
      exact j_ret (by subst eS1; rw [pDraw, if_pos h0]; show _ = (if (pDrawL S m).1 = true then (-1 : Int32) else (pDrawL S m).2.2); rw [hb']; rfl) (by subst eS1; rw [pDraw, if_pos h0]; rfl) rfl (K _ _ dX2_drawCore_78)
  · refine j_iconst X dX2_drawCore_14 rfl (v := -1) (by decide) ?_
    have h0 : ¬ 0 < pRun S m := c_11
    exact j_ret (by rw [pDraw, if_neg h0]) (by rw [pDraw, if_neg h0]) rfl (K _ _ dX2_drawCore_15)
set_option maxRecDepth 100000 in
set_option maxHeartbeats 4000000 in
theorem L_out (l : Launch) (Z : wZ) (h : Hl) (m : Nat) (hm : m < 6) (j : Nat) (hj : j < 8) (v b : Int32) (cc : Nat) (hc4 : cc ≤ 4) {p : Program} {e : Env} {s : State} {mi : MethodId} {args : Array Value} {below : List Frame} {meth : Method} {c : Code} {A0 : Nat → Prop} {Q : State → Prop} (X : JX p s mi args meth c cX2_writeFromOutside 5 yX2_writeFromOutside.cls Z A0) : ∀ (n k : Nat) (S : St), k + n = cc → S m 4 0 4 = nI cc → J p l e { frames := 3, cells := 0, slots := 0, locals := 71 } s mi args below meth c 5 Z A0 0 0 Q ((lp (pOutF m j) n k S)) h [(0, .ref (zA Z (m) (4) (0))), (1, .int (nI (j))), (2, .int (v)), (3, .int (b))] 71 [] → J p l e { frames := 3, cells := 0, slots := 0, locals := 71 } s mi args below meth c 5 Z A0 0 0 Q S h [(4, .int (nI (k))), (0, .ref (zA Z (m) (4) (0))), (1, .int (nI (j))), (2, .int (v)), (3, .int (b))] 8 [] := by
  intro n
  induction n with
  | zero =>
    intro k S hkn hI hk
    have hkN : cc = k := by omega
    subst hkN
    refine j_iload X dX2_writeFromOutside_8 rfl (q := 0) rfl ?_
    refine j_aload_n X dX2_writeFromOutside_10 rfl rfl (q := 1) rfl ?_
    refine jg_mach X hm 4 (by decide) lk_RX2_34 rfl rfl dX2_writeFromOutside_11 rfl ?_
    refine j_topeq (y := (nI (cc))) (hI) ?_
    refine j_icmp_ge_t X (tgt := 71) dX2_writeFromOutside_14 (by decide) (nI_le (Nat.le_refl _) (by omega)) ?_
    refine j_sub [1, 2, 3, 4] (Ls2 := [(0, .ref (zA Z (m) (4) (0))), (1, .int (nI (j))), (2, .int (v)), (3, .int (b))]) rfl ?_
    exact hk
  | succ n ih =>
    intro k S hkn hI hk
    have hlt : k < cc := by omega
    refine j_iload X dX2_writeFromOutside_8 rfl (q := 0) rfl ?_
    refine j_aload_n X dX2_writeFromOutside_10 rfl rfl (q := 1) rfl ?_
    refine jg_mach X hm 4 (by decide) lk_RX2_34 rfl rfl dX2_writeFromOutside_11 rfl ?_
    refine j_topeq (y := (nI (cc))) (hI) ?_
    refine j_icmp_ge_f X dX2_writeFromOutside_14 rfl (tgt := 71) (by decide) (nI_ge hlt (by omega)) ?_
    refine j_aload_n X dX2_writeFromOutside_17 rfl rfl (q := 1) rfl ?_
    refine jg_mach X hm 0 (by decide) lk_RX2_11 rfl rfl dX2_writeFromOutside_18 rfl ?_
    refine j_iload X dX2_writeFromOutside_21 rfl (q := 0) rfl ?_
    refine j_aldCN X (g := k) hm (by omega) dX2_writeFromOutside_23 rfl ?_
    refine j_iload_n X dX2_writeFromOutside_24 rfl rfl (q := 2) rfl ?_
    refine j_iconst X dX2_writeFromOutside_25 rfl (v := 1) (by decide) ?_
    refine j_callNi X (c_X0_isHurtBy l Z S h m k hm (by omega) (nI (j)) true) (wm_core hm (by omega) (by decide)) (wE_core hm (by omega) 0 _) rfl nk_RX2_191 mi_X0_isHurtBy ms_X0_isHurtBy ini_RX0 mc_X0_isHurtBy md_X0_isHurtBy ⟨Nat.le_of_ble_eq_true rfl, Nat.le_of_ble_eq_true rfl⟩ ⟨Nat.le_of_ble_eq_true rfl, Nat.le_of_ble_eq_true rfl⟩ rfl (Nat.le_of_ble_eq_true rfl) (as := [.int (nI (j)), .int (1)]) (rest := []) rfl dX2_writeFromOutside_26 rfl ?_
    refine j_ifb_eq X dX2_writeFromOutside_29 rfl (tgt := 52) (by decide) (fun c_29 => ?_) (fun c_29 => ?_)
    · refine j_aload_n X dX2_writeFromOutside_52 rfl rfl (q := 1) rfl ?_
      refine jg_mach X hm 0 (by decide) lk_RX2_11 rfl rfl dX2_writeFromOutside_53 rfl ?_
      refine j_iload X dX2_writeFromOutside_56 rfl (q := 0) rfl ?_
      refine j_aldCN X (g := k) hm (by omega) dX2_writeFromOutside_58 rfl ?_
      refine jgN_core X hm (by omega) 0 (by decide) nk_RX2_77 rfl rfl dX2_writeFromOutside_59 rfl ?_
      refine j_iload_n X dX2_writeFromOutside_62 rfl rfl (q := 2) rfl ?_
      refine j_iconst X dX2_writeFromOutside_63 rfl (v := 0) (by decide) ?_
      refine j_iastN X (k := j) (wm_core hm (by omega) (by decide)) (fun r => wE_core hm (by omega) 1 r) hj (by decide) dX2_writeFromOutside_64 rfl ?_
      refine j_name (fun S1 eS1 => ?_)
      refine j_iinc X dX2_writeFromOutside_65 rfl (q := 0) rfl (v := (nI (k + 1))) (nI_1 _) (by decide) (Ls2 := [(4, .int (nI (k + 1))), (0, .ref (zA Z (m) (4) (0))), (1, .int (nI (j))), (2, .int (v)), (3, .int (b))]) rfl ?_
      refine j_goto X (tgt := 8) dX2_writeFromOutside_68 (by decide) ?_
      have eB : (pOutF m j) k S = S1 := by subst eS1; first | rfl | simp [pOutF, inc, c_29]
      have eL : lp (pOutF m j) (n + 1) k S = lp (pOutF m j) n (k + 1) S1 := congrArg (lp (pOutF m j) n (k + 1)) eB
      rw [eL] at hk
      exact ih (k + 1) S1 (by omega) (by subst eS1; have := pOutF_r (S := S) (m := m) (j := j) (k := k) (m' := m) (i := 0) (by omega) (by decide); rw [eB] at this; exact (congrFun this 4).trans hI) hk
    · refine j_aload_n X dX2_writeFromOutside_32 rfl rfl (q := 1) rfl ?_
      refine jg_mach X hm 0 (by decide) lk_RX2_11 rfl rfl dX2_writeFromOutside_33 rfl ?_
      refine j_iload X dX2_writeFromOutside_36 rfl (q := 0) rfl ?_
      refine j_aldCN X (g := k) hm (by omega) dX2_writeFromOutside_38 rfl ?_
      refine j_callNv X (c_X0_rollBack l Z S h m k hm (by omega) ) (wm_core hm (by omega) (by decide)) (wE_core hm (by omega) 0 _) rfl nk_RX2_177 mi_X0_rollBack ms_X0_rollBack ini_RX0 mc_X0_rollBack md_X0_rollBack ⟨Nat.le_of_ble_eq_true rfl, Nat.le_of_ble_eq_true rfl⟩ ⟨Nat.le_of_ble_eq_true rfl, Nat.le_of_ble_eq_true rfl⟩ rfl (Nat.le_of_ble_eq_true rfl) (as := []) (rest := []) rfl dX2_writeFromOutside_39 rfl ?_
      refine j_name (fun S2 eS2 => ?_)
      refine j_aload_n X dX2_writeFromOutside_42 rfl rfl (q := 1) rfl ?_
      refine jg_mach X hm 2 (by decide) lk_RX2_22 rfl rfl dX2_writeFromOutside_43 rfl ?_
      refine j_iconst X dX2_writeFromOutside_46 rfl (v := 5) (by decide) ?_
      refine j_dup2 X dX2_writeFromOutside_47 rfl rfl rfl ?_
      refine j_ialdN X (k := 5) (wm_mach hm (by decide)) (wE_mach hm 3 _) (by decide) (by decide) dX2_writeFromOutside_48 rfl ?_
      refine j_iconst X dX2_writeFromOutside_49 rfl (v := 1) (by decide) ?_
      refine j_iadd X dX2_writeFromOutside_50 rfl ?_
      refine j_iastN X (k := 5) (wm_mach hm (by decide)) (fun r => wE_mach hm 3 r) (by decide) (by decide) dX2_writeFromOutside_51 rfl ?_
      refine j_name (fun S3 eS3 => ?_)
      refine j_aload_n X dX2_writeFromOutside_52 rfl rfl (q := 1) rfl ?_
      refine jg_mach X hm 0 (by decide) lk_RX2_11 rfl rfl dX2_writeFromOutside_53 rfl ?_
      refine j_iload X dX2_writeFromOutside_56 rfl (q := 0) rfl ?_
      refine j_aldCN X (g := k) hm (by omega) dX2_writeFromOutside_58 rfl ?_
      refine jgN_core X hm (by omega) 0 (by decide) nk_RX2_77 rfl rfl dX2_writeFromOutside_59 rfl ?_
      refine j_iload_n X dX2_writeFromOutside_62 rfl rfl (q := 2) rfl ?_
      refine j_iconst X dX2_writeFromOutside_63 rfl (v := 0) (by decide) ?_
      refine j_iastN X (k := j) (wm_core hm (by omega) (by decide)) (fun r => wE_core hm (by omega) 1 r) hj (by decide) dX2_writeFromOutside_64 rfl ?_
      refine j_name (fun S4 eS4 => ?_)
      refine j_iinc X dX2_writeFromOutside_65 rfl (q := 0) rfl (v := (nI (k + 1))) (nI_1 _) (by decide) (Ls2 := [(4, .int (nI (k + 1))), (0, .ref (zA Z (m) (4) (0))), (1, .int (nI (j))), (2, .int (v)), (3, .int (b))]) rfl ?_
      refine j_goto X (tgt := 8) dX2_writeFromOutside_68 (by decide) ?_
      have eB : (pOutF m j) k S = S4 := by subst eS2; subst eS3; subst eS4; first | rfl | simp [pOutF, inc, c_29]
      have eL : lp (pOutF m j) (n + 1) k S = lp (pOutF m j) n (k + 1) S4 := congrArg (lp (pOutF m j) n (k + 1)) eB
      rw [eL] at hk
      exact ih (k + 1) S4 (by omega) (by subst eS2; subst eS3; subst eS4; have := pOutF_r (S := S) (m := m) (j := j) (k := k) (m' := m) (i := 0) (by omega) (by decide); rw [eB] at this; exact (congrFun this 4).trans hI) hk
set_option maxRecDepth 100000 in
set_option maxHeartbeats 4000000 in
theorem c_X2_writeFromOutside (l : Launch) (Z : wZ) (S : St) (h : Hl) (m : Nat) (hm : m < 6) (j : Nat) (hj : j < 8) (v : Int32) (hcc : okI (S m 4 0 4) 4) (hq : okI (S m 4 4 7) 400) : Ci l yX2_writeFromOutside cX2_writeFromOutside 5 .int 3 71 Z [.ref (zA Z (m) (4) (0)), .int (nI (j)), .int (v)] S h ((pOut S m j v).1) ((pOut S m j v).2) (h) := by
  have hc4 : pCC S m ≤ 4 := hcc.2
  refine Ci.of rfl rfl (Nat.le_of_ble_eq_true rfl) (fun p e s mi args below meth c A0 Q X K => ?_)
  refine j_at rfl rfl (Ls3 := [(0, .ref (zA Z (m) (4) (0))), (1, .int (nI (j))), (2, .int (v))]) rfl rfl ?_
  refine j_aload_n X dX2_writeFromOutside_0 rfl rfl (q := 0) rfl ?_
  refine j_calli X (c_X2_abortsSoFar l Z S h m hm ) (wm_mach hm (by decide)) (wE_mach hm 0 _) rfl lk_RX2_116 mi_X2_abortsSoFar ms_X2_abortsSoFar ini_RX2 mc_X2_abortsSoFar md_X2_abortsSoFar ⟨Nat.le_of_ble_eq_true rfl, Nat.le_of_ble_eq_true rfl⟩ ⟨Nat.le_of_ble_eq_true rfl, Nat.le_of_ble_eq_true rfl⟩ rfl (Nat.le_of_ble_eq_true rfl) (as := []) (rest := []) rfl dX2_writeFromOutside_1 rfl ?_
  refine j_istore_n X dX2_writeFromOutside_4 rfl rfl (by decide) (Ls2 := [(3, .int (pAborts S m)), (0, .ref (zA Z (m) (4) (0))), (1, .int (nI (j))), (2, .int (v))]) rfl ?_
  refine j_iconst X dX2_writeFromOutside_5 rfl (v := 0) (by decide) ?_
  refine j_istore X dX2_writeFromOutside_6 rfl (by decide) (Ls2 := [(4, .int (0)), (3, .int (pAborts S m)), (0, .ref (zA Z (m) (4) (0))), (1, .int (nI (j))), (2, .int (v))]) rfl ?_
  refine j_sub [0, 2, 3, 4, 1] (Ls2 := [(4, .int (0)), (0, .ref (zA Z (m) (4) (0))), (1, .int (nI (j))), (2, .int (v)), (3, .int (pAborts S m))]) rfl ?_
  refine L_out l Z h m hm j hj v (pAborts S m) (pCC S m) hcc.2 X (pCC S m) 0 S (by omega) (by exact hcc.1) ?_
  refine j_name (fun S1 eS1 => ?_)
  refine j_aload_n X dX2_writeFromOutside_71 rfl rfl (q := 0) rfl ?_
  refine jg_mach X hm 1 (by decide) lk_RX2_18 rfl rfl dX2_writeFromOutside_72 rfl ?_
  refine j_iload_n X dX2_writeFromOutside_75 rfl rfl (q := 1) rfl ?_
  refine j_iload_n X dX2_writeFromOutside_76 rfl rfl (q := 2) rfl ?_
  refine j_iastN X (k := j) (wm_mach hm (by decide)) (fun r => wE_mach hm 2 r) hj (by decide) dX2_writeFromOutside_77 rfl ?_
  refine j_name (fun S2 eS2 => ?_)
  refine j_aload_n X dX2_writeFromOutside_78 rfl rfl (q := 0) rfl ?_
  refine jg_mach X hm 3 (by decide) lk_RX2_30 rfl rfl dX2_writeFromOutside_79 rfl ?_
  refine j_iconst X dX2_writeFromOutside_82 rfl (v := -1) (by decide) ?_
  refine j_iload_n X dX2_writeFromOutside_83 rfl rfl (q := 1) rfl ?_
  refine j_aload_n X dX2_writeFromOutside_84 rfl rfl (q := 0) rfl ?_
  refine jg_mach X hm 1 (by decide) lk_RX2_18 rfl rfl dX2_writeFromOutside_85 rfl ?_
  refine j_callNv X (c_X1_addWrite l Z S2 h m hm (-1) j m 4 2 (wm_mach hm (by decide)) (fun _ r => wE_mach hm 2 r) (by subst eS1; subst eS2; simp [setF_4, inc_r, set2_r, set3_r, pOut_r, pCC, hcc.2] <;> exact hq)) (wm_mach hm (by decide)) (wE_mach hm 4 _) rfl nk_RX2_187 mi_X1_addWrite ms_X1_addWrite ini_RX1 mc_X1_addWrite md_X1_addWrite ⟨Nat.le_of_ble_eq_true rfl, Nat.le_of_ble_eq_true rfl⟩ ⟨Nat.le_of_ble_eq_true rfl, Nat.le_of_ble_eq_true rfl⟩ rfl (Nat.le_of_ble_eq_true rfl) (as := [.int (-1), .int (nI (j)), .ref (zA Z (m) (4) (2))]) (rest := []) rfl dX2_writeFromOutside_88 rfl ?_
  refine j_name (fun S3 eS3 => ?_)
  refine j_aload_n X dX2_writeFromOutside_91 rfl rfl (q := 0) rfl ?_
  refine j_calli X (c_X2_abortsSoFar l Z S3 h m hm ) (wm_mach hm (by decide)) (wE_mach hm 0 _) rfl lk_RX2_116 mi_X2_abortsSoFar ms_X2_abortsSoFar ini_RX2 mc_X2_abortsSoFar md_X2_abortsSoFar ⟨Nat.le_of_ble_eq_true rfl, Nat.le_of_ble_eq_true rfl⟩ ⟨Nat.le_of_ble_eq_true rfl, Nat.le_of_ble_eq_true rfl⟩ rfl (Nat.le_of_ble_eq_true rfl) (as := []) (rest := []) rfl dX2_writeFromOutside_92 rfl ?_
  refine j_iload_n X dX2_writeFromOutside_95 rfl rfl (q := 3) rfl ?_
  refine j_isub X dX2_writeFromOutside_96 rfl ?_
  exact j_ret (by subst eS1; subst eS2; subst eS3; first | rfl | simp [pOut, pOutS]) (by subst eS1; subst eS2; subst eS3; first | rfl | simp [pOut, pOutS]) rfl (K _ _ dX2_writeFromOutside_97)
set_option maxRecDepth 100000 in
set_option maxHeartbeats 4000000 in
theorem L_st1 (l : Launch) (Z : wZ) (h : Hl) (m : Nat) (hm : m < 6) {p : Program} {e : Env} {s : State} {mi : MethodId} {args : Array Value} {below : List Frame} {meth : Method} {c : Code} {A0 : Nat → Prop} {Q : State → Prop} (X : JX p s mi args meth c cX2_startAnew 5 yX2_startAnew.cls Z A0) : ∀ (n k : Nat) (S : St), k + n = 4 → J p l e { frames := 2, cells := 0, slots := 0, locals := 41 } s mi args below meth c 5 Z A0 0 0 Q ((lp (fun k T => pClear T m k) n k S)) h [(0, .ref (zA Z (m) (4) (0)))] 53 [] → J p l e { frames := 2, cells := 0, slots := 0, locals := 41 } s mi args below meth c 5 Z A0 0 0 Q S h [(4, .int (nI (k))), (0, .ref (zA Z (m) (4) (0)))] 31 [] := by
  intro n
  induction n with
  | zero =>
    intro k S hkn hk
    have hkN : 4 = k := by omega
    subst hkN
    refine j_iload X dX2_startAnew_31 rfl (q := 0) rfl ?_
    refine j_iconst X dX2_startAnew_33 rfl (v := 4) (by decide) ?_
    refine j_icmp_ge_t X (tgt := 53) dX2_startAnew_34 (by decide) (nI_le (Nat.le_refl _) (by decide)) ?_
    refine j_sub [1] (Ls2 := [(0, .ref (zA Z (m) (4) (0)))]) rfl ?_
    exact hk
  | succ n ih =>
    intro k S hkn hk
    have hlt : k < 4 := by omega
    refine j_iload X dX2_startAnew_31 rfl (q := 0) rfl ?_
    refine j_iconst X dX2_startAnew_33 rfl (v := 4) (by decide) ?_
    refine j_icmp_ge_f X dX2_startAnew_34 rfl (tgt := 53) (by decide) (nI_ge hlt (by decide)) ?_
    refine j_aload_n X dX2_startAnew_37 rfl rfl (q := 1) rfl ?_
    refine jg_mach X hm 0 (by decide) lk_RX2_11 rfl rfl dX2_startAnew_38 rfl ?_
    refine j_iload X dX2_startAnew_41 rfl (q := 0) rfl ?_
    refine j_aldCN X (g := k) hm (by omega) dX2_startAnew_43 rfl ?_
    refine j_callNv X (c_X0_clear l Z S h m k hm (by omega) ) (wm_core hm (by omega) (by decide)) (wE_core hm (by omega) 0 _) rfl nk_RX2_53 mi_X0_clear ms_X0_clear ini_RX0 mc_X0_clear md_X0_clear ⟨Nat.le_of_ble_eq_true rfl, Nat.le_of_ble_eq_true rfl⟩ ⟨Nat.le_of_ble_eq_true rfl, Nat.le_of_ble_eq_true rfl⟩ rfl (Nat.le_of_ble_eq_true rfl) (as := []) (rest := []) rfl dX2_startAnew_44 rfl ?_
    refine j_name (fun S1 eS1 => ?_)
    refine j_iinc X dX2_startAnew_47 rfl (q := 0) rfl (v := (nI (k + 1))) (nI_1 _) (by decide) (Ls2 := [(4, .int (nI (k + 1))), (0, .ref (zA Z (m) (4) (0)))]) rfl ?_
    refine j_goto X (tgt := 31) dX2_startAnew_50 (by decide) ?_
    have eB : (fun k T => pClear T m k) k S = S1 := by subst eS1; first | rfl | simp []
    have eL : lp (fun k T => pClear T m k) (n + 1) k S = lp (fun k T => pClear T m k) n (k + 1) S1 := congrArg (lp (fun k T => pClear T m k) n (k + 1)) eB
    rw [eL] at hk
    exact ih (k + 1) S1 (by omega) hk
set_option maxRecDepth 100000 in
set_option maxHeartbeats 4000000 in
theorem L_st2 (l : Launch) (Z : wZ) (h : Hl) (m : Nat) (hm : m < 6) {p : Program} {e : Env} {s : State} {mi : MethodId} {args : Array Value} {below : List Frame} {meth : Method} {c : Code} {A0 : Nat → Prop} {Q : State → Prop} (X : JX p s mi args meth c cX2_startAnew 5 yX2_startAnew.cls Z A0) : ∀ (n k : Nat) (S : St), k + n = 8 → J p l e { frames := 2, cells := 0, slots := 0, locals := 41 } s mi args below meth c 5 Z A0 0 0 Q ((lp (pZeroF m 4 2) n k S)) h [(0, .ref (zA Z (m) (4) (0)))] 77 [] → J p l e { frames := 2, cells := 0, slots := 0, locals := 41 } s mi args below meth c 5 Z A0 0 0 Q S h [(4, .int (nI (k))), (0, .ref (zA Z (m) (4) (0)))] 56 [] := by
  intro n
  induction n with
  | zero =>
    intro k S hkn hk
    have hkN : 8 = k := by omega
    subst hkN
    refine j_iload X dX2_startAnew_56 rfl (q := 0) rfl ?_
    refine j_bipush X dX2_startAnew_58 rfl (v := 8) (by decide) ?_
    refine j_icmp_ge_t X (tgt := 77) dX2_startAnew_60 (by decide) (nI_le (Nat.le_refl _) (by decide)) ?_
    refine j_sub [1] (Ls2 := [(0, .ref (zA Z (m) (4) (0)))]) rfl ?_
    exact hk
  | succ n ih =>
    intro k S hkn hk
    have hlt : k < 8 := by omega
    refine j_iload X dX2_startAnew_56 rfl (q := 0) rfl ?_
    refine j_bipush X dX2_startAnew_58 rfl (v := 8) (by decide) ?_
    refine j_icmp_ge_f X dX2_startAnew_60 rfl (tgt := 77) (by decide) (nI_ge hlt (by decide)) ?_
    refine j_aload_n X dX2_startAnew_63 rfl rfl (q := 1) rfl ?_
    refine jg_mach X hm 1 (by decide) lk_RX2_18 rfl rfl dX2_startAnew_64 rfl ?_
    refine j_iload X dX2_startAnew_67 rfl (q := 0) rfl ?_
    refine j_iconst X dX2_startAnew_69 rfl (v := 0) (by decide) ?_
    refine j_iastN X (k := k) (wm_mach hm (by decide)) (fun r => wE_mach hm 2 r) hlt (by decide) dX2_startAnew_70 rfl ?_
    refine j_name (fun S1 eS1 => ?_)
    refine j_iinc X dX2_startAnew_71 rfl (q := 0) rfl (v := (nI (k + 1))) (nI_1 _) (by decide) (Ls2 := [(4, .int (nI (k + 1))), (0, .ref (zA Z (m) (4) (0)))]) rfl ?_
    refine j_goto X (tgt := 56) dX2_startAnew_74 (by decide) ?_
    have eB : (pZeroF m 4 2) k S = S1 := by subst eS1; first | rfl | simp [pZeroF]
    have eL : lp (pZeroF m 4 2) (n + 1) k S = lp (pZeroF m 4 2) n (k + 1) S1 := congrArg (lp (pZeroF m 4 2) n (k + 1)) eB
    rw [eL] at hk
    exact ih (k + 1) S1 (by omega) hk
set_option maxRecDepth 100000 in
set_option maxHeartbeats 4000000 in
theorem L_st3 (l : Launch) (Z : wZ) (h : Hl) (m : Nat) (hm : m < 6) {p : Program} {e : Env} {s : State} {mi : MethodId} {args : Array Value} {below : List Frame} {meth : Method} {c : Code} {A0 : Nat → Prop} {Q : State → Prop} (X : JX p s mi args meth c cX2_startAnew 5 yX2_startAnew.cls Z A0) : ∀ (n k : Nat) (S : St), k + n = 8 → J p l e { frames := 2, cells := 0, slots := 0, locals := 41 } s mi args below meth c 5 Z A0 0 0 Q ((lp (pZeroF m 4 3) n k S)) h [(0, .ref (zA Z (m) (4) (0)))] 101 [] → J p l e { frames := 2, cells := 0, slots := 0, locals := 41 } s mi args below meth c 5 Z A0 0 0 Q S h [(4, .int (nI (k))), (0, .ref (zA Z (m) (4) (0)))] 80 [] := by
  intro n
  induction n with
  | zero =>
    intro k S hkn hk
    have hkN : 8 = k := by omega
    subst hkN
    refine j_iload X dX2_startAnew_80 rfl (q := 0) rfl ?_
    refine j_bipush X dX2_startAnew_82 rfl (v := 8) (by decide) ?_
    refine j_icmp_ge_t X (tgt := 101) dX2_startAnew_84 (by decide) (nI_le (Nat.le_refl _) (by decide)) ?_
    refine j_sub [1] (Ls2 := [(0, .ref (zA Z (m) (4) (0)))]) rfl ?_
    exact hk
  | succ n ih =>
    intro k S hkn hk
    have hlt : k < 8 := by omega
    refine j_iload X dX2_startAnew_80 rfl (q := 0) rfl ?_
    refine j_bipush X dX2_startAnew_82 rfl (v := 8) (by decide) ?_
    refine j_icmp_ge_f X dX2_startAnew_84 rfl (tgt := 101) (by decide) (nI_ge hlt (by decide)) ?_
    refine j_aload_n X dX2_startAnew_87 rfl rfl (q := 1) rfl ?_
    refine jg_mach X hm 2 (by decide) lk_RX2_22 rfl rfl dX2_startAnew_88 rfl ?_
    refine j_iload X dX2_startAnew_91 rfl (q := 0) rfl ?_
    refine j_iconst X dX2_startAnew_93 rfl (v := 0) (by decide) ?_
    refine j_iastN X (k := k) (wm_mach hm (by decide)) (fun r => wE_mach hm 3 r) hlt (by decide) dX2_startAnew_94 rfl ?_
    refine j_name (fun S1 eS1 => ?_)
    refine j_iinc X dX2_startAnew_95 rfl (q := 0) rfl (v := (nI (k + 1))) (nI_1 _) (by decide) (Ls2 := [(4, .int (nI (k + 1))), (0, .ref (zA Z (m) (4) (0)))]) rfl ?_
    refine j_goto X (tgt := 80) dX2_startAnew_98 (by decide) ?_
    have eB : (pZeroF m 4 3) k S = S1 := by subst eS1; first | rfl | simp [pZeroF]
    have eL : lp (pZeroF m 4 3) (n + 1) k S = lp (pZeroF m 4 3) n (k + 1) S1 := congrArg (lp (pZeroF m 4 3) n (k + 1)) eB
    rw [eL] at hk
    exact ih (k + 1) S1 (by omega) hk
set_option maxRecDepth 100000 in
set_option maxHeartbeats 4000000 in
theorem c_X2_startAnew (l : Launch) (Z : wZ) (S : St) (h : Hl) (m : Nat) (hm : m < 6) (a b d : Int32) : Cv l yX2_startAnew cX2_startAnew 5 2 41 Z [.ref (zA Z (m) (4) (0)), .int (a), .int (b), .int (d)] S h (pStart S m a b d) (h) := by
  refine Cv.of rfl (Nat.le_of_ble_eq_true rfl) (fun p e s mi args below meth c A0 Q X K => ?_)
  refine j_at rfl rfl (Ls3 := [(0, .ref (zA Z (m) (4) (0))), (1, .int (a)), (2, .int (b)), (3, .int (d))]) rfl rfl ?_
  refine j_aload_n X dX2_startAnew_0 rfl rfl (q := 0) rfl ?_
  refine j_iload_n X dX2_startAnew_1 rfl rfl (q := 1) rfl ?_
  refine jp_mach X hm 4 (by decide) lk_RX2_34 rfl rfl rfl (vp_nar_int _) rfl rfl dX2_startAnew_2 rfl ?_
  refine j_name (fun S1 eS1 => ?_)
  refine j_aload_n X dX2_startAnew_5 rfl rfl (q := 0) rfl ?_
  refine j_iload_n X dX2_startAnew_6 rfl rfl (q := 2) rfl ?_
  refine jp_mach X hm 5 (by decide) lk_RX2_38 rfl rfl rfl (vp_nar_int _) rfl rfl dX2_startAnew_7 rfl ?_
  refine j_name (fun S2 eS2 => ?_)
  refine j_aload_n X dX2_startAnew_10 rfl rfl (q := 0) rfl ?_
  refine j_iload_n X dX2_startAnew_11 rfl rfl (q := 3) rfl ?_
  refine jp_mach X hm 6 (by decide) lk_RX2_41 rfl rfl rfl (vp_nar_int _) rfl rfl dX2_startAnew_12 rfl ?_
  refine j_name (fun S3 eS3 => ?_)
  refine j_aload_n X dX2_startAnew_15 rfl rfl (q := 0) rfl ?_
  refine j_iconst X dX2_startAnew_16 rfl (v := 0) (by decide) ?_
  refine jp_mach X hm 8 (by decide) lk_RX2_47 rfl rfl rfl (vp_nar_int _) rfl rfl dX2_startAnew_17 rfl ?_
  refine j_name (fun S4 eS4 => ?_)
  refine j_aload_n X dX2_startAnew_20 rfl rfl (q := 0) rfl ?_
  refine jg_mach X hm 3 (by decide) lk_RX2_30 rfl rfl dX2_startAnew_21 rfl ?_
  refine j_iconst X dX2_startAnew_24 rfl (v := 0) (by decide) ?_
  refine jpN_log X hm 7 (by decide) nk_RX2_50 rfl rfl rfl (vp_nar_int _) rfl rfl dX2_startAnew_25 rfl ?_
  refine j_name (fun S5 eS5 => ?_)
  refine j_iconst X dX2_startAnew_28 rfl (v := 0) (by decide) ?_
  refine j_istore X dX2_startAnew_29 rfl (by decide) (Ls2 := [(4, .int (0)), (0, .ref (zA Z (m) (4) (0))), (1, .int (a)), (2, .int (b)), (3, .int (d))]) rfl ?_
  refine j_sub [0, 1] (Ls2 := [(4, .int (0)), (0, .ref (zA Z (m) (4) (0)))]) rfl ?_
  refine L_st1 l Z h m hm X 4 0 S5 (by omega) ?_
  refine j_name (fun S6 eS6 => ?_)
  refine j_iconst X dX2_startAnew_53 rfl (v := 0) (by decide) ?_
  refine j_istore X dX2_startAnew_54 rfl (by decide) (Ls2 := [(4, .int (0)), (0, .ref (zA Z (m) (4) (0)))]) rfl ?_
  refine j_sub [0, 1] (Ls2 := [(4, .int (0)), (0, .ref (zA Z (m) (4) (0)))]) rfl ?_
  refine L_st2 l Z h m hm X 8 0 S6 (by omega) ?_
  refine j_name (fun S7 eS7 => ?_)
  refine j_iconst X dX2_startAnew_77 rfl (v := 0) (by decide) ?_
  refine j_istore X dX2_startAnew_78 rfl (by decide) (Ls2 := [(4, .int (0)), (0, .ref (zA Z (m) (4) (0)))]) rfl ?_
  refine j_sub [0, 1] (Ls2 := [(4, .int (0)), (0, .ref (zA Z (m) (4) (0)))]) rfl ?_
  refine L_st3 l Z h m hm X 8 0 S7 (by omega) ?_
  refine j_name (fun S8 eS8 => ?_)
  exact j_at (by subst eS1; subst eS2; subst eS3; subst eS4; subst eS5; subst eS6; subst eS7; subst eS8; first | rfl | simp [pStart]) rfl rfl rfl (K _ _ dX2_startAnew_101)
set_option maxRecDepth 100000 in
set_option maxHeartbeats 4000000 in
theorem L_cpM (l : Launch) (Z : wZ) (h : Hl) (m m2 : Nat) (hm : m < 6) (hm2 : m2 < 6) {p : Program} {e : Env} {s : State} {mi : MethodId} {args : Array Value} {below : List Frame} {meth : Method} {c : Code} {A0 : Nat → Prop} {Q : State → Prop} (X : JX p s mi args meth c cX2_copyFrom 3 yX2_copyFrom.cls Z A0) : ∀ (n k : Nat) (S : St), k + n = 4 → J p l e { frames := 3, cells := 0, slots := 0, locals := 60 } s mi args below meth c 3 Z A0 0 0 Q ((lp (fun k T => pCopyC T m k m2 k) n k S)) h [(0, .ref (zA Z (m) (4) (0))), (1, .ref (zA Z (m2) (4) (0)))] 28 [] → J p l e { frames := 3, cells := 0, slots := 0, locals := 60 } s mi args below meth c 3 Z A0 0 0 Q S h [(2, .int (nI (k))), (0, .ref (zA Z (m) (4) (0))), (1, .ref (zA Z (m2) (4) (0)))] 2 [] := by
  intro n
  induction n with
  | zero =>
    intro k S hkn hk
    have hkN : 4 = k := by omega
    subst hkN
    refine j_iload_n X dX2_copyFrom_2 rfl rfl (q := 0) rfl ?_
    refine j_iconst X dX2_copyFrom_3 rfl (v := 4) (by decide) ?_
    refine j_icmp_ge_t X (tgt := 28) dX2_copyFrom_4 (by decide) (nI_le (Nat.le_refl _) (by decide)) ?_
    refine j_sub [1, 2] (Ls2 := [(0, .ref (zA Z (m) (4) (0))), (1, .ref (zA Z (m2) (4) (0)))]) rfl ?_
    exact hk
  | succ n ih =>
    intro k S hkn hk
    have hlt : k < 4 := by omega
    refine j_iload_n X dX2_copyFrom_2 rfl rfl (q := 0) rfl ?_
    refine j_iconst X dX2_copyFrom_3 rfl (v := 4) (by decide) ?_
    refine j_icmp_ge_f X dX2_copyFrom_4 rfl (tgt := 28) (by decide) (nI_ge hlt (by decide)) ?_
    refine j_aload_n X dX2_copyFrom_7 rfl rfl (q := 1) rfl ?_
    refine jg_mach X hm 0 (by decide) lk_RX2_11 rfl rfl dX2_copyFrom_8 rfl ?_
    refine j_iload_n X dX2_copyFrom_11 rfl rfl (q := 0) rfl ?_
    refine j_aldCN X (g := k) hm (by omega) dX2_copyFrom_12 rfl ?_
    refine j_aload_n X dX2_copyFrom_13 rfl rfl (q := 2) rfl ?_
    refine jg_mach X hm2 0 (by decide) lk_RX2_11 rfl rfl dX2_copyFrom_14 rfl ?_
    refine j_iload_n X dX2_copyFrom_17 rfl rfl (q := 0) rfl ?_
    refine j_aldCN X (g := k) hm2 (by omega) dX2_copyFrom_18 rfl ?_
    refine j_callNv X (c_X0_copyFrom l Z S h m k hm (by omega) m2 k hm2 (by omega)) (wm_core hm (by omega) (by decide)) (wE_core hm (by omega) 0 _) rfl nk_RX2_56 mi_X0_copyFrom ms_X0_copyFrom ini_RX0 mc_X0_copyFrom md_X0_copyFrom ⟨Nat.le_of_ble_eq_true rfl, Nat.le_of_ble_eq_true rfl⟩ ⟨Nat.le_of_ble_eq_true rfl, Nat.le_of_ble_eq_true rfl⟩ rfl (Nat.le_of_ble_eq_true rfl) (as := [.ref (zA Z (m2) (k) (0))]) (rest := []) rfl dX2_copyFrom_19 rfl ?_
    refine j_name (fun S1 eS1 => ?_)
    refine j_iinc X dX2_copyFrom_22 rfl (q := 0) rfl (v := (nI (k + 1))) (nI_1 _) (by decide) (Ls2 := [(2, .int (nI (k + 1))), (0, .ref (zA Z (m) (4) (0))), (1, .ref (zA Z (m2) (4) (0)))]) rfl ?_
    refine j_goto X (tgt := 2) dX2_copyFrom_25 (by decide) ?_
    have eB : (fun k T => pCopyC T m k m2 k) k S = S1 := by subst eS1; first | rfl | simp []
    have eL : lp (fun k T => pCopyC T m k m2 k) (n + 1) k S = lp (fun k T => pCopyC T m k m2 k) n (k + 1) S1 := congrArg (lp (fun k T => pCopyC T m k m2 k) n (k + 1)) eB
    rw [eL] at hk
    exact ih (k + 1) S1 (by omega) hk
set_option maxRecDepth 100000 in
set_option maxHeartbeats 4000000 in
theorem c_X2_copyFrom (l : Launch) (Z : wZ) (S : St) (h : Hl) (m m2 : Nat) (hm : m < 6) (hm2 : m2 < 6) (hq : okI (S m2 4 4 7) 400) (hqr : pQ S m2 ≤ rmI m2) : Cv l yX2_copyFrom cX2_copyFrom 3 3 60 Z [.ref (zA Z (m) (4) (0)), .ref (zA Z (m2) (4) (0))] S h (pCopyM S m m2) (h) := by
  refine Cv.of rfl (Nat.le_of_ble_eq_true rfl) (fun p e s mi args below meth c A0 Q X K => ?_)
  refine j_at rfl rfl (Ls3 := [(0, .ref (zA Z (m) (4) (0))), (1, .ref (zA Z (m2) (4) (0)))]) rfl rfl ?_
  refine j_iconst X dX2_copyFrom_0 rfl (v := 0) (by decide) ?_
  refine j_istore_n X dX2_copyFrom_1 rfl rfl (by decide) (Ls2 := [(2, .int (0)), (0, .ref (zA Z (m) (4) (0))), (1, .ref (zA Z (m2) (4) (0)))]) rfl ?_
  refine j_sub [0, 1, 2] (Ls2 := [(2, .int (0)), (0, .ref (zA Z (m) (4) (0))), (1, .ref (zA Z (m2) (4) (0)))]) rfl ?_
  refine L_cpM l Z h m m2 hm hm2 X 4 0 S (by omega) ?_
  refine j_name (fun S1 eS1 => ?_)
  refine j_aload_n X dX2_copyFrom_28 rfl rfl (q := 1) rfl ?_
  refine jg_mach X hm2 1 (by decide) lk_RX2_18 rfl rfl dX2_copyFrom_29 rfl ?_
  refine j_iconst X dX2_copyFrom_32 rfl (v := 0) (by decide) ?_
  refine j_aload_n X dX2_copyFrom_33 rfl rfl (q := 0) rfl ?_
  refine jg_mach X hm 1 (by decide) lk_RX2_18 rfl rfl dX2_copyFrom_34 rfl ?_
  refine j_iconst X dX2_copyFrom_37 rfl (v := 0) (by decide) ?_
  refine j_bipush X dX2_copyFrom_38 rfl (v := 8) (by decide) ?_
  refine j_copyi X (nn := 8) (wm_mach hm2 (by decide)) (wE_mach hm2 2 _) (wm_mach hm (by decide)) (fun r => wE_mach hm 2 r) lk_RX2_60 (by decide) (by decide) (by decide) (Nat.le_of_ble_eq_true rfl) (Nat.le_of_ble_eq_true rfl) dX2_copyFrom_40 rfl ?_
  refine j_name (fun S2 eS2 => ?_)
  refine j_aload_n X dX2_copyFrom_43 rfl rfl (q := 1) rfl ?_
  refine jg_mach X hm2 2 (by decide) lk_RX2_22 rfl rfl dX2_copyFrom_44 rfl ?_
  refine j_iconst X dX2_copyFrom_47 rfl (v := 0) (by decide) ?_
  refine j_aload_n X dX2_copyFrom_48 rfl rfl (q := 0) rfl ?_
  refine jg_mach X hm 2 (by decide) lk_RX2_22 rfl rfl dX2_copyFrom_49 rfl ?_
  refine j_iconst X dX2_copyFrom_52 rfl (v := 0) (by decide) ?_
  refine j_bipush X dX2_copyFrom_53 rfl (v := 8) (by decide) ?_
  refine j_copyi X (nn := 8) (wm_mach hm2 (by decide)) (wE_mach hm2 3 _) (wm_mach hm (by decide)) (fun r => wE_mach hm 3 r) lk_RX2_60 (by decide) (by decide) (by decide) (Nat.le_of_ble_eq_true rfl) (Nat.le_of_ble_eq_true rfl) dX2_copyFrom_55 rfl ?_
  refine j_name (fun S3 eS3 => ?_)
  refine j_aload_n X dX2_copyFrom_58 rfl rfl (q := 0) rfl ?_
  refine jg_mach X hm 3 (by decide) lk_RX2_30 rfl rfl dX2_copyFrom_59 rfl ?_
  refine j_aload_n X dX2_copyFrom_62 rfl rfl (q := 1) rfl ?_
  refine jg_mach X hm2 3 (by decide) lk_RX2_30 rfl rfl dX2_copyFrom_63 rfl ?_
  refine j_callNv X (c_X1_copyFrom l Z S3 h m m2 hm hm2 (by subst eS1; subst eS2; subst eS3; simp [cpR_r, pCopyC_lp] <;> exact hq) (by subst eS1; subst eS2; subst eS3; simp [pQ, cpR_r, pCopyC_lp] <;> exact hqr)) (wm_mach hm (by decide)) (wE_mach hm 4 _) rfl nk_RX2_66 mi_X1_copyFrom ms_X1_copyFrom ini_RX1 mc_X1_copyFrom md_X1_copyFrom ⟨Nat.le_of_ble_eq_true rfl, Nat.le_of_ble_eq_true rfl⟩ ⟨Nat.le_of_ble_eq_true rfl, Nat.le_of_ble_eq_true rfl⟩ rfl (Nat.le_of_ble_eq_true rfl) (as := [.ref (zA Z (m2) (4) (4))]) (rest := []) rfl dX2_copyFrom_66 rfl ?_
  refine j_name (fun S4 eS4 => ?_)
  refine j_aload_n X dX2_copyFrom_69 rfl rfl (q := 0) rfl ?_
  refine j_aload_n X dX2_copyFrom_70 rfl rfl (q := 1) rfl ?_
  refine jg_mach X hm2 4 (by decide) lk_RX2_34 rfl rfl dX2_copyFrom_71 rfl ?_
  refine jp_mach X hm 4 (by decide) lk_RX2_34 rfl rfl rfl (vp_nar_int _) rfl rfl dX2_copyFrom_74 rfl ?_
  refine j_name (fun S5 eS5 => ?_)
  refine j_aload_n X dX2_copyFrom_77 rfl rfl (q := 0) rfl ?_
  refine j_aload_n X dX2_copyFrom_78 rfl rfl (q := 1) rfl ?_
  refine jg_mach X hm2 5 (by decide) lk_RX2_38 rfl rfl dX2_copyFrom_79 rfl ?_
  refine jp_mach X hm 5 (by decide) lk_RX2_38 rfl rfl rfl (vp_nar_int _) rfl rfl dX2_copyFrom_82 rfl ?_
  refine j_name (fun S6 eS6 => ?_)
  refine j_aload_n X dX2_copyFrom_85 rfl rfl (q := 0) rfl ?_
  refine j_aload_n X dX2_copyFrom_86 rfl rfl (q := 1) rfl ?_
  refine jg_mach X hm2 6 (by decide) lk_RX2_41 rfl rfl dX2_copyFrom_87 rfl ?_
  refine jp_mach X hm 6 (by decide) lk_RX2_41 rfl rfl rfl (vp_nar_int _) rfl rfl dX2_copyFrom_90 rfl ?_
  refine j_name (fun S7 eS7 => ?_)
  refine j_aload_n X dX2_copyFrom_93 rfl rfl (q := 0) rfl ?_
  refine j_aload_n X dX2_copyFrom_94 rfl rfl (q := 1) rfl ?_
  refine jg_mach X hm2 7 (by decide) lk_RX2_44 rfl rfl dX2_copyFrom_95 rfl ?_
  refine jp_mach X hm 7 (by decide) lk_RX2_44 rfl rfl rfl (vp_nar_int _) rfl rfl dX2_copyFrom_98 rfl ?_
  refine j_name (fun S8 eS8 => ?_)
  refine j_aload_n X dX2_copyFrom_101 rfl rfl (q := 0) rfl ?_
  refine j_aload_n X dX2_copyFrom_102 rfl rfl (q := 1) rfl ?_
  refine jg_mach X hm2 8 (by decide) lk_RX2_47 rfl rfl dX2_copyFrom_103 rfl ?_
  refine jp_mach X hm 8 (by decide) lk_RX2_47 rfl rfl rfl (vp_nar_int _) rfl rfl dX2_copyFrom_106 rfl ?_
  refine j_name (fun S9 eS9 => ?_)
  exact j_at (by subst eS1; subst eS2; subst eS3; subst eS4; subst eS5; subst eS6; subst eS7; subst eS8; subst eS9; first | rfl | simp [pCopyM, cpG]) rfl rfl rfl (K _ _ dX2_copyFrom_109)

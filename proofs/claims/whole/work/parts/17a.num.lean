theorem rNumL_s (n d : Nat) (S : St) (v : Int32) : rNumL (n + 1) d S v = if rIn (rHere S) 48 57 = true then rNumL n (d + 1) (rAdv S) (10 * v + rHere S - 48) else (d, S, v) := rfl
set_option maxRecDepth 100000 in
set_option maxHeartbeats 4000000 in
theorem c_X6_readNumber (l : Launch) (Z : wZ) (S : St) (h : Hl) (hr : rdOK S) (hi : okI (S 7 0 0 11) 29) : Ci l yX6_readNumber cX6_readNumber 4 .boolean 2 42 Z [.ref (zA Z (7) (0) (0))] S h (bI (rNum S).1) ((rNum S).2) (h) := by
  have hi2 : rIs S ≤ 29 := hi.2
  refine Ci.of rfl (bI_nar _) (Nat.le_of_ble_eq_true rfl) (fun p e s mi args below meth c A0 Q X K => ?_)
  refine j_at rfl rfl (Ls3 := [(0, .ref (zA Z (7) (0) (0)))]) rfl rfl ?_
  refine j_aload_n X dX6_readNumber_0 rfl rfl (q := 0) rfl ?_
  refine j_bipush X dX6_readNumber_1 rfl (v := 45) (by decide) ?_
  refine j_calli X (c_X6_takes l Z S h hr (45)) (wm_ref (by decide)) ((fun _ => rfl) _) rfl lk_RX6_80 mi_X6_takes ms_X6_takes ini_RX6 mc_X6_takes md_X6_takes ⟨Nat.le_of_ble_eq_true rfl, Nat.le_of_ble_eq_true rfl⟩ ⟨Nat.le_of_ble_eq_true rfl, Nat.le_of_ble_eq_true rfl⟩ rfl (Nat.le_of_ble_eq_true rfl) (as := [.int (45)]) (rest := []) rfl dX6_readNumber_3 rfl ?_
  refine j_name (fun S1 eS1 => ?_)
  have hS1 : rdOK S1 := by rw [eS1]; exact (rTake_K hr (by decide)).1
  refine j_istore_n X dX6_readNumber_6 rfl rfl (by decide) (Ls2 := [(1, .int (bI ((rTake S (45)).1))), (0, .ref (zA Z (7) (0) (0)))]) rfl ?_
  refine j_iconst X dX6_readNumber_7 rfl (v := 0) (by decide) ?_
  refine j_istore_n X dX6_readNumber_8 rfl rfl (by decide) (Ls2 := [(2, .int (0)), (1, .int (bI ((rTake S (45)).1))), (0, .ref (zA Z (7) (0) (0)))]) rfl ?_
  refine j_iconst X dX6_readNumber_9 rfl (v := 0) (by decide) ?_
  refine j_istore_n X dX6_readNumber_10 rfl rfl (by decide) (Ls2 := [(3, .int (0)), (2, .int (0)), (1, .int (bI ((rTake S (45)).1))), (0, .ref (zA Z (7) (0) (0)))]) rfl ?_
  have qS1 : rNumL 3 0 S1 0 = rNumL 3 0 S1 0 := rfl
  refine j_iload_n X dX6_readNumber_11 rfl rfl (q := 1) rfl ?_
  refine j_iconst X dX6_readNumber_12 rfl (v := 3) (by decide) ?_
  refine j_icmp_ge_f X dX6_readNumber_13 rfl (tgt := 59) (by decide) (by decide) ?_
  refine j_aload_n X dX6_readNumber_16 rfl rfl (q := 3) rfl ?_
  refine j_calli X (c_X6_here l Z S1 h hS1) (wm_ref (by decide)) ((fun _ => rfl) _) rfl lk_RX6_73 mi_X6_here ms_X6_here ini_RX6 mc_X6_here md_X6_here ⟨Nat.le_of_ble_eq_true rfl, Nat.le_of_ble_eq_true rfl⟩ ⟨Nat.le_of_ble_eq_true rfl, Nat.le_of_ble_eq_true rfl⟩ rfl (Nat.le_of_ble_eq_true rfl) (as := []) (rest := []) rfl dX6_readNumber_17 rfl ?_
  refine j_bipush X dX6_readNumber_20 rfl (v := 48) (by decide) ?_
  refine j_bipush X dX6_readNumber_22 rfl (v := 57) (by decide) ?_
  refine j_callSi X (c_X6_in l Z S1 h (rHere S1) (48) (57)) lk_RX6_56 mt_X6_in ini_RX6 mc_X6_in md_X6_in ⟨Nat.le_of_ble_eq_true rfl, Nat.le_of_ble_eq_true rfl⟩ ⟨Nat.le_of_ble_eq_true rfl, Nat.le_of_ble_eq_true rfl⟩ rfl (Nat.le_of_ble_eq_true rfl) (as := [.int (rHere S1), .int (48), .int (57)]) (rest := []) rfl dX6_readNumber_24 rfl ?_
  refine j_ifb_eq X dX6_readNumber_27 rfl (tgt := 59) (by decide) (fun c_27 => ?_) (fun c_27 => ?_)
  · have qE : rNumL 3 0 (rTake S 45).2 0 = (0, S1, (0)) := by rw [← eS1, qS1]; rw [rNumL_s 2, if_neg (by rw [c_27]; decide)]
    refine j_aload_n X dX6_readNumber_59 rfl rfl (q := 3) rfl ?_
    refine jg_model X 12 (by decide) lk_RX6_28 rfl rfl dX6_readNumber_60 rfl ?_
    refine j_iconst X dX6_readNumber_63 rfl (v := 2) (by decide) ?_
    refine j_aload_n X dX6_readNumber_64 rfl rfl (q := 3) rfl ?_
    refine jg_model X 11 (by decide) lk_RX6_77 rfl rfl dX6_readNumber_65 rfl ?_
    refine j_topeq (y := (nI (rIs S))) (by subst eS1; simp [setF_at, (rTake_K hr (x := 45) (by decide)).2.2.1] <;> exact hi.1) ?_
    refine j_imul X dX6_readNumber_68 rfl ?_
    refine j_topeq (y := nI (2 * (rIs S))) (pk_mul 2 (rIs S)) ?_
    refine j_iconst X dX6_readNumber_69 rfl (v := 1) (by decide) ?_
    refine j_iadd X dX6_readNumber_70 rfl ?_
    refine j_topeq (y := nI ((2 * (rIs S)) + 1)) (nI_add (2 * (rIs S)) 1) ?_
    refine j_iload_n X dX6_readNumber_71 rfl rfl (q := 2) rfl ?_
    refine j_ifb_eq X dX6_readNumber_72 rfl (tgt := 80) (by decide) (fun c_72 => ?_) (fun c_72 => ?_)
    · refine j_iload_n X dX6_readNumber_80 rfl rfl (q := 0) rfl ?_
      refine j_iastN X (k := (2 * (rIs S)) + 1) (wm_ref (by decide)) (fun r => (fun _ => rfl) r) (by omega) (by decide) dX6_readNumber_81 rfl ?_
      refine j_name (fun S2 eS2 => ?_)
      refine j_iload_n X dX6_readNumber_82 rfl rfl (q := 1) rfl ?_
      refine j_if_le_t X (tgt := 90) dX6_readNumber_83 (by decide) (by decide) ?_
      refine j_iconst X dX6_readNumber_90 rfl (v := 0) (by decide) ?_
      exact j_ret (by rw [rNum_1 qE]; rfl) (by rw [rNum_2 qE, if_neg (by rw [c_72]; decide)]; exact eS2) rfl (K _ _ dX6_readNumber_91)
    · refine j_iload_n X dX6_readNumber_75 rfl rfl (q := 0) rfl ?_
      refine j_ineg X dX6_readNumber_76 rfl ?_
      refine j_goto X (tgt := 81) dX6_readNumber_77 (by decide) ?_
      refine j_iastN X (k := (2 * (rIs S)) + 1) (wm_ref (by decide)) (fun r => (fun _ => rfl) r) (by omega) (by decide) dX6_readNumber_81 rfl ?_
      refine j_name (fun S3 eS3 => ?_)
      refine j_iload_n X dX6_readNumber_82 rfl rfl (q := 1) rfl ?_
      refine j_if_le_t X (tgt := 90) dX6_readNumber_83 (by decide) (by decide) ?_
      refine j_iconst X dX6_readNumber_90 rfl (v := 0) (by decide) ?_
      exact j_ret (by rw [rNum_1 qE]; rfl) (by rw [rNum_2 qE, if_pos c_72]; exact eS3) rfl (K _ _ dX6_readNumber_91)
  · refine j_bipush X dX6_readNumber_30 rfl (v := 10) (by decide) ?_
    refine j_iload_n X dX6_readNumber_32 rfl rfl (q := 0) rfl ?_
    refine j_imul X dX6_readNumber_33 rfl ?_
    refine j_aload_n X dX6_readNumber_34 rfl rfl (q := 3) rfl ?_
    refine j_calli X (c_X6_here l Z S1 h hS1) (wm_ref (by decide)) ((fun _ => rfl) _) rfl lk_RX6_73 mi_X6_here ms_X6_here ini_RX6 mc_X6_here md_X6_here ⟨Nat.le_of_ble_eq_true rfl, Nat.le_of_ble_eq_true rfl⟩ ⟨Nat.le_of_ble_eq_true rfl, Nat.le_of_ble_eq_true rfl⟩ rfl (Nat.le_of_ble_eq_true rfl) (as := []) (rest := [.int ((10) * (0))]) rfl dX6_readNumber_35 rfl ?_
    refine j_iadd X dX6_readNumber_38 rfl ?_
    refine j_bipush X dX6_readNumber_39 rfl (v := 48) (by decide) ?_
    refine j_isub X dX6_readNumber_41 rfl ?_
    refine j_istore_n X dX6_readNumber_42 rfl rfl (by decide) (Ls2 := [(3, .int ((((10) * (0)) + (rHere S1)) - (48))), (2, .int (0)), (1, .int (bI ((rTake S (45)).1))), (0, .ref (zA Z (7) (0) (0)))]) rfl ?_
    refine j_iinc X dX6_readNumber_43 rfl (q := 1) rfl (v := (1)) (by decide) (by decide) (Ls2 := [(2, .int (1)), (3, .int ((((10) * (0)) + (rHere S1)) - (48))), (1, .int (bI ((rTake S (45)).1))), (0, .ref (zA Z (7) (0) (0)))]) rfl ?_
    refine j_aload_n X dX6_readNumber_46 rfl rfl (q := 3) rfl ?_
    refine j_dup X dX6_readNumber_47 rfl rfl ?_
    refine jg_model X 10 (by decide) lk_RX6_70 rfl rfl dX6_readNumber_48 rfl ?_
    refine j_iconst X dX6_readNumber_51 rfl (v := 1) (by decide) ?_
    refine j_iadd X dX6_readNumber_52 rfl ?_
    refine jp_model X 10 (by decide) lk_RX6_70 rfl rfl rfl (vp_nar_int _) rfl rfl dX6_readNumber_53 rfl ?_
    refine j_name (fun S4 eS4 => ?_)
    have hS4 : rdOK S4 := by rw [eS4]; exact (rdK_adv hS1 (rHere_lt (rIn_ne c_27 (by decide)))).1
    have qS4 : rNumL 3 0 S1 0 = rNumL 2 1 S4 ((((10) * (0)) + (rHere S1)) - (48)) := by rw [qS1, rNumL_s 2, if_pos c_27, show rAdv S1 = S4 from eS4.symm]
    refine j_goto X (tgt := 11) dX6_readNumber_56 (by decide) ?_
    refine j_iload_n X dX6_readNumber_11 rfl rfl (q := 0) rfl ?_
    refine j_iconst X dX6_readNumber_12 rfl (v := 3) (by decide) ?_
    refine j_icmp_ge_f X dX6_readNumber_13 rfl (tgt := 59) (by decide) (by decide) ?_
    refine j_aload_n X dX6_readNumber_16 rfl rfl (q := 3) rfl ?_
    refine j_calli X (c_X6_here l Z S4 h hS4) (wm_ref (by decide)) ((fun _ => rfl) _) rfl lk_RX6_73 mi_X6_here ms_X6_here ini_RX6 mc_X6_here md_X6_here ⟨Nat.le_of_ble_eq_true rfl, Nat.le_of_ble_eq_true rfl⟩ ⟨Nat.le_of_ble_eq_true rfl, Nat.le_of_ble_eq_true rfl⟩ rfl (Nat.le_of_ble_eq_true rfl) (as := []) (rest := []) rfl dX6_readNumber_17 rfl ?_
    refine j_bipush X dX6_readNumber_20 rfl (v := 48) (by decide) ?_
    refine j_bipush X dX6_readNumber_22 rfl (v := 57) (by decide) ?_
    refine j_callSi X (c_X6_in l Z S4 h (rHere S4) (48) (57)) lk_RX6_56 mt_X6_in ini_RX6 mc_X6_in md_X6_in ⟨Nat.le_of_ble_eq_true rfl, Nat.le_of_ble_eq_true rfl⟩ ⟨Nat.le_of_ble_eq_true rfl, Nat.le_of_ble_eq_true rfl⟩ rfl (Nat.le_of_ble_eq_true rfl) (as := [.int (rHere S4), .int (48), .int (57)]) (rest := []) rfl dX6_readNumber_24 rfl ?_
    refine j_ifb_eq X dX6_readNumber_27 rfl (tgt := 59) (by decide) (fun c_27_5 => ?_) (fun c_27_5 => ?_)
    · have qE : rNumL 3 0 (rTake S 45).2 0 = (1, S4, ((((10) * (0)) + (rHere S1)) - (48))) := by rw [← eS1, qS4]; rw [rNumL_s 1, if_neg (by rw [c_27_5]; decide)]
      refine j_aload_n X dX6_readNumber_59 rfl rfl (q := 3) rfl ?_
      refine jg_model X 12 (by decide) lk_RX6_28 rfl rfl dX6_readNumber_60 rfl ?_
      refine j_iconst X dX6_readNumber_63 rfl (v := 2) (by decide) ?_
      refine j_aload_n X dX6_readNumber_64 rfl rfl (q := 3) rfl ?_
      refine jg_model X 11 (by decide) lk_RX6_77 rfl rfl dX6_readNumber_65 rfl ?_
      refine j_topeq (y := (nI (rIs S))) (by subst eS1; subst eS4; simp [setF_at, (rTake_K hr (x := 45) (by decide)).2.2.1] <;> exact hi.1) ?_
      refine j_imul X dX6_readNumber_68 rfl ?_
      refine j_topeq (y := nI (2 * (rIs S))) (pk_mul 2 (rIs S)) ?_
      refine j_iconst X dX6_readNumber_69 rfl (v := 1) (by decide) ?_
      refine j_iadd X dX6_readNumber_70 rfl ?_
      refine j_topeq (y := nI ((2 * (rIs S)) + 1)) (nI_add (2 * (rIs S)) 1) ?_
      refine j_iload_n X dX6_readNumber_71 rfl rfl (q := 2) rfl ?_
      refine j_ifb_eq X dX6_readNumber_72 rfl (tgt := 80) (by decide) (fun c_72_6 => ?_) (fun c_72_6 => ?_)
      · refine j_iload_n X dX6_readNumber_80 rfl rfl (q := 1) rfl ?_
        refine j_iastN X (k := (2 * (rIs S)) + 1) (wm_ref (by decide)) (fun r => (fun _ => rfl) r) (by omega) (by decide) dX6_readNumber_81 rfl ?_
        refine j_name (fun S7 eS7 => ?_)
        refine j_iload_n X dX6_readNumber_82 rfl rfl (q := 0) rfl ?_
        refine j_if_le_f X dX6_readNumber_83 rfl (tgt := 90) (by decide) (by decide) ?_
        refine j_iconst X dX6_readNumber_86 rfl (v := 1) (by decide) ?_
        refine j_goto X (tgt := 91) dX6_readNumber_87 (by decide) ?_
        exact j_ret (by rw [rNum_1 qE]; rfl) (by rw [rNum_2 qE, if_neg (by rw [c_72_6]; decide)]; exact eS7) rfl (K _ _ dX6_readNumber_91)
      · refine j_iload_n X dX6_readNumber_75 rfl rfl (q := 1) rfl ?_
        refine j_ineg X dX6_readNumber_76 rfl ?_
        refine j_goto X (tgt := 81) dX6_readNumber_77 (by decide) ?_
        refine j_iastN X (k := (2 * (rIs S)) + 1) (wm_ref (by decide)) (fun r => (fun _ => rfl) r) (by omega) (by decide) dX6_readNumber_81 rfl ?_
        refine j_name (fun S8 eS8 => ?_)
        refine j_iload_n X dX6_readNumber_82 rfl rfl (q := 0) rfl ?_
        refine j_if_le_f X dX6_readNumber_83 rfl (tgt := 90) (by decide) (by decide) ?_
        refine j_iconst X dX6_readNumber_86 rfl (v := 1) (by decide) ?_
        refine j_goto X (tgt := 91) dX6_readNumber_87 (by decide) ?_
        exact j_ret (by rw [rNum_1 qE]; rfl) (by rw [rNum_2 qE, if_pos c_72_6]; exact eS8) rfl (K _ _ dX6_readNumber_91)
    · refine j_bipush X dX6_readNumber_30 rfl (v := 10) (by decide) ?_
      refine j_iload_n X dX6_readNumber_32 rfl rfl (q := 1) rfl ?_
      refine j_imul X dX6_readNumber_33 rfl ?_
      refine j_aload_n X dX6_readNumber_34 rfl rfl (q := 3) rfl ?_
      refine j_calli X (c_X6_here l Z S4 h hS4) (wm_ref (by decide)) ((fun _ => rfl) _) rfl lk_RX6_73 mi_X6_here ms_X6_here ini_RX6 mc_X6_here md_X6_here ⟨Nat.le_of_ble_eq_true rfl, Nat.le_of_ble_eq_true rfl⟩ ⟨Nat.le_of_ble_eq_true rfl, Nat.le_of_ble_eq_true rfl⟩ rfl (Nat.le_of_ble_eq_true rfl) (as := []) (rest := [.int ((10) * ((((10) * (0)) + (rHere S1)) - (48)))]) rfl dX6_readNumber_35 rfl ?_
      refine j_iadd X dX6_readNumber_38 rfl ?_
      refine j_bipush X dX6_readNumber_39 rfl (v := 48) (by decide) ?_
      refine j_isub X dX6_readNumber_41 rfl ?_
      refine j_istore_n X dX6_readNumber_42 rfl rfl (by decide) (Ls2 := [(3, .int ((((10) * ((((10) * (0)) + (rHere S1)) - (48))) + (rHere S4)) - (48))), (2, .int (1)), (1, .int (bI ((rTake S (45)).1))), (0, .ref (zA Z (7) (0) (0)))]) rfl ?_
      refine j_iinc X dX6_readNumber_43 rfl (q := 1) rfl (v := (2)) (by decide) (by decide) (Ls2 := [(2, .int (2)), (3, .int ((((10) * ((((10) * (0)) + (rHere S1)) - (48))) + (rHere S4)) - (48))), (1, .int (bI ((rTake S (45)).1))), (0, .ref (zA Z (7) (0) (0)))]) rfl ?_
      refine j_aload_n X dX6_readNumber_46 rfl rfl (q := 3) rfl ?_
      refine j_dup X dX6_readNumber_47 rfl rfl ?_
      refine jg_model X 10 (by decide) lk_RX6_70 rfl rfl dX6_readNumber_48 rfl ?_
      refine j_iconst X dX6_readNumber_51 rfl (v := 1) (by decide) ?_
      refine j_iadd X dX6_readNumber_52 rfl ?_
      refine jp_model X 10 (by decide) lk_RX6_70 rfl rfl rfl (vp_nar_int _) rfl rfl dX6_readNumber_53 rfl ?_
      refine j_name (fun S9 eS9 => ?_)
      have hS9 : rdOK S9 := by rw [eS9]; exact (rdK_adv hS4 (rHere_lt (rIn_ne c_27_5 (by decide)))).1
      have qS9 : rNumL 3 0 S1 0 = rNumL 1 2 S9 ((((10) * ((((10) * (0)) + (rHere S1)) - (48))) + (rHere S4)) - (48)) := by rw [qS4, rNumL_s 1, if_pos c_27_5, show rAdv S4 = S9 from eS9.symm]
      refine j_goto X (tgt := 11) dX6_readNumber_56 (by decide) ?_
      refine j_iload_n X dX6_readNumber_11 rfl rfl (q := 0) rfl ?_
      refine j_iconst X dX6_readNumber_12 rfl (v := 3) (by decide) ?_
      refine j_icmp_ge_f X dX6_readNumber_13 rfl (tgt := 59) (by decide) (by decide) ?_
      refine j_aload_n X dX6_readNumber_16 rfl rfl (q := 3) rfl ?_
      refine j_calli X (c_X6_here l Z S9 h hS9) (wm_ref (by decide)) ((fun _ => rfl) _) rfl lk_RX6_73 mi_X6_here ms_X6_here ini_RX6 mc_X6_here md_X6_here ⟨Nat.le_of_ble_eq_true rfl, Nat.le_of_ble_eq_true rfl⟩ ⟨Nat.le_of_ble_eq_true rfl, Nat.le_of_ble_eq_true rfl⟩ rfl (Nat.le_of_ble_eq_true rfl) (as := []) (rest := []) rfl dX6_readNumber_17 rfl ?_
      refine j_bipush X dX6_readNumber_20 rfl (v := 48) (by decide) ?_
      refine j_bipush X dX6_readNumber_22 rfl (v := 57) (by decide) ?_
      refine j_callSi X (c_X6_in l Z S9 h (rHere S9) (48) (57)) lk_RX6_56 mt_X6_in ini_RX6 mc_X6_in md_X6_in ⟨Nat.le_of_ble_eq_true rfl, Nat.le_of_ble_eq_true rfl⟩ ⟨Nat.le_of_ble_eq_true rfl, Nat.le_of_ble_eq_true rfl⟩ rfl (Nat.le_of_ble_eq_true rfl) (as := [.int (rHere S9), .int (48), .int (57)]) (rest := []) rfl dX6_readNumber_24 rfl ?_
      refine j_ifb_eq X dX6_readNumber_27 rfl (tgt := 59) (by decide) (fun c_27_10 => ?_) (fun c_27_10 => ?_)
      · have qE : rNumL 3 0 (rTake S 45).2 0 = (2, S9, ((((10) * ((((10) * (0)) + (rHere S1)) - (48))) + (rHere S4)) - (48))) := by rw [← eS1, qS9]; rw [rNumL_s 0, if_neg (by rw [c_27_10]; decide)]
        refine j_aload_n X dX6_readNumber_59 rfl rfl (q := 3) rfl ?_
        refine jg_model X 12 (by decide) lk_RX6_28 rfl rfl dX6_readNumber_60 rfl ?_
        refine j_iconst X dX6_readNumber_63 rfl (v := 2) (by decide) ?_
        refine j_aload_n X dX6_readNumber_64 rfl rfl (q := 3) rfl ?_
        refine jg_model X 11 (by decide) lk_RX6_77 rfl rfl dX6_readNumber_65 rfl ?_
        refine j_topeq (y := (nI (rIs S))) (by subst eS1; subst eS4; subst eS9; simp [setF_at, (rTake_K hr (x := 45) (by decide)).2.2.1] <;> exact hi.1) ?_
        refine j_imul X dX6_readNumber_68 rfl ?_
        refine j_topeq (y := nI (2 * (rIs S))) (pk_mul 2 (rIs S)) ?_
        refine j_iconst X dX6_readNumber_69 rfl (v := 1) (by decide) ?_
        refine j_iadd X dX6_readNumber_70 rfl ?_
        refine j_topeq (y := nI ((2 * (rIs S)) + 1)) (nI_add (2 * (rIs S)) 1) ?_
        refine j_iload_n X dX6_readNumber_71 rfl rfl (q := 2) rfl ?_
        refine j_ifb_eq X dX6_readNumber_72 rfl (tgt := 80) (by decide) (fun c_72_11 => ?_) (fun c_72_11 => ?_)
        · refine j_iload_n X dX6_readNumber_80 rfl rfl (q := 1) rfl ?_
          refine j_iastN X (k := (2 * (rIs S)) + 1) (wm_ref (by decide)) (fun r => (fun _ => rfl) r) (by omega) (by decide) dX6_readNumber_81 rfl ?_
          refine j_name (fun S12 eS12 => ?_)
          refine j_iload_n X dX6_readNumber_82 rfl rfl (q := 0) rfl ?_
          refine j_if_le_f X dX6_readNumber_83 rfl (tgt := 90) (by decide) (by decide) ?_
          refine j_iconst X dX6_readNumber_86 rfl (v := 1) (by decide) ?_
          refine j_goto X (tgt := 91) dX6_readNumber_87 (by decide) ?_
          exact j_ret (by rw [rNum_1 qE]; rfl) (by rw [rNum_2 qE, if_neg (by rw [c_72_11]; decide)]; exact eS12) rfl (K _ _ dX6_readNumber_91)
        · refine j_iload_n X dX6_readNumber_75 rfl rfl (q := 1) rfl ?_
          refine j_ineg X dX6_readNumber_76 rfl ?_
          refine j_goto X (tgt := 81) dX6_readNumber_77 (by decide) ?_
          refine j_iastN X (k := (2 * (rIs S)) + 1) (wm_ref (by decide)) (fun r => (fun _ => rfl) r) (by omega) (by decide) dX6_readNumber_81 rfl ?_
          refine j_name (fun S13 eS13 => ?_)
          refine j_iload_n X dX6_readNumber_82 rfl rfl (q := 0) rfl ?_
          refine j_if_le_f X dX6_readNumber_83 rfl (tgt := 90) (by decide) (by decide) ?_
          refine j_iconst X dX6_readNumber_86 rfl (v := 1) (by decide) ?_
          refine j_goto X (tgt := 91) dX6_readNumber_87 (by decide) ?_
          exact j_ret (by rw [rNum_1 qE]; rfl) (by rw [rNum_2 qE, if_pos c_72_11]; exact eS13) rfl (K _ _ dX6_readNumber_91)
      · refine j_bipush X dX6_readNumber_30 rfl (v := 10) (by decide) ?_
        refine j_iload_n X dX6_readNumber_32 rfl rfl (q := 1) rfl ?_
        refine j_imul X dX6_readNumber_33 rfl ?_
        refine j_aload_n X dX6_readNumber_34 rfl rfl (q := 3) rfl ?_
        refine j_calli X (c_X6_here l Z S9 h hS9) (wm_ref (by decide)) ((fun _ => rfl) _) rfl lk_RX6_73 mi_X6_here ms_X6_here ini_RX6 mc_X6_here md_X6_here ⟨Nat.le_of_ble_eq_true rfl, Nat.le_of_ble_eq_true rfl⟩ ⟨Nat.le_of_ble_eq_true rfl, Nat.le_of_ble_eq_true rfl⟩ rfl (Nat.le_of_ble_eq_true rfl) (as := []) (rest := [.int ((10) * ((((10) * ((((10) * (0)) + (rHere S1)) - (48))) + (rHere S4)) - (48)))]) rfl dX6_readNumber_35 rfl ?_
        refine j_iadd X dX6_readNumber_38 rfl ?_
        refine j_bipush X dX6_readNumber_39 rfl (v := 48) (by decide) ?_
        refine j_isub X dX6_readNumber_41 rfl ?_
        refine j_istore_n X dX6_readNumber_42 rfl rfl (by decide) (Ls2 := [(3, .int ((((10) * ((((10) * ((((10) * (0)) + (rHere S1)) - (48))) + (rHere S4)) - (48))) + (rHere S9)) - (48))), (2, .int (2)), (1, .int (bI ((rTake S (45)).1))), (0, .ref (zA Z (7) (0) (0)))]) rfl ?_
        refine j_iinc X dX6_readNumber_43 rfl (q := 1) rfl (v := (3)) (by decide) (by decide) (Ls2 := [(2, .int (3)), (3, .int ((((10) * ((((10) * ((((10) * (0)) + (rHere S1)) - (48))) + (rHere S4)) - (48))) + (rHere S9)) - (48))), (1, .int (bI ((rTake S (45)).1))), (0, .ref (zA Z (7) (0) (0)))]) rfl ?_
        refine j_aload_n X dX6_readNumber_46 rfl rfl (q := 3) rfl ?_
        refine j_dup X dX6_readNumber_47 rfl rfl ?_
        refine jg_model X 10 (by decide) lk_RX6_70 rfl rfl dX6_readNumber_48 rfl ?_
        refine j_iconst X dX6_readNumber_51 rfl (v := 1) (by decide) ?_
        refine j_iadd X dX6_readNumber_52 rfl ?_
        refine jp_model X 10 (by decide) lk_RX6_70 rfl rfl rfl (vp_nar_int _) rfl rfl dX6_readNumber_53 rfl ?_
        refine j_name (fun S14 eS14 => ?_)
        have hS14 : rdOK S14 := by rw [eS14]; exact (rdK_adv hS9 (rHere_lt (rIn_ne c_27_10 (by decide)))).1
        have qS14 : rNumL 3 0 S1 0 = rNumL 0 3 S14 ((((10) * ((((10) * ((((10) * (0)) + (rHere S1)) - (48))) + (rHere S4)) - (48))) + (rHere S9)) - (48)) := by rw [qS9, rNumL_s 0, if_pos c_27_10, show rAdv S9 = S14 from eS14.symm]
        refine j_goto X (tgt := 11) dX6_readNumber_56 (by decide) ?_
        refine j_iload_n X dX6_readNumber_11 rfl rfl (q := 0) rfl ?_
        refine j_iconst X dX6_readNumber_12 rfl (v := 3) (by decide) ?_
        refine j_icmp_ge_t X (tgt := 59) dX6_readNumber_13 (by decide) (by decide) ?_
        have qE : rNumL 3 0 (rTake S 45).2 0 = (3, S14, ((((10) * ((((10) * ((((10) * (0)) + (rHere S1)) - (48))) + (rHere S4)) - (48))) + (rHere S9)) - (48))) := by rw [← eS1, qS14]; rfl
        refine j_aload_n X dX6_readNumber_59 rfl rfl (q := 3) rfl ?_
        refine jg_model X 12 (by decide) lk_RX6_28 rfl rfl dX6_readNumber_60 rfl ?_
        refine j_iconst X dX6_readNumber_63 rfl (v := 2) (by decide) ?_
        refine j_aload_n X dX6_readNumber_64 rfl rfl (q := 3) rfl ?_
        refine jg_model X 11 (by decide) lk_RX6_77 rfl rfl dX6_readNumber_65 rfl ?_
        refine j_topeq (y := (nI (rIs S))) (by subst eS1; subst eS4; subst eS9; subst eS14; simp [setF_at, (rTake_K hr (x := 45) (by decide)).2.2.1] <;> exact hi.1) ?_
        refine j_imul X dX6_readNumber_68 rfl ?_
        refine j_topeq (y := nI (2 * (rIs S))) (pk_mul 2 (rIs S)) ?_
        refine j_iconst X dX6_readNumber_69 rfl (v := 1) (by decide) ?_
        refine j_iadd X dX6_readNumber_70 rfl ?_
        refine j_topeq (y := nI ((2 * (rIs S)) + 1)) (nI_add (2 * (rIs S)) 1) ?_
        refine j_iload_n X dX6_readNumber_71 rfl rfl (q := 2) rfl ?_
        refine j_ifb_eq X dX6_readNumber_72 rfl (tgt := 80) (by decide) (fun c_72_15 => ?_) (fun c_72_15 => ?_)
        · refine j_iload_n X dX6_readNumber_80 rfl rfl (q := 1) rfl ?_
          refine j_iastN X (k := (2 * (rIs S)) + 1) (wm_ref (by decide)) (fun r => (fun _ => rfl) r) (by omega) (by decide) dX6_readNumber_81 rfl ?_
          refine j_name (fun S16 eS16 => ?_)
          refine j_iload_n X dX6_readNumber_82 rfl rfl (q := 0) rfl ?_
          refine j_if_le_f X dX6_readNumber_83 rfl (tgt := 90) (by decide) (by decide) ?_
          refine j_iconst X dX6_readNumber_86 rfl (v := 1) (by decide) ?_
          refine j_goto X (tgt := 91) dX6_readNumber_87 (by decide) ?_
          exact j_ret (by rw [rNum_1 qE]; rfl) (by rw [rNum_2 qE, if_neg (by rw [c_72_15]; decide)]; exact eS16) rfl (K _ _ dX6_readNumber_91)
        · refine j_iload_n X dX6_readNumber_75 rfl rfl (q := 1) rfl ?_
          refine j_ineg X dX6_readNumber_76 rfl ?_
          refine j_goto X (tgt := 81) dX6_readNumber_77 (by decide) ?_
          refine j_iastN X (k := (2 * (rIs S)) + 1) (wm_ref (by decide)) (fun r => (fun _ => rfl) r) (by omega) (by decide) dX6_readNumber_81 rfl ?_
          refine j_name (fun S17 eS17 => ?_)
          refine j_iload_n X dX6_readNumber_82 rfl rfl (q := 0) rfl ?_
          refine j_if_le_f X dX6_readNumber_83 rfl (tgt := 90) (by decide) (by decide) ?_
          refine j_iconst X dX6_readNumber_86 rfl (v := 1) (by decide) ?_
          refine j_goto X (tgt := 91) dX6_readNumber_87 (by decide) ?_
          exact j_ret (by rw [rNum_1 qE]; rfl) (by rw [rNum_2 qE, if_pos c_72_15]; exact eS17) rfl (K _ _ dX6_readNumber_91)

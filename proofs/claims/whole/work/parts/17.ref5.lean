set_option maxRecDepth 100000 in
set_option maxHeartbeats 4000000 in
theorem c_X6_readNumber (l : Launch) (Z : wZ) (S : St) (h : Hl) (hr : rdOK S) (hi : okI (S 7 0 0 11) 29) : Ci l yX6_readNumber cX6_readNumber 4 .boolean 2 42 Z [.ref (zA Z (7) (0) (0))] S h (bI (rNum S).1) ((rNum S).2) (h) := by
  have hi2 : rIs S ≤ 29 := hi.2
  refine Ci.of rfl (bI_nar _) (Nat.le_of_ble_eq_true rfl) (fun p e s mi args below meth c A0 Q X K => ?_)
  refine j_at rfl rfl (Ls3 := [(0, .ref (zA Z (7) (0) (0)))]) rfl rfl ?_
  refine j_aload_n X dX6_readNumber_0 rfl rfl (q := 0) rfl ?_
  refine j_bipush X dX6_readNumber_1 rfl (v := 45) (by decide) ?_
  refine j_calli X (c_X6_takes l Z S h hr (45)) (wm_ref (by decide)) ((fun _ => rfl) _) rfl lk_RX6_80 mi_X6_takes ms_X6_takes ini_RX6 mc_X6_takes md_X6_takes ⟨Nat.le_of_ble_eq_true rfl, Nat.le_of_ble_eq_true rfl⟩ ⟨Nat.le_of_ble_eq_true rfl, Nat.le_of_ble_eq_true rfl⟩ rfl (Nat.le_of_ble_eq_true rfl) (as := [.int (45)]) (rest := []) rfl dX6_readNumber_3 rfl ?_
  refine j_name (fun S1 eS1 => ?_)
  have hS1 : rdOK S1 := by rw [eS1]; exact (rTake_K hr (by decide)).1
  refine j_istore_n X dX6_readNumber_6 rfl rfl (by decide) (Ls2 := [(1, .int (bI ((rTake S (45)).1))), (0, .ref (zA Z (7) (0) (0)))]) rfl ?_
  refine j_iconst X dX6_readNumber_7 rfl (v := 0) (by decide) ?_
  refine j_istore_n X dX6_readNumber_8 rfl rfl (by decide) (Ls2 := [(2, .int (0)), (1, .int (bI ((rTake S (45)).1))), (0, .ref (zA Z (7) (0) (0)))]) rfl ?_
  refine j_iconst X dX6_readNumber_9 rfl (v := 0) (by decide) ?_
  refine j_istore_n X dX6_readNumber_10 rfl rfl (by decide) (Ls2 := [(3, .int (0)), (2, .int (0)), (1, .int (bI ((rTake S (45)).1))), (0, .ref (zA Z (7) (0) (0)))]) rfl ?_
  refine j_iload_n X dX6_readNumber_11 rfl rfl (q := 1) rfl ?_
  refine j_iconst X dX6_readNumber_12 rfl (v := 3) (by decide) ?_
  refine j_icmp_ge_f X dX6_readNumber_13 rfl (tgt := 59) (by decide) (by decide) ?_
  refine j_aload_n X dX6_readNumber_16 rfl rfl (q := 3) rfl ?_
  refine j_calli X (c_X6_here l Z S1 h hS1) (wm_ref (by decide)) ((fun _ => rfl) _) rfl lk_RX6_73 mi_X6_here ms_X6_here ini_RX6 mc_X6_here md_X6_here ⟨Nat.le_of_ble_eq_true rfl, Nat.le_of_ble_eq_true rfl⟩ ⟨Nat.le_of_ble_eq_true rfl, Nat.le_of_ble_eq_true rfl⟩ rfl (Nat.le_of_ble_eq_true rfl) (as := []) (rest := []) rfl dX6_readNumber_17 rfl ?_
  refine j_bipush X dX6_readNumber_20 rfl (v := 48) (by decide) ?_
  refine j_bipush X dX6_readNumber_22 rfl (v := 57) (by decide) ?_
  refine j_callSi X (c_X6_in l Z S1 h (rHere S1) (48) (57)) lk_RX6_56 mt_X6_in ini_RX6 mc_X6_in md_X6_in ⟨Nat.le_of_ble_eq_true rfl, Nat.le_of_ble_eq_true rfl⟩ ⟨Nat.le_of_ble_eq_true rfl, Nat.le_of_ble_eq_true rfl⟩ rfl (Nat.le_of_ble_eq_true rfl) (as := [.int (rHere S1), .int (48), .int (57)]) (rest := []) rfl dX6_readNumber_24 rfl ?_
  refine j_ifb_eq X dX6_readNumber_27 rfl (tgt := 59) (by decide) (fun c_27 => ?_) (fun c_27 => ?_)
  · refine j_aload_n X dX6_readNumber_59 rfl rfl (q := 3) rfl ?_
    refine jg_model X 12 (by decide) lk_RX6_28 rfl rfl dX6_readNumber_60 rfl ?_
    refine j_iconst X dX6_readNumber_63 rfl (v := 2) (by decide) ?_
    refine j_aload_n X dX6_readNumber_64 rfl rfl (q := 3) rfl ?_
    refine jg_model X 11 (by decide) lk_RX6_77 rfl rfl dX6_readNumber_65 rfl ?_
    refine j_topeq (y := (nI (rIs S))) (by subst eS1; simp [setF_at, (rTake_K hr (x := 45) (by decide)).2.2.1] <;> exact hi.1) ?_
    refine j_imul X dX6_readNumber_68 rfl ?_
    refine j_topeq (y := nI (2 * (rIs S))) (pk_mul 2 (rIs S)) ?_
    refine j_iconst X dX6_readNumber_69 rfl (v := 1) (by decide) ?_
    refine j_iadd X dX6_readNumber_70 rfl ?_
    refine j_topeq (y := nI ((2 * (rIs S)) + 1)) (nI_add (2 * (rIs S)) 1) ?_
    refine j_iload_n X dX6_readNumber_71 rfl rfl (q := 2) rfl ?_
    refine j_ifb_eq X dX6_readNumber_72 rfl (tgt := 80) (by decide) (fun c_72 => ?_) (fun c_72 => ?_)
    · refine j_iload_n X dX6_readNumber_80 rfl rfl (q := 0) rfl ?_
      refine j_iastN X (k := (2 * (rIs S)) + 1) (wm_ref (by decide)) (fun r => (fun _ => rfl) r) (by omega) (by decide) dX6_readNumber_81 rfl ?_
      refine j_name (fun S2 eS2 => ?_)
      refine j_iload_n X dX6_readNumber_82 rfl rfl (q := 1) rfl ?_
      refine j_if_le_t X (tgt := 90) dX6_readNumber_83 (by decide) (by decide) ?_
      refine j_iconst X dX6_readNumber_90 rfl (v := 0) (by decide) ?_
      exact j_ret (by subst eS1; subst eS2; first | with_reducible rfl | (simp [rNum, rNumL, rAdv, bI, c_27, c_72]; done) | (simp_all [rNum, rNumL, rAdv, bI]; done) | rfl) (by subst eS1; subst eS2; first | with_reducible rfl | (simp [rNum, rNumL, rAdv, bI, c_27, c_72]; done) | (simp_all [rNum, rNumL, rAdv, bI]; done) | rfl) rfl (K _ _ dX6_readNumber_91)
    · refine j_iload_n X dX6_readNumber_75 rfl rfl (q := 0) rfl ?_
      refine j_ineg X dX6_readNumber_76 rfl ?_
      refine j_goto X (tgt := 81) dX6_readNumber_77 (by decide) ?_
      refine j_iastN X (k := (2 * (rIs S)) + 1) (wm_ref (by decide)) (fun r => (fun _ => rfl) r) (by omega) (by decide) dX6_readNumber_81 rfl ?_
      refine j_name (fun S3 eS3 => ?_)
      refine j_iload_n X dX6_readNumber_82 rfl rfl (q := 1) rfl ?_
      refine j_if_le_t X (tgt := 90) dX6_readNumber_83 (by decide) (by decide) ?_
      refine j_iconst X dX6_readNumber_90 rfl (v := 0) (by decide) ?_
      exact j_ret (by subst eS1; subst eS3; first | with_reducible rfl | (simp [rNum, rNumL, rAdv, bI, c_27, c_72]; done) | (simp_all [rNum, rNumL, rAdv, bI]; done) | rfl) (by subst eS1; subst eS3; first | with_reducible rfl | (simp [rNum, rNumL, rAdv, bI, c_27, c_72]; done) | (simp_all [rNum, rNumL, rAdv, bI]; done) | rfl) rfl (K _ _ dX6_readNumber_91)
  · refine j_bipush X dX6_readNumber_30 rfl (v := 10) (by decide) ?_
    refine j_iload_n X dX6_readNumber_32 rfl rfl (q := 0) rfl ?_
    refine j_imul X dX6_readNumber_33 rfl ?_
    refine j_aload_n X dX6_readNumber_34 rfl rfl (q := 3) rfl ?_
    refine j_calli X (c_X6_here l Z S1 h hS1) (wm_ref (by decide)) ((fun _ => rfl) _) rfl lk_RX6_73 mi_X6_here ms_X6_here ini_RX6 mc_X6_here md_X6_here ⟨Nat.le_of_ble_eq_true rfl, Nat.le_of_ble_eq_true rfl⟩ ⟨Nat.le_of_ble_eq_true rfl, Nat.le_of_ble_eq_true rfl⟩ rfl (Nat.le_of_ble_eq_true rfl) (as := []) (rest := [.int ((10) * (0))]) rfl dX6_readNumber_35 rfl ?_
    refine j_iadd X dX6_readNumber_38 rfl ?_
    refine j_bipush X dX6_readNumber_39 rfl (v := 48) (by decide) ?_
    refine j_isub X dX6_readNumber_41 rfl ?_
    refine j_istore_n X dX6_readNumber_42 rfl rfl (by decide) (Ls2 := [(3, .int ((((10) * (0)) + (rHere S1)) - (48))), (2, .int (0)), (1, .int (bI ((rTake S (45)).1))), (0, .ref (zA Z (7) (0) (0)))]) rfl ?_
    refine j_iinc X dX6_readNumber_43 rfl (q := 1) rfl (v := (1)) (by decide) (by decide) (Ls2 := [(2, .int (1)), (3, .int ((((10) * (0)) + (rHere S1)) - (48))), (1, .int (bI ((rTake S (45)).1))), (0, .ref (zA Z (7) (0) (0)))]) rfl ?_
    refine j_aload_n X dX6_readNumber_46 rfl rfl (q := 3) rfl ?_
    refine j_dup X dX6_readNumber_47 rfl rfl ?_
    refine jg_model X 10 (by decide) lk_RX6_70 rfl rfl dX6_readNumber_48 rfl ?_
    refine j_iconst X dX6_readNumber_51 rfl (v := 1) (by decide) ?_
    refine j_iadd X dX6_readNumber_52 rfl ?_
    refine jp_model X 10 (by decide) lk_RX6_70 rfl rfl rfl (vp_nar_int _) rfl rfl dX6_readNumber_53 rfl ?_
    refine j_name (fun S4 eS4 => ?_)
    have hS4 : rdOK S4 := by rw [eS4]; exact (rdK_adv hS1 (rHere_lt (rIn_ne c_27 (by decide)))).1
    refine j_goto X (tgt := 11) dX6_readNumber_56 (by decide) ?_
    refine j_iload_n X dX6_readNumber_11 rfl rfl (q := 0) rfl ?_
    refine j_iconst X dX6_readNumber_12 rfl (v := 3) (by decide) ?_
    refine j_icmp_ge_f X dX6_readNumber_13 rfl (tgt := 59) (by decide) (by decide) ?_
    refine j_aload_n X dX6_readNumber_16 rfl rfl (q := 3) rfl ?_
    refine j_calli X (c_X6_here l Z S4 h hS4) (wm_ref (by decide)) ((fun _ => rfl) _) rfl lk_RX6_73 mi_X6_here ms_X6_here ini_RX6 mc_X6_here md_X6_here ⟨Nat.le_of_ble_eq_true rfl, Nat.le_of_ble_eq_true rfl⟩ ⟨Nat.le_of_ble_eq_true rfl, Nat.le_of_ble_eq_true rfl⟩ rfl (Nat.le_of_ble_eq_true rfl) (as := []) (rest := []) rfl dX6_readNumber_17 rfl ?_
    refine j_bipush X dX6_readNumber_20 rfl (v := 48) (by decide) ?_
    refine j_bipush X dX6_readNumber_22 rfl (v := 57) (by decide) ?_
    refine j_callSi X (c_X6_in l Z S4 h (rHere S4) (48) (57)) lk_RX6_56 mt_X6_in ini_RX6 mc_X6_in md_X6_in ⟨Nat.le_of_ble_eq_true rfl, Nat.le_of_ble_eq_true rfl⟩ ⟨Nat.le_of_ble_eq_true rfl, Nat.le_of_ble_eq_true rfl⟩ rfl (Nat.le_of_ble_eq_true rfl) (as := [.int (rHere S4), .int (48), .int (57)]) (rest := []) rfl dX6_readNumber_24 rfl ?_
    refine j_ifb_eq X dX6_readNumber_27 rfl (tgt := 59) (by decide) (fun c_27_5 => ?_) (fun c_27_5 => ?_)
    · refine j_aload_n X dX6_readNumber_59 rfl rfl (q := 3) rfl ?_
      refine jg_model X 12 (by decide) lk_RX6_28 rfl rfl dX6_readNumber_60 rfl ?_
      refine j_iconst X dX6_readNumber_63 rfl (v := 2) (by decide) ?_
      refine j_aload_n X dX6_readNumber_64 rfl rfl (q := 3) rfl ?_
      refine jg_model X 11 (by decide) lk_RX6_77 rfl rfl dX6_readNumber_65 rfl ?_
      refine j_topeq (y := (nI (rIs S))) (by subst eS1; subst eS4; simp [setF_at, (rTake_K hr (x := 45) (by decide)).2.2.1] <;> exact hi.1) ?_
      refine j_imul X dX6_readNumber_68 rfl ?_
      refine j_topeq (y := nI (2 * (rIs S))) (pk_mul 2 (rIs S)) ?_
      refine j_iconst X dX6_readNumber_69 rfl (v := 1) (by decide) ?_
      refine j_iadd X dX6_readNumber_70 rfl ?_
      refine j_topeq (y := nI ((2 * (rIs S)) + 1)) (nI_add (2 * (rIs S)) 1) ?_
      refine j_iload_n X dX6_readNumber_71 rfl rfl (q := 2) rfl ?_
      refine j_ifb_eq X dX6_readNumber_72 rfl (tgt := 80) (by decide) (fun c_72_6 => ?_) (fun c_72_6 => ?_)
      · refine j_iload_n X dX6_readNumber_80 rfl rfl (q := 1) rfl ?_
        refine j_iastN X (k := (2 * (rIs S)) + 1) (wm_ref (by decide)) (fun r => (fun _ => rfl) r) (by omega) (by decide) dX6_readNumber_81 rfl ?_
        refine j_name (fun S7 eS7 => ?_)
        refine j_iload_n X dX6_readNumber_82 rfl rfl (q := 0) rfl ?_
        refine j_if_le_f X dX6_readNumber_83 rfl (tgt := 90) (by decide) (by decide) ?_
        refine j_iconst X dX6_readNumber_86 rfl (v := 1) (by decide) ?_
        refine j_goto X (tgt := 91) dX6_readNumber_87 (by decide) ?_
        exact j_ret (by subst eS1; subst eS4; subst eS7; first | with_reducible rfl | (simp [rNum, rNumL, rAdv, bI, c_27, c_27_5, c_72_6]; done) | (simp_all [rNum, rNumL, rAdv, bI]; done) | rfl) (by subst eS1; subst eS4; subst eS7; first | with_reducible rfl | (simp [rNum, rNumL, rAdv, bI, c_27, c_27_5, c_72_6]; done) | (simp_all [rNum, rNumL, rAdv, bI]; done) | rfl) rfl (K _ _ dX6_readNumber_91)
      · refine j_iload_n X dX6_readNumber_75 rfl rfl (q := 1) rfl ?_
        refine j_ineg X dX6_readNumber_76 rfl ?_
        refine j_goto X (tgt := 81) dX6_readNumber_77 (by decide) ?_
        refine j_iastN X (k := (2 * (rIs S)) + 1) (wm_ref (by decide)) (fun r => (fun _ => rfl) r) (by omega) (by decide) dX6_readNumber_81 rfl ?_
        refine j_name (fun S8 eS8 => ?_)
        refine j_iload_n X dX6_readNumber_82 rfl rfl (q := 0) rfl ?_
        refine j_if_le_f X dX6_readNumber_83 rfl (tgt := 90) (by decide) (by decide) ?_
        refine j_iconst X dX6_readNumber_86 rfl (v := 1) (by decide) ?_
        refine j_goto X (tgt := 91) dX6_readNumber_87 (by decide) ?_
        exact j_ret (by subst eS1; subst eS4; subst eS8; first | with_reducible rfl | (simp [rNum, rNumL, rAdv, bI, c_27, c_27_5, c_72_6]; done) | (simp_all [rNum, rNumL, rAdv, bI]; done) | rfl) (by subst eS1; subst eS4; subst eS8; first | with_reducible rfl | (simp [rNum, rNumL, rAdv, bI, c_27, c_27_5, c_72_6]; done) | (simp_all [rNum, rNumL, rAdv, bI]; done) | rfl) rfl (K _ _ dX6_readNumber_91)
    · refine j_bipush X dX6_readNumber_30 rfl (v := 10) (by decide) ?_
      refine j_iload_n X dX6_readNumber_32 rfl rfl (q := 1) rfl ?_
      refine j_imul X dX6_readNumber_33 rfl ?_
      refine j_aload_n X dX6_readNumber_34 rfl rfl (q := 3) rfl ?_
      refine j_calli X (c_X6_here l Z S4 h hS4) (wm_ref (by decide)) ((fun _ => rfl) _) rfl lk_RX6_73 mi_X6_here ms_X6_here ini_RX6 mc_X6_here md_X6_here ⟨Nat.le_of_ble_eq_true rfl, Nat.le_of_ble_eq_true rfl⟩ ⟨Nat.le_of_ble_eq_true rfl, Nat.le_of_ble_eq_true rfl⟩ rfl (Nat.le_of_ble_eq_true rfl) (as := []) (rest := [.int ((10) * ((((10) * (0)) + (rHere S1)) - (48)))]) rfl dX6_readNumber_35 rfl ?_
      refine j_iadd X dX6_readNumber_38 rfl ?_
      refine j_bipush X dX6_readNumber_39 rfl (v := 48) (by decide) ?_
      refine j_isub X dX6_readNumber_41 rfl ?_
      refine j_istore_n X dX6_readNumber_42 rfl rfl (by decide) (Ls2 := [(3, .int ((((10) * ((((10) * (0)) + (rHere S1)) - (48))) + (rHere S4)) - (48))), (2, .int (1)), (1, .int (bI ((rTake S (45)).1))), (0, .ref (zA Z (7) (0) (0)))]) rfl ?_
      refine j_iinc X dX6_readNumber_43 rfl (q := 1) rfl (v := (2)) (by decide) (by decide) (Ls2 := [(2, .int (2)), (3, .int ((((10) * ((((10) * (0)) + (rHere S1)) - (48))) + (rHere S4)) - (48))), (1, .int (bI ((rTake S (45)).1))), (0, .ref (zA Z (7) (0) (0)))]) rfl ?_
      refine j_aload_n X dX6_readNumber_46 rfl rfl (q := 3) rfl ?_
      refine j_dup X dX6_readNumber_47 rfl rfl ?_
      refine jg_model X 10 (by decide) lk_RX6_70 rfl rfl dX6_readNumber_48 rfl ?_
      refine j_iconst X dX6_readNumber_51 rfl (v := 1) (by decide) ?_
      refine j_iadd X dX6_readNumber_52 rfl ?_
      refine jp_model X 10 (by decide) lk_RX6_70 rfl rfl rfl (vp_nar_int _) rfl rfl dX6_readNumber_53 rfl ?_
      refine j_name (fun S9 eS9 => ?_)
      have hS9 : rdOK S9 := by rw [eS9]; exact (rdK_adv hS4 (rHere_lt (rIn_ne c_27_5 (by decide)))).1
      refine j_goto X (tgt := 11) dX6_readNumber_56 (by decide) ?_
      refine j_iload_n X dX6_readNumber_11 rfl rfl (q := 0) rfl ?_
      refine j_iconst X dX6_readNumber_12 rfl (v := 3) (by decide) ?_
      refine j_icmp_ge_f X dX6_readNumber_13 rfl (tgt := 59) (by decide) (by decide) ?_
      refine j_aload_n X dX6_readNumber_16 rfl rfl (q := 3) rfl ?_
      refine j_calli X (c_X6_here l Z S9 h hS9) (wm_ref (by decide)) ((fun _ => rfl) _) rfl lk_RX6_73 mi_X6_here ms_X6_here ini_RX6 mc_X6_here md_X6_here ⟨Nat.le_of_ble_eq_true rfl, Nat.le_of_ble_eq_true rfl⟩ ⟨Nat.le_of_ble_eq_true rfl, Nat.le_of_ble_eq_true rfl⟩ rfl (Nat.le_of_ble_eq_true rfl) (as := []) (rest := []) rfl dX6_readNumber_17 rfl ?_
      refine j_bipush X dX6_readNumber_20 rfl (v := 48) (by decide) ?_
      refine j_bipush X dX6_readNumber_22 rfl (v := 57) (by decide) ?_
      refine j_callSi X (c_X6_in l Z S9 h (rHere S9) (48) (57)) lk_RX6_56 mt_X6_in ini_RX6 mc_X6_in md_X6_in ⟨Nat.le_of_ble_eq_true rfl, Nat.le_of_ble_eq_true rfl⟩ ⟨Nat.le_of_ble_eq_true rfl, Nat.le_of_ble_eq_true rfl⟩ rfl (Nat.le_of_ble_eq_true rfl) (as := [.int (rHere S9), .int (48), .int (57)]) (rest := []) rfl dX6_readNumber_24 rfl ?_
      refine j_ifb_eq X dX6_readNumber_27 rfl (tgt := 59) (by decide) (fun c_27_10 => ?_) (fun c_27_10 => ?_)
      · refine j_aload_n X dX6_readNumber_59 rfl rfl (q := 3) rfl ?_
        refine jg_model X 12 (by decide) lk_RX6_28 rfl rfl dX6_readNumber_60 rfl ?_
        refine j_iconst X dX6_readNumber_63 rfl (v := 2) (by decide) ?_
        refine j_aload_n X dX6_readNumber_64 rfl rfl (q := 3) rfl ?_
        refine jg_model X 11 (by decide) lk_RX6_77 rfl rfl dX6_readNumber_65 rfl ?_
        refine j_topeq (y := (nI (rIs S))) (by subst eS1; subst eS4; subst eS9; simp [setF_at, (rTake_K hr (x := 45) (by decide)).2.2.1] <;> exact hi.1) ?_
        refine j_imul X dX6_readNumber_68 rfl ?_
        refine j_topeq (y := nI (2 * (rIs S))) (pk_mul 2 (rIs S)) ?_
        refine j_iconst X dX6_readNumber_69 rfl (v := 1) (by decide) ?_
        refine j_iadd X dX6_readNumber_70 rfl ?_
        refine j_topeq (y := nI ((2 * (rIs S)) + 1)) (nI_add (2 * (rIs S)) 1) ?_
        refine j_iload_n X dX6_readNumber_71 rfl rfl (q := 2) rfl ?_
        refine j_ifb_eq X dX6_readNumber_72 rfl (tgt := 80) (by decide) (fun c_72_11 => ?_) (fun c_72_11 => ?_)
        · refine j_iload_n X dX6_readNumber_80 rfl rfl (q := 1) rfl ?_
          refine j_iastN X (k := (2 * (rIs S)) + 1) (wm_ref (by decide)) (fun r => (fun _ => rfl) r) (by omega) (by decide) dX6_readNumber_81 rfl ?_
          refine j_name (fun S12 eS12 => ?_)
          refine j_iload_n X dX6_readNumber_82 rfl rfl (q := 0) rfl ?_
          refine j_if_le_f X dX6_readNumber_83 rfl (tgt := 90) (by decide) (by decide) ?_
          refine j_iconst X dX6_readNumber_86 rfl (v := 1) (by decide) ?_
          refine j_goto X (tgt := 91) dX6_readNumber_87 (by decide) ?_
          exact j_ret (by subst eS1; subst eS4; subst eS9; subst eS12; first | with_reducible rfl | (simp [rNum, rNumL, rAdv, bI, c_27, c_27_5, c_27_10, c_72_11]; done) | (simp_all [rNum, rNumL, rAdv, bI]; done) | rfl) (by subst eS1; subst eS4; subst eS9; subst eS12; first | with_reducible rfl | (simp [rNum, rNumL, rAdv, bI, c_27, c_27_5, c_27_10, c_72_11]; done) | (simp_all [rNum, rNumL, rAdv, bI]; done) | rfl) rfl (K _ _ dX6_readNumber_91)
        · refine j_iload_n X dX6_readNumber_75 rfl rfl (q := 1) rfl ?_
          refine j_ineg X dX6_readNumber_76 rfl ?_
          refine j_goto X (tgt := 81) dX6_readNumber_77 (by decide) ?_
          refine j_iastN X (k := (2 * (rIs S)) + 1) (wm_ref (by decide)) (fun r => (fun _ => rfl) r) (by omega) (by decide) dX6_readNumber_81 rfl ?_
          refine j_name (fun S13 eS13 => ?_)
          refine j_iload_n X dX6_readNumber_82 rfl rfl (q := 0) rfl ?_
          refine j_if_le_f X dX6_readNumber_83 rfl (tgt := 90) (by decide) (by decide) ?_
          refine j_iconst X dX6_readNumber_86 rfl (v := 1) (by decide) ?_
          refine j_goto X (tgt := 91) dX6_readNumber_87 (by decide) ?_
          exact j_ret (by subst eS1; subst eS4; subst eS9; subst eS13; first | with_reducible rfl | (simp [rNum, rNumL, rAdv, bI, c_27, c_27_5, c_27_10, c_72_11]; done) | (simp_all [rNum, rNumL, rAdv, bI]; done) | rfl) (by subst eS1; subst eS4; subst eS9; subst eS13; first | with_reducible rfl | (simp [rNum, rNumL, rAdv, bI, c_27, c_27_5, c_27_10, c_72_11]; done) | (simp_all [rNum, rNumL, rAdv, bI]; done) | rfl) rfl (K _ _ dX6_readNumber_91)
      · refine j_bipush X dX6_readNumber_30 rfl (v := 10) (by decide) ?_
        refine j_iload_n X dX6_readNumber_32 rfl rfl (q := 1) rfl ?_
        refine j_imul X dX6_readNumber_33 rfl ?_
        refine j_aload_n X dX6_readNumber_34 rfl rfl (q := 3) rfl ?_
        refine j_calli X (c_X6_here l Z S9 h hS9) (wm_ref (by decide)) ((fun _ => rfl) _) rfl lk_RX6_73 mi_X6_here ms_X6_here ini_RX6 mc_X6_here md_X6_here ⟨Nat.le_of_ble_eq_true rfl, Nat.le_of_ble_eq_true rfl⟩ ⟨Nat.le_of_ble_eq_true rfl, Nat.le_of_ble_eq_true rfl⟩ rfl (Nat.le_of_ble_eq_true rfl) (as := []) (rest := [.int ((10) * ((((10) * ((((10) * (0)) + (rHere S1)) - (48))) + (rHere S4)) - (48)))]) rfl dX6_readNumber_35 rfl ?_
        refine j_iadd X dX6_readNumber_38 rfl ?_
        refine j_bipush X dX6_readNumber_39 rfl (v := 48) (by decide) ?_
        refine j_isub X dX6_readNumber_41 rfl ?_
        refine j_istore_n X dX6_readNumber_42 rfl rfl (by decide) (Ls2 := [(3, .int ((((10) * ((((10) * ((((10) * (0)) + (rHere S1)) - (48))) + (rHere S4)) - (48))) + (rHere S9)) - (48))), (2, .int (2)), (1, .int (bI ((rTake S (45)).1))), (0, .ref (zA Z (7) (0) (0)))]) rfl ?_
        refine j_iinc X dX6_readNumber_43 rfl (q := 1) rfl (v := (3)) (by decide) (by decide) (Ls2 := [(2, .int (3)), (3, .int ((((10) * ((((10) * ((((10) * (0)) + (rHere S1)) - (48))) + (rHere S4)) - (48))) + (rHere S9)) - (48))), (1, .int (bI ((rTake S (45)).1))), (0, .ref (zA Z (7) (0) (0)))]) rfl ?_
        refine j_aload_n X dX6_readNumber_46 rfl rfl (q := 3) rfl ?_
        refine j_dup X dX6_readNumber_47 rfl rfl ?_
        refine jg_model X 10 (by decide) lk_RX6_70 rfl rfl dX6_readNumber_48 rfl ?_
        refine j_iconst X dX6_readNumber_51 rfl (v := 1) (by decide) ?_
        refine j_iadd X dX6_readNumber_52 rfl ?_
        refine jp_model X 10 (by decide) lk_RX6_70 rfl rfl rfl (vp_nar_int _) rfl rfl dX6_readNumber_53 rfl ?_
        refine j_name (fun S14 eS14 => ?_)
        have hS14 : rdOK S14 := by rw [eS14]; exact (rdK_adv hS9 (rHere_lt (rIn_ne c_27_10 (by decide)))).1
        refine j_goto X (tgt := 11) dX6_readNumber_56 (by decide) ?_
        refine j_iload_n X dX6_readNumber_11 rfl rfl (q := 0) rfl ?_
        refine j_iconst X dX6_readNumber_12 rfl (v := 3) (by decide) ?_
        refine j_icmp_ge_t X (tgt := 59) dX6_readNumber_13 (by decide) (by decide) ?_
        refine j_aload_n X dX6_readNumber_59 rfl rfl (q := 3) rfl ?_
        refine jg_model X 12 (by decide) lk_RX6_28 rfl rfl dX6_readNumber_60 rfl ?_
        refine j_iconst X dX6_readNumber_63 rfl (v := 2) (by decide) ?_
        refine j_aload_n X dX6_readNumber_64 rfl rfl (q := 3) rfl ?_
        refine jg_model X 11 (by decide) lk_RX6_77 rfl rfl dX6_readNumber_65 rfl ?_
        refine j_topeq (y := (nI (rIs S))) (by subst eS1; subst eS4; subst eS9; subst eS14; simp [setF_at, (rTake_K hr (x := 45) (by decide)).2.2.1] <;> exact hi.1) ?_
        refine j_imul X dX6_readNumber_68 rfl ?_
        refine j_topeq (y := nI (2 * (rIs S))) (pk_mul 2 (rIs S)) ?_
        refine j_iconst X dX6_readNumber_69 rfl (v := 1) (by decide) ?_
        refine j_iadd X dX6_readNumber_70 rfl ?_
        refine j_topeq (y := nI ((2 * (rIs S)) + 1)) (nI_add (2 * (rIs S)) 1) ?_
        refine j_iload_n X dX6_readNumber_71 rfl rfl (q := 2) rfl ?_
        refine j_ifb_eq X dX6_readNumber_72 rfl (tgt := 80) (by decide) (fun c_72_15 => ?_) (fun c_72_15 => ?_)
        · refine j_iload_n X dX6_readNumber_80 rfl rfl (q := 1) rfl ?_
          refine j_iastN X (k := (2 * (rIs S)) + 1) (wm_ref (by decide)) (fun r => (fun _ => rfl) r) (by omega) (by decide) dX6_readNumber_81 rfl ?_
          refine j_name (fun S16 eS16 => ?_)
          refine j_iload_n X dX6_readNumber_82 rfl rfl (q := 0) rfl ?_
          refine j_if_le_f X dX6_readNumber_83 rfl (tgt := 90) (by decide) (by decide) ?_
          refine j_iconst X dX6_readNumber_86 rfl (v := 1) (by decide) ?_
          refine j_goto X (tgt := 91) dX6_readNumber_87 (by decide) ?_
          exact j_ret (by subst eS1; subst eS4; subst eS9; subst eS14; subst eS16; first | with_reducible rfl | (simp [rNum, rNumL, rAdv, bI, c_27, c_27_5, c_27_10, c_72_15]; done) | (simp_all [rNum, rNumL, rAdv, bI]; done) | rfl) (by subst eS1; subst eS4; subst eS9; subst eS14; subst eS16; first | with_reducible rfl | (simp [rNum, rNumL, rAdv, bI, c_27, c_27_5, c_27_10, c_72_15]; done) | (simp_all [rNum, rNumL, rAdv, bI]; done) | rfl) rfl (K _ _ dX6_readNumber_91)
        · refine j_iload_n X dX6_readNumber_75 rfl rfl (q := 1) rfl ?_
          refine j_ineg X dX6_readNumber_76 rfl ?_
          refine j_goto X (tgt := 81) dX6_readNumber_77 (by decide) ?_
          refine j_iastN X (k := (2 * (rIs S)) + 1) (wm_ref (by decide)) (fun r => (fun _ => rfl) r) (by omega) (by decide) dX6_readNumber_81 rfl ?_
          refine j_name (fun S17 eS17 => ?_)
          refine j_iload_n X dX6_readNumber_82 rfl rfl (q := 0) rfl ?_
          refine j_if_le_f X dX6_readNumber_83 rfl (tgt := 90) (by decide) (by decide) ?_
          refine j_iconst X dX6_readNumber_86 rfl (v := 1) (by decide) ?_
          refine j_goto X (tgt := 91) dX6_readNumber_87 (by decide) ?_
          exact j_ret (by subst eS1; subst eS4; subst eS9; subst eS14; subst eS17; first | with_reducible rfl | (simp [rNum, rNumL, rAdv, bI, c_27, c_27_5, c_27_10, c_72_15]; done) | (simp_all [rNum, rNumL, rAdv, bI]; done) | rfl) (by subst eS1; subst eS4; subst eS9; subst eS14; subst eS17; first | with_reducible rfl | (simp [rNum, rNumL, rAdv, bI, c_27, c_27_5, c_27_10, c_72_15]; done) | (simp_all [rNum, rNumL, rAdv, bI]; done) | rfl) rfl (K _ _ dX6_readNumber_91)
set_option maxRecDepth 100000 in
set_option maxHeartbeats 4000000 in
theorem c_X6_readInstruction (l : Launch) (Z : wZ) (S : St) (h : Hl) (hr : rdOK S) (hi : okI (S 7 0 0 11) 30) : Ci l yX6_readInstruction cX6_readInstruction 4 .boolean 3 65 Z [.ref (zA Z (7) (0) (0))] S h (bI (rIns S).1) ((rIns S).2) (h) := by
  have hi2 : rIs S ≤ 30 := hi.2
  refine Ci.of rfl (bI_nar _) (Nat.le_of_ble_eq_true rfl) (fun p e s mi args below meth c A0 Q X K => ?_)
  refine j_at rfl rfl (Ls3 := [(0, .ref (zA Z (7) (0) (0)))]) rfl rfl ?_
  refine j_aload_n X dX6_readInstruction_0 rfl rfl (q := 0) rfl ?_
  refine j_calli X (c_X6_here l Z S h hr) (wm_ref (by decide)) ((fun _ => rfl) _) rfl lk_RX6_73 mi_X6_here ms_X6_here ini_RX6 mc_X6_here md_X6_here ⟨Nat.le_of_ble_eq_true rfl, Nat.le_of_ble_eq_true rfl⟩ ⟨Nat.le_of_ble_eq_true rfl, Nat.le_of_ble_eq_true rfl⟩ rfl (Nat.le_of_ble_eq_true rfl) (as := []) (rest := []) rfl dX6_readInstruction_1 rfl ?_
  refine j_istore_n X dX6_readInstruction_4 rfl rfl (by decide) (Ls2 := [(1, .int (rHere S)), (0, .ref (zA Z (7) (0) (0)))]) rfl ?_
  refine j_iload_n X dX6_readInstruction_5 rfl rfl (q := 0) rfl ?_
  refine j_bipush X dX6_readInstruction_6 rfl (v := 98) (by decide) ?_
  refine j_icmp_eq X dX6_readInstruction_8 rfl (tgt := 35) (by decide) (fun c_8 => ?_) (fun c_8 => ?_)
  · refine j_iconst X dX6_readInstruction_35 rfl (v := 1) (by decide) ?_
    refine j_goto X (tgt := 40) dX6_readInstruction_36 (by decide) ?_
    refine j_istore_n X dX6_readInstruction_40 rfl rfl (by decide) (Ls2 := [(2, .int (1)), (1, .int (rHere S)), (0, .ref (zA Z (7) (0) (0)))]) rfl ?_
    refine j_aload_n X dX6_readInstruction_41 rfl rfl (q := 2) rfl ?_
    refine jg_model X 11 (by decide) lk_RX6_77 rfl rfl dX6_readInstruction_42 rfl ?_
    refine j_topeq (y := (nI (rIs S))) (hi.1) ?_
    refine j_bipush X dX6_readInstruction_45 rfl (v := 30) (by decide) ?_
    refine j_icmpN_eq X (a := rIs S) (b := 30) (by omega) (by omega) dX6_readInstruction_47 rfl (tgt := 54) (by decide) (fun c_47 => ?_) (fun c_47 => ?_)
    · refine j_iconst X dX6_readInstruction_54 rfl (v := 0) (by decide) ?_
      exact j_ret (by first | with_reducible rfl | (simp [rIns, rInsB, rInsC, rInsA, rAdv, rKnown, bI, c_8, c_47]; done) | (simp_all [rIns, rInsB, rInsC, rInsA, rAdv, rKnown, bI]; done) | rfl) (by first | with_reducible rfl | (simp [rIns, rInsB, rInsC, rInsA, rAdv, rKnown, bI, c_8, c_47]; done) | (simp_all [rIns, rInsB, rInsC, rInsA, rAdv, rKnown, bI]; done) | rfl) rfl (K _ _ dX6_readInstruction_55)
    · refine j_iload_n X dX6_readInstruction_50 rfl rfl (q := 0) rfl ?_
      refine j_if_ne_t X (tgt := 56) dX6_readInstruction_51 (by decide) (by decide) ?_
      refine j_aload_n X dX6_readInstruction_56 rfl rfl (q := 2) rfl ?_
      refine j_dup X dX6_readInstruction_57 rfl rfl ?_
      refine jg_model X 10 (by decide) lk_RX6_70 rfl rfl dX6_readInstruction_58 rfl ?_
      refine j_iconst X dX6_readInstruction_61 rfl (v := 1) (by decide) ?_
      refine j_iadd X dX6_readInstruction_62 rfl ?_
      refine jp_model X 10 (by decide) lk_RX6_70 rfl rfl rfl (vp_nar_int _) rfl rfl dX6_readInstruction_63 rfl ?_
      refine j_name (fun S1 eS1 => ?_)
      refine j_aload_n X dX6_readInstruction_66 rfl rfl (q := 2) rfl ?_
      refine jg_model X 12 (by decide) lk_RX6_28 rfl rfl dX6_readInstruction_67 rfl ?_
      refine j_iconst X dX6_readInstruction_70 rfl (v := 2) (by decide) ?_
      refine j_aload_n X dX6_readInstruction_71 rfl rfl (q := 2) rfl ?_
      refine jg_model X 11 (by decide) lk_RX6_77 rfl rfl dX6_readInstruction_72 rfl ?_
      refine j_topeq (y := (nI (rIs S))) (by subst eS1; simp [setF_at] <;> exact hi.1) ?_
      refine j_imul X dX6_readInstruction_75 rfl ?_
      refine j_topeq (y := nI (2 * (rIs S))) (pk_mul 2 (rIs S)) ?_
      refine j_iload_n X dX6_readInstruction_76 rfl rfl (q := 1) rfl ?_
      refine j_iastN X (k := 2 * (rIs S)) (wm_ref (by decide)) (fun r => (fun _ => rfl) r) (by omega) (by decide) dX6_readInstruction_77 rfl ?_
      refine j_name (fun S2 eS2 => ?_)
      refine j_aload_n X dX6_readInstruction_78 rfl rfl (q := 2) rfl ?_
      refine jg_model X 12 (by decide) lk_RX6_28 rfl rfl dX6_readInstruction_79 rfl ?_
      refine j_iconst X dX6_readInstruction_82 rfl (v := 2) (by decide) ?_
      refine j_aload_n X dX6_readInstruction_83 rfl rfl (q := 2) rfl ?_
      refine jg_model X 11 (by decide) lk_RX6_77 rfl rfl dX6_readInstruction_84 rfl ?_
      refine j_topeq (y := (nI (rIs S))) (by subst eS1; subst eS2; simp [setF_at] <;> exact hi.1) ?_
      refine j_imul X dX6_readInstruction_87 rfl ?_
      refine j_topeq (y := nI (2 * (rIs S))) (pk_mul 2 (rIs S)) ?_
      refine j_iconst X dX6_readInstruction_88 rfl (v := 1) (by decide) ?_
      refine j_iadd X dX6_readInstruction_89 rfl ?_
      refine j_topeq (y := nI ((2 * (rIs S)) + 1)) (nI_add (2 * (rIs S)) 1) ?_
      refine j_iconst X dX6_readInstruction_90 rfl (v := 0) (by decide) ?_
      refine j_iastN X (k := (2 * (rIs S)) + 1) (wm_ref (by decide)) (fun r => (fun _ => rfl) r) (by omega) (by decide) dX6_readInstruction_91 rfl ?_
      refine j_name (fun S3 eS3 => ?_)
      have hlt : rRd S < rTL S := rHere_lt (by rw [c_8]; decide)
      have hA : rdOK S3 := by subst eS1; subst eS2; subst eS3; exact (rInsA_K hr hlt).1
      have hiA : okI (S3 7 0 0 11) 29 := by subst eS1; subst eS2; subst eS3; show okI (rInsA S 7 0 0 11) 29; rw [(rInsA_K hr hlt).2.2.1]; exact ⟨hi.1, by show rIs S ≤ 29; omega⟩
      refine j_iload_n X dX6_readInstruction_92 rfl rfl (q := 1) rfl ?_
      refine j_bipush X dX6_readInstruction_93 rfl (v := 98) (by decide) ?_
      refine j_icmp_eq_t X (tgt := 127) dX6_readInstruction_95 (by decide) c_8 ?_
      refine j_iconst X dX6_readInstruction_127 rfl (v := 1) (by decide) ?_
      refine j_goto X (tgt := 132) dX6_readInstruction_128 (by decide) ?_
      refine j_istore_n X dX6_readInstruction_132 rfl rfl (by decide) (Ls2 := [(3, .int (1)), (2, .int (1)), (1, .int (rHere S)), (0, .ref (zA Z (7) (0) (0)))]) rfl ?_
      refine j_iload_n X dX6_readInstruction_133 rfl rfl (q := 0) rfl ?_
      refine j_if_eq_f X dX6_readInstruction_134 rfl (tgt := 146) (by decide) (by decide) ?_
      refine j_aload_n X dX6_readInstruction_137 rfl rfl (q := 3) rfl ?_
      refine j_bipush X dX6_readInstruction_138 rfl (v := 59) (by decide) ?_
      refine j_calli X (c_X6_takes l Z S3 h hA (59)) (wm_ref (by decide)) ((fun _ => rfl) _) rfl lk_RX6_80 mi_X6_takes ms_X6_takes ini_RX6 mc_X6_takes md_X6_takes ⟨Nat.le_of_ble_eq_true rfl, Nat.le_of_ble_eq_true rfl⟩ ⟨Nat.le_of_ble_eq_true rfl, Nat.le_of_ble_eq_true rfl⟩ rfl (Nat.le_of_ble_eq_true rfl) (as := [.int (59)]) (rest := []) rfl dX6_readInstruction_140 rfl ?_
      refine j_name (fun S4 eS4 => ?_)
      refine j_ifb_ne X dX6_readInstruction_143 rfl (tgt := 148) (by decide) (fun c_143 => ?_) (fun c_143 => ?_)
      · refine j_aload_n X dX6_readInstruction_148 rfl rfl (q := 3) rfl ?_
        refine j_dup X dX6_readInstruction_149 rfl rfl ?_
        refine jg_model X 11 (by decide) lk_RX6_77 rfl rfl dX6_readInstruction_150 rfl ?_
        refine j_iconst X dX6_readInstruction_153 rfl (v := 1) (by decide) ?_
        refine j_iadd X dX6_readInstruction_154 rfl ?_
        refine jp_model X 11 (by decide) lk_RX6_77 rfl rfl rfl (vp_nar_int _) rfl rfl dX6_readInstruction_155 rfl ?_
        refine j_name (fun S5 eS5 => ?_)
        refine j_iconst X dX6_readInstruction_158 rfl (v := 1) (by decide) ?_
        exact j_ret (by subst eS1; subst eS2; subst eS3; subst eS4; subst eS5; first | with_reducible rfl | (simp [rIns, rInsB, rInsC, rInsA, rAdv, rKnown, bI, c_8, c_47, c_143]; done) | (simp_all [rIns, rInsB, rInsC, rInsA, rAdv, rKnown, bI]; done) | rfl) (by subst eS1; subst eS2; subst eS3; subst eS4; subst eS5; first | with_reducible rfl | (simp [rIns, rInsB, rInsC, rInsA, rAdv, rKnown, bI, c_8, c_47, c_143]; done) | (simp_all [rIns, rInsB, rInsC, rInsA, rAdv, rKnown, bI]; done) | rfl) rfl (K _ _ dX6_readInstruction_159)
      · refine j_iconst X dX6_readInstruction_146 rfl (v := 0) (by decide) ?_
        exact j_ret (by subst eS1; subst eS2; subst eS3; subst eS4; first | with_reducible rfl | (simp [rIns, rInsB, rInsC, rInsA, rAdv, rKnown, bI, c_8, c_47, c_143]; done) | (simp_all [rIns, rInsB, rInsC, rInsA, rAdv, rKnown, bI]; done) | rfl) (by subst eS1; subst eS2; subst eS3; subst eS4; first | with_reducible rfl | (simp [rIns, rInsB, rInsC, rInsA, rAdv, rKnown, bI, c_8, c_47, c_143]; done) | (simp_all [rIns, rInsB, rInsC, rInsA, rAdv, rKnown, bI]; done) | rfl) rfl (K _ _ dX6_readInstruction_147)
  · refine j_iload_n X dX6_readInstruction_11 rfl rfl (q := 0) rfl ?_
    refine j_bipush X dX6_readInstruction_12 rfl (v := 99) (by decide) ?_
    refine j_icmp_eq X dX6_readInstruction_14 rfl (tgt := 35) (by decide) (fun c_14 => ?_) (fun c_14 => ?_)
    · refine j_iconst X dX6_readInstruction_35 rfl (v := 1) (by decide) ?_
      refine j_goto X (tgt := 40) dX6_readInstruction_36 (by decide) ?_
      refine j_istore_n X dX6_readInstruction_40 rfl rfl (by decide) (Ls2 := [(2, .int (1)), (1, .int (rHere S)), (0, .ref (zA Z (7) (0) (0)))]) rfl ?_
      refine j_aload_n X dX6_readInstruction_41 rfl rfl (q := 2) rfl ?_
      refine jg_model X 11 (by decide) lk_RX6_77 rfl rfl dX6_readInstruction_42 rfl ?_
      refine j_topeq (y := (nI (rIs S))) (hi.1) ?_
      refine j_bipush X dX6_readInstruction_45 rfl (v := 30) (by decide) ?_
      refine j_icmpN_eq X (a := rIs S) (b := 30) (by omega) (by omega) dX6_readInstruction_47 rfl (tgt := 54) (by decide) (fun c_47_6 => ?_) (fun c_47_6 => ?_)
      · refine j_iconst X dX6_readInstruction_54 rfl (v := 0) (by decide) ?_
        exact j_ret (by first | with_reducible rfl | (simp [rIns, rInsB, rInsC, rInsA, rAdv, rKnown, bI, c_8, c_14, c_47_6]; done) | (simp_all [rIns, rInsB, rInsC, rInsA, rAdv, rKnown, bI]; done) | rfl) (by first | with_reducible rfl | (simp [rIns, rInsB, rInsC, rInsA, rAdv, rKnown, bI, c_8, c_14, c_47_6]; done) | (simp_all [rIns, rInsB, rInsC, rInsA, rAdv, rKnown, bI]; done) | rfl) rfl (K _ _ dX6_readInstruction_55)
      · refine j_iload_n X dX6_readInstruction_50 rfl rfl (q := 0) rfl ?_
        refine j_if_ne_t X (tgt := 56) dX6_readInstruction_51 (by decide) (by decide) ?_
        refine j_aload_n X dX6_readInstruction_56 rfl rfl (q := 2) rfl ?_
        refine j_dup X dX6_readInstruction_57 rfl rfl ?_
        refine jg_model X 10 (by decide) lk_RX6_70 rfl rfl dX6_readInstruction_58 rfl ?_
        refine j_iconst X dX6_readInstruction_61 rfl (v := 1) (by decide) ?_
        refine j_iadd X dX6_readInstruction_62 rfl ?_
        refine jp_model X 10 (by decide) lk_RX6_70 rfl rfl rfl (vp_nar_int _) rfl rfl dX6_readInstruction_63 rfl ?_
        refine j_name (fun S7 eS7 => ?_)
        refine j_aload_n X dX6_readInstruction_66 rfl rfl (q := 2) rfl ?_
        refine jg_model X 12 (by decide) lk_RX6_28 rfl rfl dX6_readInstruction_67 rfl ?_
        refine j_iconst X dX6_readInstruction_70 rfl (v := 2) (by decide) ?_
        refine j_aload_n X dX6_readInstruction_71 rfl rfl (q := 2) rfl ?_
        refine jg_model X 11 (by decide) lk_RX6_77 rfl rfl dX6_readInstruction_72 rfl ?_
        refine j_topeq (y := (nI (rIs S))) (by subst eS7; simp [setF_at] <;> exact hi.1) ?_
        refine j_imul X dX6_readInstruction_75 rfl ?_
        refine j_topeq (y := nI (2 * (rIs S))) (pk_mul 2 (rIs S)) ?_
        refine j_iload_n X dX6_readInstruction_76 rfl rfl (q := 1) rfl ?_
        refine j_iastN X (k := 2 * (rIs S)) (wm_ref (by decide)) (fun r => (fun _ => rfl) r) (by omega) (by decide) dX6_readInstruction_77 rfl ?_
        refine j_name (fun S8 eS8 => ?_)
        refine j_aload_n X dX6_readInstruction_78 rfl rfl (q := 2) rfl ?_
        refine jg_model X 12 (by decide) lk_RX6_28 rfl rfl dX6_readInstruction_79 rfl ?_
        refine j_iconst X dX6_readInstruction_82 rfl (v := 2) (by decide) ?_
        refine j_aload_n X dX6_readInstruction_83 rfl rfl (q := 2) rfl ?_
        refine jg_model X 11 (by decide) lk_RX6_77 rfl rfl dX6_readInstruction_84 rfl ?_
        refine j_topeq (y := (nI (rIs S))) (by subst eS7; subst eS8; simp [setF_at] <;> exact hi.1) ?_
        refine j_imul X dX6_readInstruction_87 rfl ?_
        refine j_topeq (y := nI (2 * (rIs S))) (pk_mul 2 (rIs S)) ?_
        refine j_iconst X dX6_readInstruction_88 rfl (v := 1) (by decide) ?_
        refine j_iadd X dX6_readInstruction_89 rfl ?_
        refine j_topeq (y := nI ((2 * (rIs S)) + 1)) (nI_add (2 * (rIs S)) 1) ?_
        refine j_iconst X dX6_readInstruction_90 rfl (v := 0) (by decide) ?_
        refine j_iastN X (k := (2 * (rIs S)) + 1) (wm_ref (by decide)) (fun r => (fun _ => rfl) r) (by omega) (by decide) dX6_readInstruction_91 rfl ?_
        refine j_name (fun S9 eS9 => ?_)
        have hlt : rRd S < rTL S := rHere_lt (by rw [c_14]; decide)
        have hA : rdOK S9 := by subst eS7; subst eS8; subst eS9; exact (rInsA_K hr hlt).1
        have hiA : okI (S9 7 0 0 11) 29 := by subst eS7; subst eS8; subst eS9; show okI (rInsA S 7 0 0 11) 29; rw [(rInsA_K hr hlt).2.2.1]; exact ⟨hi.1, by show rIs S ≤ 29; omega⟩
        refine j_iload_n X dX6_readInstruction_92 rfl rfl (q := 1) rfl ?_
        refine j_bipush X dX6_readInstruction_93 rfl (v := 98) (by decide) ?_
        refine j_icmp_eq_f X dX6_readInstruction_95 rfl (tgt := 127) (by decide) c_8 ?_
        refine j_iload_n X dX6_readInstruction_98 rfl rfl (q := 1) rfl ?_
        refine j_bipush X dX6_readInstruction_99 rfl (v := 99) (by decide) ?_
        refine j_icmp_eq_t X (tgt := 127) dX6_readInstruction_101 (by decide) c_14 ?_
        refine j_iconst X dX6_readInstruction_127 rfl (v := 1) (by decide) ?_
        refine j_goto X (tgt := 132) dX6_readInstruction_128 (by decide) ?_
        refine j_istore_n X dX6_readInstruction_132 rfl rfl (by decide) (Ls2 := [(3, .int (1)), (2, .int (1)), (1, .int (rHere S)), (0, .ref (zA Z (7) (0) (0)))]) rfl ?_
        refine j_iload_n X dX6_readInstruction_133 rfl rfl (q := 0) rfl ?_
        refine j_if_eq_f X dX6_readInstruction_134 rfl (tgt := 146) (by decide) (by decide) ?_
        refine j_aload_n X dX6_readInstruction_137 rfl rfl (q := 3) rfl ?_
        refine j_bipush X dX6_readInstruction_138 rfl (v := 59) (by decide) ?_
        refine j_calli X (c_X6_takes l Z S9 h hA (59)) (wm_ref (by decide)) ((fun _ => rfl) _) rfl lk_RX6_80 mi_X6_takes ms_X6_takes ini_RX6 mc_X6_takes md_X6_takes ⟨Nat.le_of_ble_eq_true rfl, Nat.le_of_ble_eq_true rfl⟩ ⟨Nat.le_of_ble_eq_true rfl, Nat.le_of_ble_eq_true rfl⟩ rfl (Nat.le_of_ble_eq_true rfl) (as := [.int (59)]) (rest := []) rfl dX6_readInstruction_140 rfl ?_
        refine j_name (fun S10 eS10 => ?_)
        refine j_ifb_ne X dX6_readInstruction_143 rfl (tgt := 148) (by decide) (fun c_143_11 => ?_) (fun c_143_11 => ?_)
        · refine j_aload_n X dX6_readInstruction_148 rfl rfl (q := 3) rfl ?_
          refine j_dup X dX6_readInstruction_149 rfl rfl ?_
          refine jg_model X 11 (by decide) lk_RX6_77 rfl rfl dX6_readInstruction_150 rfl ?_
          refine j_iconst X dX6_readInstruction_153 rfl (v := 1) (by decide) ?_
          refine j_iadd X dX6_readInstruction_154 rfl ?_
          refine jp_model X 11 (by decide) lk_RX6_77 rfl rfl rfl (vp_nar_int _) rfl rfl dX6_readInstruction_155 rfl ?_
          refine j_name (fun S12 eS12 => ?_)
          refine j_iconst X dX6_readInstruction_158 rfl (v := 1) (by decide) ?_
          exact j_ret (by subst eS7; subst eS8; subst eS9; subst eS10; subst eS12; first | with_reducible rfl | (simp [rIns, rInsB, rInsC, rInsA, rAdv, rKnown, bI, c_8, c_14, c_47_6, c_143_11]; done) | (simp_all [rIns, rInsB, rInsC, rInsA, rAdv, rKnown, bI]; done) | rfl) (by subst eS7; subst eS8; subst eS9; subst eS10; subst eS12; first | with_reducible rfl | (simp [rIns, rInsB, rInsC, rInsA, rAdv, rKnown, bI, c_8, c_14, c_47_6, c_143_11]; done) | (simp_all [rIns, rInsB, rInsC, rInsA, rAdv, rKnown, bI]; done) | rfl) rfl (K _ _ dX6_readInstruction_159)
        · refine j_iconst X dX6_readInstruction_146 rfl (v := 0) (by decide) ?_
          exact j_ret (by subst eS7; subst eS8; subst eS9; subst eS10; first | with_reducible rfl | (simp [rIns, rInsB, rInsC, rInsA, rAdv, rKnown, bI, c_8, c_14, c_47_6, c_143_11]; done) | (simp_all [rIns, rInsB, rInsC, rInsA, rAdv, rKnown, bI]; done) | rfl) (by subst eS7; subst eS8; subst eS9; subst eS10; first | with_reducible rfl | (simp [rIns, rInsB, rInsC, rInsA, rAdv, rKnown, bI, c_8, c_14, c_47_6, c_143_11]; done) | (simp_all [rIns, rInsB, rInsC, rInsA, rAdv, rKnown, bI]; done) | rfl) rfl (K _ _ dX6_readInstruction_147)
    · refine j_iload_n X dX6_readInstruction_17 rfl rfl (q := 0) rfl ?_
      refine j_bipush X dX6_readInstruction_18 rfl (v := 114) (by decide) ?_
      refine j_icmp_eq X dX6_readInstruction_20 rfl (tgt := 35) (by decide) (fun c_20 => ?_) (fun c_20 => ?_)
      · refine j_iconst X dX6_readInstruction_35 rfl (v := 1) (by decide) ?_
        refine j_goto X (tgt := 40) dX6_readInstruction_36 (by decide) ?_
        refine j_istore_n X dX6_readInstruction_40 rfl rfl (by decide) (Ls2 := [(2, .int (1)), (1, .int (rHere S)), (0, .ref (zA Z (7) (0) (0)))]) rfl ?_
        refine j_aload_n X dX6_readInstruction_41 rfl rfl (q := 2) rfl ?_
        refine jg_model X 11 (by decide) lk_RX6_77 rfl rfl dX6_readInstruction_42 rfl ?_
        refine j_topeq (y := (nI (rIs S))) (hi.1) ?_
        refine j_bipush X dX6_readInstruction_45 rfl (v := 30) (by decide) ?_
        refine j_icmpN_eq X (a := rIs S) (b := 30) (by omega) (by omega) dX6_readInstruction_47 rfl (tgt := 54) (by decide) (fun c_47_13 => ?_) (fun c_47_13 => ?_)
        · refine j_iconst X dX6_readInstruction_54 rfl (v := 0) (by decide) ?_
          exact j_ret (by first | with_reducible rfl | (simp [rIns, rInsB, rInsC, rInsA, rAdv, rKnown, bI, c_8, c_14, c_20, c_47_13]; done) | (simp_all [rIns, rInsB, rInsC, rInsA, rAdv, rKnown, bI]; done) | rfl) (by first | with_reducible rfl | (simp [rIns, rInsB, rInsC, rInsA, rAdv, rKnown, bI, c_8, c_14, c_20, c_47_13]; done) | (simp_all [rIns, rInsB, rInsC, rInsA, rAdv, rKnown, bI]; done) | rfl) rfl (K _ _ dX6_readInstruction_55)
        · refine j_iload_n X dX6_readInstruction_50 rfl rfl (q := 0) rfl ?_
          refine j_if_ne_t X (tgt := 56) dX6_readInstruction_51 (by decide) (by decide) ?_
          refine j_aload_n X dX6_readInstruction_56 rfl rfl (q := 2) rfl ?_
          refine j_dup X dX6_readInstruction_57 rfl rfl ?_
          refine jg_model X 10 (by decide) lk_RX6_70 rfl rfl dX6_readInstruction_58 rfl ?_
          refine j_iconst X dX6_readInstruction_61 rfl (v := 1) (by decide) ?_
          refine j_iadd X dX6_readInstruction_62 rfl ?_
          refine jp_model X 10 (by decide) lk_RX6_70 rfl rfl rfl (vp_nar_int _) rfl rfl dX6_readInstruction_63 rfl ?_
          refine j_name (fun S14 eS14 => ?_)
          refine j_aload_n X dX6_readInstruction_66 rfl rfl (q := 2) rfl ?_
          refine jg_model X 12 (by decide) lk_RX6_28 rfl rfl dX6_readInstruction_67 rfl ?_
          refine j_iconst X dX6_readInstruction_70 rfl (v := 2) (by decide) ?_
          refine j_aload_n X dX6_readInstruction_71 rfl rfl (q := 2) rfl ?_
          refine jg_model X 11 (by decide) lk_RX6_77 rfl rfl dX6_readInstruction_72 rfl ?_
          refine j_topeq (y := (nI (rIs S))) (by subst eS14; simp [setF_at] <;> exact hi.1) ?_
          refine j_imul X dX6_readInstruction_75 rfl ?_
          refine j_topeq (y := nI (2 * (rIs S))) (pk_mul 2 (rIs S)) ?_
          refine j_iload_n X dX6_readInstruction_76 rfl rfl (q := 1) rfl ?_
          refine j_iastN X (k := 2 * (rIs S)) (wm_ref (by decide)) (fun r => (fun _ => rfl) r) (by omega) (by decide) dX6_readInstruction_77 rfl ?_
          refine j_name (fun S15 eS15 => ?_)
          refine j_aload_n X dX6_readInstruction_78 rfl rfl (q := 2) rfl ?_
          refine jg_model X 12 (by decide) lk_RX6_28 rfl rfl dX6_readInstruction_79 rfl ?_
          refine j_iconst X dX6_readInstruction_82 rfl (v := 2) (by decide) ?_
          refine j_aload_n X dX6_readInstruction_83 rfl rfl (q := 2) rfl ?_
          refine jg_model X 11 (by decide) lk_RX6_77 rfl rfl dX6_readInstruction_84 rfl ?_
          refine j_topeq (y := (nI (rIs S))) (by subst eS14; subst eS15; simp [setF_at] <;> exact hi.1) ?_
          refine j_imul X dX6_readInstruction_87 rfl ?_
          refine j_topeq (y := nI (2 * (rIs S))) (pk_mul 2 (rIs S)) ?_
          refine j_iconst X dX6_readInstruction_88 rfl (v := 1) (by decide) ?_
          refine j_iadd X dX6_readInstruction_89 rfl ?_
          refine j_topeq (y := nI ((2 * (rIs S)) + 1)) (nI_add (2 * (rIs S)) 1) ?_
          refine j_iconst X dX6_readInstruction_90 rfl (v := 0) (by decide) ?_
          refine j_iastN X (k := (2 * (rIs S)) + 1) (wm_ref (by decide)) (fun r => (fun _ => rfl) r) (by omega) (by decide) dX6_readInstruction_91 rfl ?_
          refine j_name (fun S16 eS16 => ?_)
          have hlt : rRd S < rTL S := rHere_lt (by rw [c_20]; decide)
          have hA : rdOK S16 := by subst eS14; subst eS15; subst eS16; exact (rInsA_K hr hlt).1
          have hiA : okI (S16 7 0 0 11) 29 := by subst eS14; subst eS15; subst eS16; show okI (rInsA S 7 0 0 11) 29; rw [(rInsA_K hr hlt).2.2.1]; exact ⟨hi.1, by show rIs S ≤ 29; omega⟩
          refine j_iload_n X dX6_readInstruction_92 rfl rfl (q := 1) rfl ?_
          refine j_bipush X dX6_readInstruction_93 rfl (v := 98) (by decide) ?_
          refine j_icmp_eq_f X dX6_readInstruction_95 rfl (tgt := 127) (by decide) c_8 ?_
          refine j_iload_n X dX6_readInstruction_98 rfl rfl (q := 1) rfl ?_
          refine j_bipush X dX6_readInstruction_99 rfl (v := 99) (by decide) ?_
          refine j_icmp_eq_f X dX6_readInstruction_101 rfl (tgt := 127) (by decide) c_14 ?_
          refine j_iload_n X dX6_readInstruction_104 rfl rfl (q := 1) rfl ?_
          refine j_bipush X dX6_readInstruction_105 rfl (v := 97) (by decide) ?_
          refine j_icmp_ne_t X (tgt := 120) dX6_readInstruction_107 (by decide) (by rw [c_20]; decide) ?_
          refine j_aload_n X dX6_readInstruction_120 rfl rfl (q := 2) rfl ?_
          refine j_calli X (c_X6_readLine l Z S16 h hA hiA) (wm_ref (by decide)) ((fun _ => rfl) _) rfl lk_RX6_88 mi_X6_readLine ms_X6_readLine ini_RX6 mc_X6_readLine md_X6_readLine ⟨Nat.le_of_ble_eq_true rfl, Nat.le_of_ble_eq_true rfl⟩ ⟨Nat.le_of_ble_eq_true rfl, Nat.le_of_ble_eq_true rfl⟩ rfl (Nat.le_of_ble_eq_true rfl) (as := []) (rest := []) rfl dX6_readInstruction_121 rfl ?_
          refine j_name (fun S17 eS17 => ?_)
          refine j_ifb_eq X dX6_readInstruction_124 rfl (tgt := 131) (by decide) (fun c_124 => ?_) (fun c_124 => ?_)
          · refine j_iconst X dX6_readInstruction_131 rfl (v := 0) (by decide) ?_
            refine j_istore_n X dX6_readInstruction_132 rfl rfl (by decide) (Ls2 := [(3, .int (0)), (2, .int (1)), (1, .int (rHere S)), (0, .ref (zA Z (7) (0) (0)))]) rfl ?_
            refine j_iload_n X dX6_readInstruction_133 rfl rfl (q := 0) rfl ?_
            refine j_if_eq_t X (tgt := 146) dX6_readInstruction_134 (by decide) (by decide) ?_
            refine j_iconst X dX6_readInstruction_146 rfl (v := 0) (by decide) ?_
            exact j_ret (by subst eS14; subst eS15; subst eS16; subst eS17; first | with_reducible rfl | (simp [rIns, rInsB, rInsC, rInsA, rAdv, rKnown, bI, c_8, c_14, c_20, c_47_13, c_124]; done) | (simp_all [rIns, rInsB, rInsC, rInsA, rAdv, rKnown, bI]; done) | rfl) (by subst eS14; subst eS15; subst eS16; subst eS17; first | with_reducible rfl | (simp [rIns, rInsB, rInsC, rInsA, rAdv, rKnown, bI, c_8, c_14, c_20, c_47_13, c_124]; done) | (simp_all [rIns, rInsB, rInsC, rInsA, rAdv, rKnown, bI]; done) | rfl) rfl (K _ _ dX6_readInstruction_147)
          · refine j_iconst X dX6_readInstruction_127 rfl (v := 1) (by decide) ?_
            refine j_goto X (tgt := 132) dX6_readInstruction_128 (by decide) ?_
            refine j_istore_n X dX6_readInstruction_132 rfl rfl (by decide) (Ls2 := [(3, .int (1)), (2, .int (1)), (1, .int (rHere S)), (0, .ref (zA Z (7) (0) (0)))]) rfl ?_
            refine j_iload_n X dX6_readInstruction_133 rfl rfl (q := 0) rfl ?_
            refine j_if_eq_f X dX6_readInstruction_134 rfl (tgt := 146) (by decide) (by decide) ?_
            refine j_aload_n X dX6_readInstruction_137 rfl rfl (q := 3) rfl ?_
            refine j_bipush X dX6_readInstruction_138 rfl (v := 59) (by decide) ?_
            refine j_calli X (c_X6_takes l Z S17 h (by rw [eS17]; first | exact (rNum_K hA).1 | exact (rLine_K hA).1) (59)) (wm_ref (by decide)) ((fun _ => rfl) _) rfl lk_RX6_80 mi_X6_takes ms_X6_takes ini_RX6 mc_X6_takes md_X6_takes ⟨Nat.le_of_ble_eq_true rfl, Nat.le_of_ble_eq_true rfl⟩ ⟨Nat.le_of_ble_eq_true rfl, Nat.le_of_ble_eq_true rfl⟩ rfl (Nat.le_of_ble_eq_true rfl) (as := [.int (59)]) (rest := []) rfl dX6_readInstruction_140 rfl ?_
            refine j_name (fun S18 eS18 => ?_)
            refine j_ifb_ne X dX6_readInstruction_143 rfl (tgt := 148) (by decide) (fun c_143_19 => ?_) (fun c_143_19 => ?_)
            · refine j_aload_n X dX6_readInstruction_148 rfl rfl (q := 3) rfl ?_
              refine j_dup X dX6_readInstruction_149 rfl rfl ?_
              refine jg_model X 11 (by decide) lk_RX6_77 rfl rfl dX6_readInstruction_150 rfl ?_
              refine j_iconst X dX6_readInstruction_153 rfl (v := 1) (by decide) ?_
              refine j_iadd X dX6_readInstruction_154 rfl ?_
              refine jp_model X 11 (by decide) lk_RX6_77 rfl rfl rfl (vp_nar_int _) rfl rfl dX6_readInstruction_155 rfl ?_
              refine j_name (fun S20 eS20 => ?_)
              refine j_iconst X dX6_readInstruction_158 rfl (v := 1) (by decide) ?_
              exact j_ret (by subst eS14; subst eS15; subst eS16; subst eS17; subst eS18; subst eS20; first | with_reducible rfl | (simp [rIns, rInsB, rInsC, rInsA, rAdv, rKnown, bI, c_8, c_14, c_20, c_47_13, c_124, c_143_19]; done) | (simp_all [rIns, rInsB, rInsC, rInsA, rAdv, rKnown, bI]; done) | rfl) (by subst eS14; subst eS15; subst eS16; subst eS17; subst eS18; subst eS20; first | with_reducible rfl | (simp [rIns, rInsB, rInsC, rInsA, rAdv, rKnown, bI, c_8, c_14, c_20, c_47_13, c_124, c_143_19]; done) | (simp_all [rIns, rInsB, rInsC, rInsA, rAdv, rKnown, bI]; done) | rfl) rfl (K _ _ dX6_readInstruction_159)
            · refine j_iconst X dX6_readInstruction_146 rfl (v := 0) (by decide) ?_
              exact j_ret (by subst eS14; subst eS15; subst eS16; subst eS17; subst eS18; first | with_reducible rfl | (simp [rIns, rInsB, rInsC, rInsA, rAdv, rKnown, bI, c_8, c_14, c_20, c_47_13, c_124, c_143_19]; done) | (simp_all [rIns, rInsB, rInsC, rInsA, rAdv, rKnown, bI]; done) | rfl) (by subst eS14; subst eS15; subst eS16; subst eS17; subst eS18; first | with_reducible rfl | (simp [rIns, rInsB, rInsC, rInsA, rAdv, rKnown, bI, c_8, c_14, c_20, c_47_13, c_124, c_143_19]; done) | (simp_all [rIns, rInsB, rInsC, rInsA, rAdv, rKnown, bI]; done) | rfl) rfl (K _ _ dX6_readInstruction_147)
      · refine j_iload_n X dX6_readInstruction_23 rfl rfl (q := 0) rfl ?_
        refine j_bipush X dX6_readInstruction_24 rfl (v := 119) (by decide) ?_
        refine j_icmp_eq X dX6_readInstruction_26 rfl (tgt := 35) (by decide) (fun c_26 => ?_) (fun c_26 => ?_)
        · refine j_iconst X dX6_readInstruction_35 rfl (v := 1) (by decide) ?_
          refine j_goto X (tgt := 40) dX6_readInstruction_36 (by decide) ?_
          refine j_istore_n X dX6_readInstruction_40 rfl rfl (by decide) (Ls2 := [(2, .int (1)), (1, .int (rHere S)), (0, .ref (zA Z (7) (0) (0)))]) rfl ?_
          refine j_aload_n X dX6_readInstruction_41 rfl rfl (q := 2) rfl ?_
          refine jg_model X 11 (by decide) lk_RX6_77 rfl rfl dX6_readInstruction_42 rfl ?_
          refine j_topeq (y := (nI (rIs S))) (hi.1) ?_
          refine j_bipush X dX6_readInstruction_45 rfl (v := 30) (by decide) ?_
          refine j_icmpN_eq X (a := rIs S) (b := 30) (by omega) (by omega) dX6_readInstruction_47 rfl (tgt := 54) (by decide) (fun c_47_21 => ?_) (fun c_47_21 => ?_)
          · refine j_iconst X dX6_readInstruction_54 rfl (v := 0) (by decide) ?_
            exact j_ret (by first | with_reducible rfl | (simp [rIns, rInsB, rInsC, rInsA, rAdv, rKnown, bI, c_8, c_14, c_20, c_26, c_47_21]; done) | (simp_all [rIns, rInsB, rInsC, rInsA, rAdv, rKnown, bI]; done) | rfl) (by first | with_reducible rfl | (simp [rIns, rInsB, rInsC, rInsA, rAdv, rKnown, bI, c_8, c_14, c_20, c_26, c_47_21]; done) | (simp_all [rIns, rInsB, rInsC, rInsA, rAdv, rKnown, bI]; done) | rfl) rfl (K _ _ dX6_readInstruction_55)
          · refine j_iload_n X dX6_readInstruction_50 rfl rfl (q := 0) rfl ?_
            refine j_if_ne_t X (tgt := 56) dX6_readInstruction_51 (by decide) (by decide) ?_
            refine j_aload_n X dX6_readInstruction_56 rfl rfl (q := 2) rfl ?_
            refine j_dup X dX6_readInstruction_57 rfl rfl ?_
            refine jg_model X 10 (by decide) lk_RX6_70 rfl rfl dX6_readInstruction_58 rfl ?_
            refine j_iconst X dX6_readInstruction_61 rfl (v := 1) (by decide) ?_
            refine j_iadd X dX6_readInstruction_62 rfl ?_
            refine jp_model X 10 (by decide) lk_RX6_70 rfl rfl rfl (vp_nar_int _) rfl rfl dX6_readInstruction_63 rfl ?_
            refine j_name (fun S22 eS22 => ?_)
            refine j_aload_n X dX6_readInstruction_66 rfl rfl (q := 2) rfl ?_
            refine jg_model X 12 (by decide) lk_RX6_28 rfl rfl dX6_readInstruction_67 rfl ?_
            refine j_iconst X dX6_readInstruction_70 rfl (v := 2) (by decide) ?_
            refine j_aload_n X dX6_readInstruction_71 rfl rfl (q := 2) rfl ?_
            refine jg_model X 11 (by decide) lk_RX6_77 rfl rfl dX6_readInstruction_72 rfl ?_
            refine j_topeq (y := (nI (rIs S))) (by subst eS22; simp [setF_at] <;> exact hi.1) ?_
            refine j_imul X dX6_readInstruction_75 rfl ?_
            refine j_topeq (y := nI (2 * (rIs S))) (pk_mul 2 (rIs S)) ?_
            refine j_iload_n X dX6_readInstruction_76 rfl rfl (q := 1) rfl ?_
            refine j_iastN X (k := 2 * (rIs S)) (wm_ref (by decide)) (fun r => (fun _ => rfl) r) (by omega) (by decide) dX6_readInstruction_77 rfl ?_
            refine j_name (fun S23 eS23 => ?_)
            refine j_aload_n X dX6_readInstruction_78 rfl rfl (q := 2) rfl ?_
            refine jg_model X 12 (by decide) lk_RX6_28 rfl rfl dX6_readInstruction_79 rfl ?_
            refine j_iconst X dX6_readInstruction_82 rfl (v := 2) (by decide) ?_
            refine j_aload_n X dX6_readInstruction_83 rfl rfl (q := 2) rfl ?_
            refine jg_model X 11 (by decide) lk_RX6_77 rfl rfl dX6_readInstruction_84 rfl ?_
            refine j_topeq (y := (nI (rIs S))) (by subst eS22; subst eS23; simp [setF_at] <;> exact hi.1) ?_
            refine j_imul X dX6_readInstruction_87 rfl ?_
            refine j_topeq (y := nI (2 * (rIs S))) (pk_mul 2 (rIs S)) ?_
            refine j_iconst X dX6_readInstruction_88 rfl (v := 1) (by decide) ?_
            refine j_iadd X dX6_readInstruction_89 rfl ?_
            refine j_topeq (y := nI ((2 * (rIs S)) + 1)) (nI_add (2 * (rIs S)) 1) ?_
            refine j_iconst X dX6_readInstruction_90 rfl (v := 0) (by decide) ?_
            refine j_iastN X (k := (2 * (rIs S)) + 1) (wm_ref (by decide)) (fun r => (fun _ => rfl) r) (by omega) (by decide) dX6_readInstruction_91 rfl ?_
            refine j_name (fun S24 eS24 => ?_)
            have hlt : rRd S < rTL S := rHere_lt (by rw [c_26]; decide)
            have hA : rdOK S24 := by subst eS22; subst eS23; subst eS24; exact (rInsA_K hr hlt).1
            have hiA : okI (S24 7 0 0 11) 29 := by subst eS22; subst eS23; subst eS24; show okI (rInsA S 7 0 0 11) 29; rw [(rInsA_K hr hlt).2.2.1]; exact ⟨hi.1, by show rIs S ≤ 29; omega⟩
            refine j_iload_n X dX6_readInstruction_92 rfl rfl (q := 1) rfl ?_
            refine j_bipush X dX6_readInstruction_93 rfl (v := 98) (by decide) ?_
            refine j_icmp_eq_f X dX6_readInstruction_95 rfl (tgt := 127) (by decide) c_8 ?_
            refine j_iload_n X dX6_readInstruction_98 rfl rfl (q := 1) rfl ?_
            refine j_bipush X dX6_readInstruction_99 rfl (v := 99) (by decide) ?_
            refine j_icmp_eq_f X dX6_readInstruction_101 rfl (tgt := 127) (by decide) c_14 ?_
            refine j_iload_n X dX6_readInstruction_104 rfl rfl (q := 1) rfl ?_
            refine j_bipush X dX6_readInstruction_105 rfl (v := 97) (by decide) ?_
            refine j_icmp_ne_t X (tgt := 120) dX6_readInstruction_107 (by decide) (by rw [c_26]; decide) ?_
            refine j_aload_n X dX6_readInstruction_120 rfl rfl (q := 2) rfl ?_
            refine j_calli X (c_X6_readLine l Z S24 h hA hiA) (wm_ref (by decide)) ((fun _ => rfl) _) rfl lk_RX6_88 mi_X6_readLine ms_X6_readLine ini_RX6 mc_X6_readLine md_X6_readLine ⟨Nat.le_of_ble_eq_true rfl, Nat.le_of_ble_eq_true rfl⟩ ⟨Nat.le_of_ble_eq_true rfl, Nat.le_of_ble_eq_true rfl⟩ rfl (Nat.le_of_ble_eq_true rfl) (as := []) (rest := []) rfl dX6_readInstruction_121 rfl ?_
            refine j_name (fun S25 eS25 => ?_)
            refine j_ifb_eq X dX6_readInstruction_124 rfl (tgt := 131) (by decide) (fun c_124_26 => ?_) (fun c_124_26 => ?_)
            · refine j_iconst X dX6_readInstruction_131 rfl (v := 0) (by decide) ?_
              refine j_istore_n X dX6_readInstruction_132 rfl rfl (by decide) (Ls2 := [(3, .int (0)), (2, .int (1)), (1, .int (rHere S)), (0, .ref (zA Z (7) (0) (0)))]) rfl ?_
              refine j_iload_n X dX6_readInstruction_133 rfl rfl (q := 0) rfl ?_
              refine j_if_eq_t X (tgt := 146) dX6_readInstruction_134 (by decide) (by decide) ?_
              refine j_iconst X dX6_readInstruction_146 rfl (v := 0) (by decide) ?_
              exact j_ret (by subst eS22; subst eS23; subst eS24; subst eS25; first | with_reducible rfl | (simp [rIns, rInsB, rInsC, rInsA, rAdv, rKnown, bI, c_8, c_14, c_20, c_26, c_47_21, c_124_26]; done) | (simp_all [rIns, rInsB, rInsC, rInsA, rAdv, rKnown, bI]; done) | rfl) (by subst eS22; subst eS23; subst eS24; subst eS25; first | with_reducible rfl | (simp [rIns, rInsB, rInsC, rInsA, rAdv, rKnown, bI, c_8, c_14, c_20, c_26, c_47_21, c_124_26]; done) | (simp_all [rIns, rInsB, rInsC, rInsA, rAdv, rKnown, bI]; done) | rfl) rfl (K _ _ dX6_readInstruction_147)
            · refine j_iconst X dX6_readInstruction_127 rfl (v := 1) (by decide) ?_
              refine j_goto X (tgt := 132) dX6_readInstruction_128 (by decide) ?_
              refine j_istore_n X dX6_readInstruction_132 rfl rfl (by decide) (Ls2 := [(3, .int (1)), (2, .int (1)), (1, .int (rHere S)), (0, .ref (zA Z (7) (0) (0)))]) rfl ?_
              refine j_iload_n X dX6_readInstruction_133 rfl rfl (q := 0) rfl ?_
              refine j_if_eq_f X dX6_readInstruction_134 rfl (tgt := 146) (by decide) (by decide) ?_
              refine j_aload_n X dX6_readInstruction_137 rfl rfl (q := 3) rfl ?_
              refine j_bipush X dX6_readInstruction_138 rfl (v := 59) (by decide) ?_
              refine j_calli X (c_X6_takes l Z S25 h (by rw [eS25]; first | exact (rNum_K hA).1 | exact (rLine_K hA).1) (59)) (wm_ref (by decide)) ((fun _ => rfl) _) rfl lk_RX6_80 mi_X6_takes ms_X6_takes ini_RX6 mc_X6_takes md_X6_takes ⟨Nat.le_of_ble_eq_true rfl, Nat.le_of_ble_eq_true rfl⟩ ⟨Nat.le_of_ble_eq_true rfl, Nat.le_of_ble_eq_true rfl⟩ rfl (Nat.le_of_ble_eq_true rfl) (as := [.int (59)]) (rest := []) rfl dX6_readInstruction_140 rfl ?_
              refine j_name (fun S27 eS27 => ?_)
              refine j_ifb_ne X dX6_readInstruction_143 rfl (tgt := 148) (by decide) (fun c_143_28 => ?_) (fun c_143_28 => ?_)
              · refine j_aload_n X dX6_readInstruction_148 rfl rfl (q := 3) rfl ?_
                refine j_dup X dX6_readInstruction_149 rfl rfl ?_
                refine jg_model X 11 (by decide) lk_RX6_77 rfl rfl dX6_readInstruction_150 rfl ?_
                refine j_iconst X dX6_readInstruction_153 rfl (v := 1) (by decide) ?_
                refine j_iadd X dX6_readInstruction_154 rfl ?_
                refine jp_model X 11 (by decide) lk_RX6_77 rfl rfl rfl (vp_nar_int _) rfl rfl dX6_readInstruction_155 rfl ?_
                refine j_name (fun S29 eS29 => ?_)
                refine j_iconst X dX6_readInstruction_158 rfl (v := 1) (by decide) ?_
                exact j_ret (by subst eS22; subst eS23; subst eS24; subst eS25; subst eS27; subst eS29; first | with_reducible rfl | (simp [rIns, rInsB, rInsC, rInsA, rAdv, rKnown, bI, c_8, c_14, c_20, c_26, c_47_21, c_124_26, c_143_28]; done) | (simp_all [rIns, rInsB, rInsC, rInsA, rAdv, rKnown, bI]; done) | rfl) (by subst eS22; subst eS23; subst eS24; subst eS25; subst eS27; subst eS29; first | with_reducible rfl | (simp [rIns, rInsB, rInsC, rInsA, rAdv, rKnown, bI, c_8, c_14, c_20, c_26, c_47_21, c_124_26, c_143_28]; done) | (simp_all [rIns, rInsB, rInsC, rInsA, rAdv, rKnown, bI]; done) | rfl) rfl (K _ _ dX6_readInstruction_159)
              · refine j_iconst X dX6_readInstruction_146 rfl (v := 0) (by decide) ?_
                exact j_ret (by subst eS22; subst eS23; subst eS24; subst eS25; subst eS27; first | with_reducible rfl | (simp [rIns, rInsB, rInsC, rInsA, rAdv, rKnown, bI, c_8, c_14, c_20, c_26, c_47_21, c_124_26, c_143_28]; done) | (simp_all [rIns, rInsB, rInsC, rInsA, rAdv, rKnown, bI]; done) | rfl) (by subst eS22; subst eS23; subst eS24; subst eS25; subst eS27; first | with_reducible rfl | (simp [rIns, rInsB, rInsC, rInsA, rAdv, rKnown, bI, c_8, c_14, c_20, c_26, c_47_21, c_124_26, c_143_28]; done) | (simp_all [rIns, rInsB, rInsC, rInsA, rAdv, rKnown, bI]; done) | rfl) rfl (K _ _ dX6_readInstruction_147)
        · refine j_iload_n X dX6_readInstruction_29 rfl rfl (q := 0) rfl ?_
          refine j_bipush X dX6_readInstruction_30 rfl (v := 97) (by decide) ?_
          refine j_icmp_ne X dX6_readInstruction_32 rfl (tgt := 39) (by decide) (fun c_32 => ?_) (fun c_32 => ?_)
          · refine j_iconst X dX6_readInstruction_39 rfl (v := 0) (by decide) ?_
            refine j_istore_n X dX6_readInstruction_40 rfl rfl (by decide) (Ls2 := [(2, .int (0)), (1, .int (rHere S)), (0, .ref (zA Z (7) (0) (0)))]) rfl ?_
            refine j_aload_n X dX6_readInstruction_41 rfl rfl (q := 2) rfl ?_
            refine jg_model X 11 (by decide) lk_RX6_77 rfl rfl dX6_readInstruction_42 rfl ?_
            refine j_topeq (y := (nI (rIs S))) (hi.1) ?_
            refine j_bipush X dX6_readInstruction_45 rfl (v := 30) (by decide) ?_
            refine j_icmpN_eq X (a := rIs S) (b := 30) (by omega) (by omega) dX6_readInstruction_47 rfl (tgt := 54) (by decide) (fun c_47_30 => ?_) (fun c_47_30 => ?_)
            · refine j_iconst X dX6_readInstruction_54 rfl (v := 0) (by decide) ?_
              exact j_ret (by first | with_reducible rfl | (simp [rIns, rInsB, rInsC, rInsA, rAdv, rKnown, bI, c_8, c_14, c_20, c_26, c_32, c_47_30]; done) | (simp_all [rIns, rInsB, rInsC, rInsA, rAdv, rKnown, bI]; done) | rfl) (by first | with_reducible rfl | (simp [rIns, rInsB, rInsC, rInsA, rAdv, rKnown, bI, c_8, c_14, c_20, c_26, c_32, c_47_30]; done) | (simp_all [rIns, rInsB, rInsC, rInsA, rAdv, rKnown, bI]; done) | rfl) rfl (K _ _ dX6_readInstruction_55)
            · refine j_iload_n X dX6_readInstruction_50 rfl rfl (q := 0) rfl ?_
              refine j_if_ne_f X dX6_readInstruction_51 rfl (tgt := 56) (by decide) (by decide) ?_
              refine j_iconst X dX6_readInstruction_54 rfl (v := 0) (by decide) ?_
              exact j_ret (by first | with_reducible rfl | (simp [rIns, rInsB, rInsC, rInsA, rAdv, rKnown, bI, c_8, c_14, c_20, c_26, c_32, c_47_30]; done) | (simp_all [rIns, rInsB, rInsC, rInsA, rAdv, rKnown, bI]; done) | rfl) (by first | with_reducible rfl | (simp [rIns, rInsB, rInsC, rInsA, rAdv, rKnown, bI, c_8, c_14, c_20, c_26, c_32, c_47_30]; done) | (simp_all [rIns, rInsB, rInsC, rInsA, rAdv, rKnown, bI]; done) | rfl) rfl (K _ _ dX6_readInstruction_55)
          · refine j_iconst X dX6_readInstruction_35 rfl (v := 1) (by decide) ?_
            refine j_goto X (tgt := 40) dX6_readInstruction_36 (by decide) ?_
            refine j_istore_n X dX6_readInstruction_40 rfl rfl (by decide) (Ls2 := [(2, .int (1)), (1, .int (rHere S)), (0, .ref (zA Z (7) (0) (0)))]) rfl ?_
            refine j_aload_n X dX6_readInstruction_41 rfl rfl (q := 2) rfl ?_
            refine jg_model X 11 (by decide) lk_RX6_77 rfl rfl dX6_readInstruction_42 rfl ?_
            refine j_topeq (y := (nI (rIs S))) (hi.1) ?_
            refine j_bipush X dX6_readInstruction_45 rfl (v := 30) (by decide) ?_
            refine j_icmpN_eq X (a := rIs S) (b := 30) (by omega) (by omega) dX6_readInstruction_47 rfl (tgt := 54) (by decide) (fun c_47_31 => ?_) (fun c_47_31 => ?_)
            · refine j_iconst X dX6_readInstruction_54 rfl (v := 0) (by decide) ?_
              exact j_ret (by first | with_reducible rfl | (simp [rIns, rInsB, rInsC, rInsA, rAdv, rKnown, bI, c_8, c_14, c_20, c_26, c_32, c_47_31]; done) | (simp_all [rIns, rInsB, rInsC, rInsA, rAdv, rKnown, bI]; done) | rfl) (by first | with_reducible rfl | (simp [rIns, rInsB, rInsC, rInsA, rAdv, rKnown, bI, c_8, c_14, c_20, c_26, c_32, c_47_31]; done) | (simp_all [rIns, rInsB, rInsC, rInsA, rAdv, rKnown, bI]; done) | rfl) rfl (K _ _ dX6_readInstruction_55)
            · refine j_iload_n X dX6_readInstruction_50 rfl rfl (q := 0) rfl ?_
              refine j_if_ne_t X (tgt := 56) dX6_readInstruction_51 (by decide) (by decide) ?_
              refine j_aload_n X dX6_readInstruction_56 rfl rfl (q := 2) rfl ?_
              refine j_dup X dX6_readInstruction_57 rfl rfl ?_
              refine jg_model X 10 (by decide) lk_RX6_70 rfl rfl dX6_readInstruction_58 rfl ?_
              refine j_iconst X dX6_readInstruction_61 rfl (v := 1) (by decide) ?_
              refine j_iadd X dX6_readInstruction_62 rfl ?_
              refine jp_model X 10 (by decide) lk_RX6_70 rfl rfl rfl (vp_nar_int _) rfl rfl dX6_readInstruction_63 rfl ?_
              refine j_name (fun S32 eS32 => ?_)
              refine j_aload_n X dX6_readInstruction_66 rfl rfl (q := 2) rfl ?_
              refine jg_model X 12 (by decide) lk_RX6_28 rfl rfl dX6_readInstruction_67 rfl ?_
              refine j_iconst X dX6_readInstruction_70 rfl (v := 2) (by decide) ?_
              refine j_aload_n X dX6_readInstruction_71 rfl rfl (q := 2) rfl ?_
              refine jg_model X 11 (by decide) lk_RX6_77 rfl rfl dX6_readInstruction_72 rfl ?_
              refine j_topeq (y := (nI (rIs S))) (by subst eS32; simp [setF_at] <;> exact hi.1) ?_
              refine j_imul X dX6_readInstruction_75 rfl ?_
              refine j_topeq (y := nI (2 * (rIs S))) (pk_mul 2 (rIs S)) ?_
              refine j_iload_n X dX6_readInstruction_76 rfl rfl (q := 1) rfl ?_
              refine j_iastN X (k := 2 * (rIs S)) (wm_ref (by decide)) (fun r => (fun _ => rfl) r) (by omega) (by decide) dX6_readInstruction_77 rfl ?_
              refine j_name (fun S33 eS33 => ?_)
              refine j_aload_n X dX6_readInstruction_78 rfl rfl (q := 2) rfl ?_
              refine jg_model X 12 (by decide) lk_RX6_28 rfl rfl dX6_readInstruction_79 rfl ?_
              refine j_iconst X dX6_readInstruction_82 rfl (v := 2) (by decide) ?_
              refine j_aload_n X dX6_readInstruction_83 rfl rfl (q := 2) rfl ?_
              refine jg_model X 11 (by decide) lk_RX6_77 rfl rfl dX6_readInstruction_84 rfl ?_
              refine j_topeq (y := (nI (rIs S))) (by subst eS32; subst eS33; simp [setF_at] <;> exact hi.1) ?_
              refine j_imul X dX6_readInstruction_87 rfl ?_
              refine j_topeq (y := nI (2 * (rIs S))) (pk_mul 2 (rIs S)) ?_
              refine j_iconst X dX6_readInstruction_88 rfl (v := 1) (by decide) ?_
              refine j_iadd X dX6_readInstruction_89 rfl ?_
              refine j_topeq (y := nI ((2 * (rIs S)) + 1)) (nI_add (2 * (rIs S)) 1) ?_
              refine j_iconst X dX6_readInstruction_90 rfl (v := 0) (by decide) ?_
              refine j_iastN X (k := (2 * (rIs S)) + 1) (wm_ref (by decide)) (fun r => (fun _ => rfl) r) (by omega) (by decide) dX6_readInstruction_91 rfl ?_
              refine j_name (fun S34 eS34 => ?_)
              have hlt : rRd S < rTL S := rHere_lt (by rw [c_32]; decide)
              have hA : rdOK S34 := by subst eS32; subst eS33; subst eS34; exact (rInsA_K hr hlt).1
              have hiA : okI (S34 7 0 0 11) 29 := by subst eS32; subst eS33; subst eS34; show okI (rInsA S 7 0 0 11) 29; rw [(rInsA_K hr hlt).2.2.1]; exact ⟨hi.1, by show rIs S ≤ 29; omega⟩
              refine j_iload_n X dX6_readInstruction_92 rfl rfl (q := 1) rfl ?_
              refine j_bipush X dX6_readInstruction_93 rfl (v := 98) (by decide) ?_
              refine j_icmp_eq_f X dX6_readInstruction_95 rfl (tgt := 127) (by decide) c_8 ?_
              refine j_iload_n X dX6_readInstruction_98 rfl rfl (q := 1) rfl ?_
              refine j_bipush X dX6_readInstruction_99 rfl (v := 99) (by decide) ?_
              refine j_icmp_eq_f X dX6_readInstruction_101 rfl (tgt := 127) (by decide) c_14 ?_
              refine j_iload_n X dX6_readInstruction_104 rfl rfl (q := 1) rfl ?_
              refine j_bipush X dX6_readInstruction_105 rfl (v := 97) (by decide) ?_
              refine j_icmp_ne_f X dX6_readInstruction_107 rfl (tgt := 120) (by decide) c_32 ?_
              refine j_aload_n X dX6_readInstruction_110 rfl rfl (q := 2) rfl ?_
              refine j_calli X (c_X6_readNumber l Z S34 h hA hiA) (wm_ref (by decide)) ((fun _ => rfl) _) rfl lk_RX6_84 mi_X6_readNumber ms_X6_readNumber ini_RX6 mc_X6_readNumber md_X6_readNumber ⟨Nat.le_of_ble_eq_true rfl, Nat.le_of_ble_eq_true rfl⟩ ⟨Nat.le_of_ble_eq_true rfl, Nat.le_of_ble_eq_true rfl⟩ rfl (Nat.le_of_ble_eq_true rfl) (as := []) (rest := []) rfl dX6_readInstruction_111 rfl ?_
              refine j_name (fun S35 eS35 => ?_)
              refine j_ifb_eq X dX6_readInstruction_114 rfl (tgt := 131) (by decide) (fun c_114 => ?_) (fun c_114 => ?_)
              · refine j_iconst X dX6_readInstruction_131 rfl (v := 0) (by decide) ?_
                refine j_istore_n X dX6_readInstruction_132 rfl rfl (by decide) (Ls2 := [(3, .int (0)), (2, .int (1)), (1, .int (rHere S)), (0, .ref (zA Z (7) (0) (0)))]) rfl ?_
                refine j_iload_n X dX6_readInstruction_133 rfl rfl (q := 0) rfl ?_
                refine j_if_eq_t X (tgt := 146) dX6_readInstruction_134 (by decide) (by decide) ?_
                refine j_iconst X dX6_readInstruction_146 rfl (v := 0) (by decide) ?_
                exact j_ret (by subst eS32; subst eS33; subst eS34; subst eS35; first | with_reducible rfl | (simp [rIns, rInsB, rInsC, rInsA, rAdv, rKnown, bI, c_8, c_14, c_20, c_26, c_32, c_47_31, c_114]; done) | (simp_all [rIns, rInsB, rInsC, rInsA, rAdv, rKnown, bI]; done) | rfl) (by subst eS32; subst eS33; subst eS34; subst eS35; first | with_reducible rfl | (simp [rIns, rInsB, rInsC, rInsA, rAdv, rKnown, bI, c_8, c_14, c_20, c_26, c_32, c_47_31, c_114]; done) | (simp_all [rIns, rInsB, rInsC, rInsA, rAdv, rKnown, bI]; done) | rfl) rfl (K _ _ dX6_readInstruction_147)
              · refine j_goto X (tgt := 127) dX6_readInstruction_117 (by decide) ?_
                refine j_iconst X dX6_readInstruction_127 rfl (v := 1) (by decide) ?_
                refine j_goto X (tgt := 132) dX6_readInstruction_128 (by decide) ?_
                refine j_istore_n X dX6_readInstruction_132 rfl rfl (by decide) (Ls2 := [(3, .int (1)), (2, .int (1)), (1, .int (rHere S)), (0, .ref (zA Z (7) (0) (0)))]) rfl ?_
                refine j_iload_n X dX6_readInstruction_133 rfl rfl (q := 0) rfl ?_
                refine j_if_eq_f X dX6_readInstruction_134 rfl (tgt := 146) (by decide) (by decide) ?_
                refine j_aload_n X dX6_readInstruction_137 rfl rfl (q := 3) rfl ?_
                refine j_bipush X dX6_readInstruction_138 rfl (v := 59) (by decide) ?_
                refine j_calli X (c_X6_takes l Z S35 h (by rw [eS35]; first | exact (rNum_K hA).1 | exact (rLine_K hA).1) (59)) (wm_ref (by decide)) ((fun _ => rfl) _) rfl lk_RX6_80 mi_X6_takes ms_X6_takes ini_RX6 mc_X6_takes md_X6_takes ⟨Nat.le_of_ble_eq_true rfl, Nat.le_of_ble_eq_true rfl⟩ ⟨Nat.le_of_ble_eq_true rfl, Nat.le_of_ble_eq_true rfl⟩ rfl (Nat.le_of_ble_eq_true rfl) (as := [.int (59)]) (rest := []) rfl dX6_readInstruction_140 rfl ?_
                refine j_name (fun S36 eS36 => ?_)
                refine j_ifb_ne X dX6_readInstruction_143 rfl (tgt := 148) (by decide) (fun c_143_37 => ?_) (fun c_143_37 => ?_)
                · refine j_aload_n X dX6_readInstruction_148 rfl rfl (q := 3) rfl ?_
                  refine j_dup X dX6_readInstruction_149 rfl rfl ?_
                  refine jg_model X 11 (by decide) lk_RX6_77 rfl rfl dX6_readInstruction_150 rfl ?_
                  refine j_iconst X dX6_readInstruction_153 rfl (v := 1) (by decide) ?_
                  refine j_iadd X dX6_readInstruction_154 rfl ?_
                  refine jp_model X 11 (by decide) lk_RX6_77 rfl rfl rfl (vp_nar_int _) rfl rfl dX6_readInstruction_155 rfl ?_
                  refine j_name (fun S38 eS38 => ?_)
                  refine j_iconst X dX6_readInstruction_158 rfl (v := 1) (by decide) ?_
                  exact j_ret (by subst eS32; subst eS33; subst eS34; subst eS35; subst eS36; subst eS38; first | with_reducible rfl | (simp [rIns, rInsB, rInsC, rInsA, rAdv, rKnown, bI, c_8, c_14, c_20, c_26, c_32, c_47_31, c_114, c_143_37]; done) | (simp_all [rIns, rInsB, rInsC, rInsA, rAdv, rKnown, bI]; done) | rfl) (by subst eS32; subst eS33; subst eS34; subst eS35; subst eS36; subst eS38; first | with_reducible rfl | (simp [rIns, rInsB, rInsC, rInsA, rAdv, rKnown, bI, c_8, c_14, c_20, c_26, c_32, c_47_31, c_114, c_143_37]; done) | (simp_all [rIns, rInsB, rInsC, rInsA, rAdv, rKnown, bI]; done) | rfl) rfl (K _ _ dX6_readInstruction_159)
                · refine j_iconst X dX6_readInstruction_146 rfl (v := 0) (by decide) ?_
                  exact j_ret (by subst eS32; subst eS33; subst eS34; subst eS35; subst eS36; first | with_reducible rfl | (simp [rIns, rInsB, rInsC, rInsA, rAdv, rKnown, bI, c_8, c_14, c_20, c_26, c_32, c_47_31, c_114, c_143_37]; done) | (simp_all [rIns, rInsB, rInsC, rInsA, rAdv, rKnown, bI]; done) | rfl) (by subst eS32; subst eS33; subst eS34; subst eS35; subst eS36; first | with_reducible rfl | (simp [rIns, rInsB, rInsC, rInsA, rAdv, rKnown, bI, c_8, c_14, c_20, c_26, c_32, c_47_31, c_114, c_143_37]; done) | (simp_all [rIns, rInsB, rInsC, rInsA, rAdv, rKnown, bI]; done) | rfl) rfl (K _ _ dX6_readInstruction_147)
set_option maxRecDepth 100000 in
set_option maxHeartbeats 4000000 in
theorem L_all (l : Launch) (Z : wZ) (h : Hl) {p : Program} {e : Env} {s : State} {mi : MethodId} {args : Array Value} {below : List Frame} {meth : Method} {c : Code} {A0 : Nat → Prop} {Q : State → Prop} (X : JX p s mi args meth c cX6_readAll 2 yX6_readAll.cls Z A0) : ∀ (n : Nat) (S : St), rdOK S → okI (S 7 0 0 11) 30 → rTL S - rRd S ≤ n → J p l e { frames := 4, cells := 0, slots := 0, locals := 88 } s mi args below meth c 2 Z A0 0 0 Q (rAllL n S).2 h [(1, .int (bI (rAllL n S).1)), (0, .ref (zA Z 7 0 0))] 35 [] → J p l e { frames := 4, cells := 0, slots := 0, locals := 88 } s mi args below meth c 2 Z A0 0 0 Q S h [(1, .int (bI (true))), (0, .ref (zA Z (7) (0) (0)))] 12 [] := by
  intro n
  induction n with
  | zero =>
    intro S hr hi hn hk
    have htl : rTL S ≤ 120 := hr.2.1.2
    have hrd : rRd S ≤ 120 := hr.1.2
    refine j_iload_n X dX6_readAll_12 rfl rfl (q := 0) rfl ?_
    refine j_if_eq_f X dX6_readAll_13 rfl (tgt := 35) (by decide) (by decide) ?_
    refine j_aload_n X dX6_readAll_16 rfl rfl (q := 1) rfl ?_
    refine jg_model X 10 (by decide) lk_RX6_70 rfl rfl dX6_readAll_17 rfl ?_
    refine j_topeq (y := (nI (rRd S))) (hr.1.1) ?_
    refine j_aload_n X dX6_readAll_20 rfl rfl (q := 1) rfl ?_
    refine jg_model X 7 (by decide) lk_RX6_67 rfl rfl dX6_readAll_21 rfl ?_
    refine j_topeq (y := (nI (rTL S))) (hr.2.1.1) ?_
    refine j_icmp_ge_t X (tgt := 35) dX6_readAll_24 (by decide) (nI_le (by omega) (by omega)) ?_
    exact hk
  | succ n ih =>
    intro S hr hi hn hk
    have htl : rTL S ≤ 120 := hr.2.1.2
    have hrd : rRd S ≤ 120 := hr.1.2
    refine j_iload_n X dX6_readAll_12 rfl rfl (q := 0) rfl ?_
    refine j_if_eq_f X dX6_readAll_13 rfl (tgt := 35) (by decide) (by decide) ?_
    refine j_aload_n X dX6_readAll_16 rfl rfl (q := 1) rfl ?_
    refine jg_model X 10 (by decide) lk_RX6_70 rfl rfl dX6_readAll_17 rfl ?_
    refine j_topeq (y := (nI (rRd S))) (hr.1.1) ?_
    refine j_aload_n X dX6_readAll_20 rfl rfl (q := 1) rfl ?_
    refine jg_model X 7 (by decide) lk_RX6_67 rfl rfl dX6_readAll_21 rfl ?_
    refine j_topeq (y := (nI (rTL S))) (hr.2.1.1) ?_
    refine j_icmpN_ge X (a := rRd S) (b := rTL S) (by omega) (by omega) dX6_readAll_24 rfl (tgt := 35) (by decide) (fun c_24 => ?_) (fun c_24 => ?_)
    · have eL : rAllL (n + 1) S = (true, S) := by rw [rAllL, if_pos c_24]
      rw [eL] at hk
      exact hk
    · refine j_aload_n X dX6_readAll_27 rfl rfl (q := 1) rfl ?_
      refine j_calli X (c_X6_readInstruction l Z S h hr hi) (wm_ref (by decide)) ((fun _ => rfl) _) rfl lk_RX6_91 mi_X6_readInstruction ms_X6_readInstruction ini_RX6 mc_X6_readInstruction md_X6_readInstruction ⟨Nat.le_of_ble_eq_true rfl, Nat.le_of_ble_eq_true rfl⟩ ⟨Nat.le_of_ble_eq_true rfl, Nat.le_of_ble_eq_true rfl⟩ rfl (Nat.le_of_ble_eq_true rfl) (as := []) (rest := []) rfl dX6_readAll_28 rfl ?_
      refine j_name (fun S1 eS1 => ?_)
      refine j_istore_n X dX6_readAll_31 rfl rfl (by decide) (Ls2 := [(1, .int (bI ((rIns S).1))), (0, .ref (zA Z (7) (0) (0)))]) rfl ?_
      refine j_goto X (tgt := 12) dX6_readAll_32 (by decide) ?_
      have hK := rIns_K hr hi
      rw [eS1]
      cases hb : (rIns S).1 with
      | false =>
        have eL : rAllL (n + 1) S = (false, (rIns S).2) := by rw [rAllL, if_neg c_24, if_neg (by rw [hb]; decide)]
        rw [eL] at hk
        refine j_at rfl rfl (Ls3 := [(1, .int (0)), (0, .ref (zA Z 7 0 0))]) rfl rfl ?_
        refine j_iload_n X dX6_readAll_12 rfl rfl (q := 0) rfl ?_
        refine j_if_eq_t X (tgt := 35) dX6_readAll_13 (by decide) (by decide) ?_
        exact hk
      | true =>
        have hlt := hK.2.2.2 hb
        have eL : rAllL (n + 1) S = rAllL n (rIns S).2 := by rw [rAllL, if_neg c_24, if_pos hb]
        rw [eL] at hk
        exact ih (rIns S).2 hK.1 hK.2.1 (by have : rTL (rIns S).2 = rTL S := by { show ((rIns S).2 7 0 0 7).toNatClampNeg = _; rw [hK.2.2.1] }; omega) hk
set_option maxRecDepth 100000 in
set_option maxHeartbeats 4000000 in
theorem c_X6_readAll (l : Launch) (Z : wZ) (S : St) (h : Hl) (htl : okI (S 7 0 0 7) 120) : Ci l yX6_readAll cX6_readAll 2 .boolean 4 88 Z [.ref (zA Z (7) (0) (0))] S h (bI (rAll S).1) ((rAll S).2) (h) := by
  refine Ci.of rfl (bI_nar _) (Nat.le_of_ble_eq_true rfl) (fun p e s mi args below meth c A0 Q X K => ?_)
  refine j_at rfl rfl (Ls3 := [(0, .ref (zA Z (7) (0) (0)))]) rfl rfl ?_
  refine j_aload_n X dX6_readAll_0 rfl rfl (q := 0) rfl ?_
  refine j_iconst X dX6_readAll_1 rfl (v := 0) (by decide) ?_
  refine jp_model X 10 (by decide) lk_RX6_70 rfl rfl rfl (vp_nar_int _) rfl rfl dX6_readAll_2 rfl ?_
  refine j_name (fun S1 eS1 => ?_)
  refine j_aload_n X dX6_readAll_5 rfl rfl (q := 0) rfl ?_
  refine j_iconst X dX6_readAll_6 rfl (v := 0) (by decide) ?_
  refine jp_model X 11 (by decide) lk_RX6_77 rfl rfl rfl (vp_nar_int _) rfl rfl dX6_readAll_7 rfl ?_
  refine j_name (fun S2 eS2 => ?_)
  refine j_iconst X dX6_readAll_10 rfl (v := 1) (by decide) ?_
  refine j_istore_n X dX6_readAll_11 rfl rfl (by decide) (Ls2 := [(1, .int (1)), (0, .ref (zA Z (7) (0) (0)))]) rfl ?_
  refine j_at rfl rfl (Ls3 := [(1, .int (bI true)), (0, .ref (zA Z 7 0 0))]) rfl rfl ?_
  have e10 : S2 7 0 0 10 = 0 := by subst eS1; subst eS2; simp [setF_at]
  have e7 : S2 7 0 0 7 = S 7 0 0 7 := by subst eS1; subst eS2; simp [setF_at]
  have e11 : S2 7 0 0 11 = 0 := by subst eS1; subst eS2; simp [setF_at]
  have h0 : okI (0 : Int32) 30 := okI_lit (k := 0) (by omega) (by omega) _ rfl
  have h00 : okI (0 : Int32) 120 := okI_lit (k := 0) (by omega) (by omega) _ rfl
  have hb7 : rTL S2 ≤ 120 := by show (S2 7 0 0 7).toNatClampNeg ≤ 120; rw [e7]; exact htl.2
  refine L_all l Z h X 120 S2 ⟨by rw [e10]; exact h00, by rw [e7]; exact htl, by show (S2 7 0 0 10).toNatClampNeg ≤ _; rw [e10]; exact Nat.zero_le _⟩ (by rw [e11]; exact h0) (by omega) ?_
  have eA : rAllL 120 S2 = rAll S := by subst eS1; subst eS2; rfl
  rw [eA]
  refine j_name (fun S3 eS3 => ?_)
  refine j_iload_n X dX6_readAll_35 rfl rfl (q := 0) rfl ?_
  exact j_ret rfl eS3 rfl (K _ _ dX6_readAll_36)

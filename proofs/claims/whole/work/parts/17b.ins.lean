set_option maxRecDepth 100000 in
set_option maxHeartbeats 4000000 in
theorem c_X6_readInstruction (l : Launch) (Z : wZ) (S : St) (h : Hl) (hr : rdOK S) (hi : okI (S 7 0 0 11) 30) : Ci l yX6_readInstruction cX6_readInstruction 4 .boolean 3 65 Z [.ref (zA Z (7) (0) (0))] S h (bI (rIns S).1) ((rIns S).2) (h) := by
  have hi2 : rIs S ≤ 30 := hi.2
  refine Ci.of rfl (bI_nar _) (Nat.le_of_ble_eq_true rfl) (fun p e s mi args below meth c A0 Q X K => ?_)
  refine j_at rfl rfl (Ls3 := [(0, .ref (zA Z (7) (0) (0)))]) rfl rfl ?_
  refine j_aload_n X dX6_readInstruction_0 rfl rfl (q := 0) rfl ?_
  refine j_calli X (c_X6_here l Z S h hr) (wm_ref (by decide)) ((fun _ => rfl) _) rfl lk_RX6_73 mi_X6_here ms_X6_here ini_RX6 mc_X6_here md_X6_here ⟨Nat.le_of_ble_eq_true rfl, Nat.le_of_ble_eq_true rfl⟩ ⟨Nat.le_of_ble_eq_true rfl, Nat.le_of_ble_eq_true rfl⟩ rfl (Nat.le_of_ble_eq_true rfl) (as := []) (rest := []) rfl dX6_readInstruction_1 rfl ?_
  refine j_istore_n X dX6_readInstruction_4 rfl rfl (by decide) (Ls2 := [(1, .int (rHere S)), (0, .ref (zA Z (7) (0) (0)))]) rfl ?_
  refine j_iload_n X dX6_readInstruction_5 rfl rfl (q := 0) rfl ?_
  refine j_bipush X dX6_readInstruction_6 rfl (v := 98) (by decide) ?_
  refine j_icmp_eq X dX6_readInstruction_8 rfl (tgt := 35) (by decide) (fun c_8 => ?_) (fun c_8 => ?_)
  · refine j_iconst X dX6_readInstruction_35 rfl (v := 1) (by decide) ?_
    refine j_goto X (tgt := 40) dX6_readInstruction_36 (by decide) ?_
    refine j_istore_n X dX6_readInstruction_40 rfl rfl (by decide) (Ls2 := [(2, .int (1)), (1, .int (rHere S)), (0, .ref (zA Z (7) (0) (0)))]) rfl ?_
    refine j_aload_n X dX6_readInstruction_41 rfl rfl (q := 2) rfl ?_
    refine jg_model X 11 (by decide) lk_RX6_77 rfl rfl dX6_readInstruction_42 rfl ?_
    refine j_topeq (y := (nI (rIs S))) (hi.1) ?_
    refine j_bipush X dX6_readInstruction_45 rfl (v := 30) (by decide) ?_
    refine j_icmpN_eq X (a := rIs S) (b := 30) (by omega) (by omega) dX6_readInstruction_47 rfl (tgt := 54) (by decide) (fun c_47 => ?_) (fun c_47 => ?_)
    · refine j_iconst X dX6_readInstruction_54 rfl (v := 0) (by decide) ?_
      exact j_ret (by rw [rIns]; first | rw [if_pos c_47]; rfl | (rw [if_neg c_47, if_neg (by simp [rKnown, c_8, c_47])]; rfl)) (by rw [rIns]; first | rw [if_pos c_47] | rw [if_neg c_47, if_neg (by simp [rKnown, c_8, c_47])]) rfl (K _ _ dX6_readInstruction_55)
    · refine j_iload_n X dX6_readInstruction_50 rfl rfl (q := 0) rfl ?_
      refine j_if_ne_t X (tgt := 56) dX6_readInstruction_51 (by decide) (by decide) ?_
      refine j_aload_n X dX6_readInstruction_56 rfl rfl (q := 2) rfl ?_
      refine j_dup X dX6_readInstruction_57 rfl rfl ?_
      refine jg_model X 10 (by decide) lk_RX6_70 rfl rfl dX6_readInstruction_58 rfl ?_
      refine j_iconst X dX6_readInstruction_61 rfl (v := 1) (by decide) ?_
      refine j_iadd X dX6_readInstruction_62 rfl ?_
      refine jp_model X 10 (by decide) lk_RX6_70 rfl rfl rfl (vp_nar_int _) rfl rfl dX6_readInstruction_63 rfl ?_
      refine j_name (fun S1 eS1 => ?_)
      refine j_aload_n X dX6_readInstruction_66 rfl rfl (q := 2) rfl ?_
      refine jg_model X 12 (by decide) lk_RX6_28 rfl rfl dX6_readInstruction_67 rfl ?_
      refine j_iconst X dX6_readInstruction_70 rfl (v := 2) (by decide) ?_
      refine j_aload_n X dX6_readInstruction_71 rfl rfl (q := 2) rfl ?_
      refine jg_model X 11 (by decide) lk_RX6_77 rfl rfl dX6_readInstruction_72 rfl ?_
      refine j_topeq (y := (nI (rIs S))) (by subst eS1; simp [setF_at] <;> exact hi.1) ?_
      refine j_imul X dX6_readInstruction_75 rfl ?_
      refine j_topeq (y := nI (2 * (rIs S))) (pk_mul 2 (rIs S)) ?_
      refine j_iload_n X dX6_readInstruction_76 rfl rfl (q := 1) rfl ?_
      refine j_iastN X (k := 2 * (rIs S)) (wm_ref (by decide)) (fun r => (fun _ => rfl) r) (by omega) (by decide) dX6_readInstruction_77 rfl ?_
      refine j_name (fun S2 eS2 => ?_)
      refine j_aload_n X dX6_readInstruction_78 rfl rfl (q := 2) rfl ?_
      refine jg_model X 12 (by decide) lk_RX6_28 rfl rfl dX6_readInstruction_79 rfl ?_
      refine j_iconst X dX6_readInstruction_82 rfl (v := 2) (by decide) ?_
      refine j_aload_n X dX6_readInstruction_83 rfl rfl (q := 2) rfl ?_
      refine jg_model X 11 (by decide) lk_RX6_77 rfl rfl dX6_readInstruction_84 rfl ?_
      refine j_topeq (y := (nI (rIs S))) (by subst eS1; subst eS2; simp [setF_at] <;> exact hi.1) ?_
      refine j_imul X dX6_readInstruction_87 rfl ?_
      refine j_topeq (y := nI (2 * (rIs S))) (pk_mul 2 (rIs S)) ?_
      refine j_iconst X dX6_readInstruction_88 rfl (v := 1) (by decide) ?_
      refine j_iadd X dX6_readInstruction_89 rfl ?_
      refine j_topeq (y := nI ((2 * (rIs S)) + 1)) (nI_add (2 * (rIs S)) 1) ?_
      refine j_iconst X dX6_readInstruction_90 rfl (v := 0) (by decide) ?_
      refine j_iastN X (k := (2 * (rIs S)) + 1) (wm_ref (by decide)) (fun r => (fun _ => rfl) r) (by omega) (by decide) dX6_readInstruction_91 rfl ?_
      refine j_name (fun S3 eS3 => ?_)
      have hlt : rRd S < rTL S := rHere_lt (by rw [c_8]; decide)
      have eA : rInsA S = S3 := by rw [eS3, eS2, eS1, rInsA, rAdv]
      have hA : rdOK S3 := by rw [← eA]; exact (rInsA_K hr hlt).1
      have hiA : okI (S3 7 0 0 11) 29 := by rw [← eA, (rInsA_K hr hlt).2.2.1]; exact ⟨hi.1, by show rIs S ≤ 29; omega⟩
      refine j_iload_n X dX6_readInstruction_92 rfl rfl (q := 1) rfl ?_
      refine j_bipush X dX6_readInstruction_93 rfl (v := 98) (by decide) ?_
      refine j_icmp_eq_t X (tgt := 127) dX6_readInstruction_95 (by decide) c_8 ?_
      refine j_iconst X dX6_readInstruction_127 rfl (v := 1) (by decide) ?_
      refine j_goto X (tgt := 132) dX6_readInstruction_128 (by decide) ?_
      refine j_istore_n X dX6_readInstruction_132 rfl rfl (by decide) (Ls2 := [(3, .int (1)), (2, .int (1)), (1, .int (rHere S)), (0, .ref (zA Z (7) (0) (0)))]) rfl ?_
      refine j_iload_n X dX6_readInstruction_133 rfl rfl (q := 0) rfl ?_
      refine j_if_eq_f X dX6_readInstruction_134 rfl (tgt := 146) (by decide) (by decide) ?_
      refine j_aload_n X dX6_readInstruction_137 rfl rfl (q := 3) rfl ?_
      refine j_bipush X dX6_readInstruction_138 rfl (v := 59) (by decide) ?_
      refine j_calli X (c_X6_takes l Z S3 h hA (59)) (wm_ref (by decide)) ((fun _ => rfl) _) rfl lk_RX6_80 mi_X6_takes ms_X6_takes ini_RX6 mc_X6_takes md_X6_takes ⟨Nat.le_of_ble_eq_true rfl, Nat.le_of_ble_eq_true rfl⟩ ⟨Nat.le_of_ble_eq_true rfl, Nat.le_of_ble_eq_true rfl⟩ rfl (Nat.le_of_ble_eq_true rfl) (as := [.int (59)]) (rest := []) rfl dX6_readInstruction_140 rfl ?_
      refine j_name (fun S4 eS4 => ?_)
      refine j_ifb_ne X dX6_readInstruction_143 rfl (tgt := 148) (by decide) (fun c_143 => ?_) (fun c_143 => ?_)
      · refine j_aload_n X dX6_readInstruction_148 rfl rfl (q := 3) rfl ?_
        refine j_dup X dX6_readInstruction_149 rfl rfl ?_
        refine jg_model X 11 (by decide) lk_RX6_77 rfl rfl dX6_readInstruction_150 rfl ?_
        refine j_iconst X dX6_readInstruction_153 rfl (v := 1) (by decide) ?_
        refine j_iadd X dX6_readInstruction_154 rfl ?_
        refine jp_model X 11 (by decide) lk_RX6_77 rfl rfl rfl (vp_nar_int _) rfl rfl dX6_readInstruction_155 rfl ?_
        refine j_name (fun S5 eS5 => ?_)
        refine j_iconst X dX6_readInstruction_158 rfl (v := 1) (by decide) ?_
        have hk : rKnown (rHere S) = true := by unfold rKnown; rw [c_8]; decide
        have hB : rInsB S = (true, S3) := by unfold rInsB; rw [if_pos c_8, eA]
        have hR : rIns S = (true, S5) := by rw [rIns, if_neg c_47, if_pos hk, hB]; show (if (true = true) then (if (rTake S3 59).1 = true then rInsC (rTake S3 59).2 else (false, (rTake S3 59).2)) else (false, S3)) = _; rw [if_pos rfl, if_pos c_143, ← eS4, rInsC, ← eS5]
        exact j_ret (by rw [hR]; rfl) (by rw [hR]) rfl (K _ _ dX6_readInstruction_159)
      · refine j_iconst X dX6_readInstruction_146 rfl (v := 0) (by decide) ?_
        have hk : rKnown (rHere S) = true := by unfold rKnown; rw [c_8]; decide
        have hB : rInsB S = (true, S3) := by unfold rInsB; rw [if_pos c_8, eA]
        have hR : rIns S = (false, S4) := by rw [rIns, if_neg c_47, if_pos hk, hB]; show (if (true = true) then (if (rTake S3 59).1 = true then rInsC (rTake S3 59).2 else (false, (rTake S3 59).2)) else (false, S3)) = _; rw [if_pos rfl, if_neg (by rw [c_143]; decide), ← eS4]
        exact j_ret (by rw [hR]; rfl) (by rw [hR]) rfl (K _ _ dX6_readInstruction_147)
  · refine j_iload_n X dX6_readInstruction_11 rfl rfl (q := 0) rfl ?_
    refine j_bipush X dX6_readInstruction_12 rfl (v := 99) (by decide) ?_
    refine j_icmp_eq X dX6_readInstruction_14 rfl (tgt := 35) (by decide) (fun c_14 => ?_) (fun c_14 => ?_)
    · refine j_iconst X dX6_readInstruction_35 rfl (v := 1) (by decide) ?_
      refine j_goto X (tgt := 40) dX6_readInstruction_36 (by decide) ?_
      refine j_istore_n X dX6_readInstruction_40 rfl rfl (by decide) (Ls2 := [(2, .int (1)), (1, .int (rHere S)), (0, .ref (zA Z (7) (0) (0)))]) rfl ?_
      refine j_aload_n X dX6_readInstruction_41 rfl rfl (q := 2) rfl ?_
      refine jg_model X 11 (by decide) lk_RX6_77 rfl rfl dX6_readInstruction_42 rfl ?_
      refine j_topeq (y := (nI (rIs S))) (hi.1) ?_
      refine j_bipush X dX6_readInstruction_45 rfl (v := 30) (by decide) ?_
      refine j_icmpN_eq X (a := rIs S) (b := 30) (by omega) (by omega) dX6_readInstruction_47 rfl (tgt := 54) (by decide) (fun c_47_6 => ?_) (fun c_47_6 => ?_)
      · refine j_iconst X dX6_readInstruction_54 rfl (v := 0) (by decide) ?_
        exact j_ret (by rw [rIns]; first | rw [if_pos c_47_6]; rfl | (rw [if_neg c_47_6, if_neg (by simp [rKnown, c_8, c_14, c_47_6])]; rfl)) (by rw [rIns]; first | rw [if_pos c_47_6] | rw [if_neg c_47_6, if_neg (by simp [rKnown, c_8, c_14, c_47_6])]) rfl (K _ _ dX6_readInstruction_55)
      · refine j_iload_n X dX6_readInstruction_50 rfl rfl (q := 0) rfl ?_
        refine j_if_ne_t X (tgt := 56) dX6_readInstruction_51 (by decide) (by decide) ?_
        refine j_aload_n X dX6_readInstruction_56 rfl rfl (q := 2) rfl ?_
        refine j_dup X dX6_readInstruction_57 rfl rfl ?_
        refine jg_model X 10 (by decide) lk_RX6_70 rfl rfl dX6_readInstruction_58 rfl ?_
        refine j_iconst X dX6_readInstruction_61 rfl (v := 1) (by decide) ?_
        refine j_iadd X dX6_readInstruction_62 rfl ?_
        refine jp_model X 10 (by decide) lk_RX6_70 rfl rfl rfl (vp_nar_int _) rfl rfl dX6_readInstruction_63 rfl ?_
        refine j_name (fun S7 eS7 => ?_)
        refine j_aload_n X dX6_readInstruction_66 rfl rfl (q := 2) rfl ?_
        refine jg_model X 12 (by decide) lk_RX6_28 rfl rfl dX6_readInstruction_67 rfl ?_
        refine j_iconst X dX6_readInstruction_70 rfl (v := 2) (by decide) ?_
        refine j_aload_n X dX6_readInstruction_71 rfl rfl (q := 2) rfl ?_
        refine jg_model X 11 (by decide) lk_RX6_77 rfl rfl dX6_readInstruction_72 rfl ?_
        refine j_topeq (y := (nI (rIs S))) (by subst eS7; simp [setF_at] <;> exact hi.1) ?_
        refine j_imul X dX6_readInstruction_75 rfl ?_
        refine j_topeq (y := nI (2 * (rIs S))) (pk_mul 2 (rIs S)) ?_
        refine j_iload_n X dX6_readInstruction_76 rfl rfl (q := 1) rfl ?_
        refine j_iastN X (k := 2 * (rIs S)) (wm_ref (by decide)) (fun r => (fun _ => rfl) r) (by omega) (by decide) dX6_readInstruction_77 rfl ?_
        refine j_name (fun S8 eS8 => ?_)
        refine j_aload_n X dX6_readInstruction_78 rfl rfl (q := 2) rfl ?_
        refine jg_model X 12 (by decide) lk_RX6_28 rfl rfl dX6_readInstruction_79 rfl ?_
        refine j_iconst X dX6_readInstruction_82 rfl (v := 2) (by decide) ?_
        refine j_aload_n X dX6_readInstruction_83 rfl rfl (q := 2) rfl ?_
        refine jg_model X 11 (by decide) lk_RX6_77 rfl rfl dX6_readInstruction_84 rfl ?_
        refine j_topeq (y := (nI (rIs S))) (by subst eS7; subst eS8; simp [setF_at] <;> exact hi.1) ?_
        refine j_imul X dX6_readInstruction_87 rfl ?_
        refine j_topeq (y := nI (2 * (rIs S))) (pk_mul 2 (rIs S)) ?_
        refine j_iconst X dX6_readInstruction_88 rfl (v := 1) (by decide) ?_
        refine j_iadd X dX6_readInstruction_89 rfl ?_
        refine j_topeq (y := nI ((2 * (rIs S)) + 1)) (nI_add (2 * (rIs S)) 1) ?_
        refine j_iconst X dX6_readInstruction_90 rfl (v := 0) (by decide) ?_
        refine j_iastN X (k := (2 * (rIs S)) + 1) (wm_ref (by decide)) (fun r => (fun _ => rfl) r) (by omega) (by decide) dX6_readInstruction_91 rfl ?_
        refine j_name (fun S9 eS9 => ?_)
        have hlt : rRd S < rTL S := rHere_lt (by rw [c_14]; decide)
        have eA : rInsA S = S9 := by rw [eS9, eS8, eS7, rInsA, rAdv]
        have hA : rdOK S9 := by rw [← eA]; exact (rInsA_K hr hlt).1
        have hiA : okI (S9 7 0 0 11) 29 := by rw [← eA, (rInsA_K hr hlt).2.2.1]; exact ⟨hi.1, by show rIs S ≤ 29; omega⟩
        refine j_iload_n X dX6_readInstruction_92 rfl rfl (q := 1) rfl ?_
        refine j_bipush X dX6_readInstruction_93 rfl (v := 98) (by decide) ?_
        refine j_icmp_eq_f X dX6_readInstruction_95 rfl (tgt := 127) (by decide) c_8 ?_
        refine j_iload_n X dX6_readInstruction_98 rfl rfl (q := 1) rfl ?_
        refine j_bipush X dX6_readInstruction_99 rfl (v := 99) (by decide) ?_
        refine j_icmp_eq_t X (tgt := 127) dX6_readInstruction_101 (by decide) c_14 ?_
        refine j_iconst X dX6_readInstruction_127 rfl (v := 1) (by decide) ?_
        refine j_goto X (tgt := 132) dX6_readInstruction_128 (by decide) ?_
        refine j_istore_n X dX6_readInstruction_132 rfl rfl (by decide) (Ls2 := [(3, .int (1)), (2, .int (1)), (1, .int (rHere S)), (0, .ref (zA Z (7) (0) (0)))]) rfl ?_
        refine j_iload_n X dX6_readInstruction_133 rfl rfl (q := 0) rfl ?_
        refine j_if_eq_f X dX6_readInstruction_134 rfl (tgt := 146) (by decide) (by decide) ?_
        refine j_aload_n X dX6_readInstruction_137 rfl rfl (q := 3) rfl ?_
        refine j_bipush X dX6_readInstruction_138 rfl (v := 59) (by decide) ?_
        refine j_calli X (c_X6_takes l Z S9 h hA (59)) (wm_ref (by decide)) ((fun _ => rfl) _) rfl lk_RX6_80 mi_X6_takes ms_X6_takes ini_RX6 mc_X6_takes md_X6_takes ⟨Nat.le_of_ble_eq_true rfl, Nat.le_of_ble_eq_true rfl⟩ ⟨Nat.le_of_ble_eq_true rfl, Nat.le_of_ble_eq_true rfl⟩ rfl (Nat.le_of_ble_eq_true rfl) (as := [.int (59)]) (rest := []) rfl dX6_readInstruction_140 rfl ?_
        refine j_name (fun S10 eS10 => ?_)
        refine j_ifb_ne X dX6_readInstruction_143 rfl (tgt := 148) (by decide) (fun c_143_11 => ?_) (fun c_143_11 => ?_)
        · refine j_aload_n X dX6_readInstruction_148 rfl rfl (q := 3) rfl ?_
          refine j_dup X dX6_readInstruction_149 rfl rfl ?_
          refine jg_model X 11 (by decide) lk_RX6_77 rfl rfl dX6_readInstruction_150 rfl ?_
          refine j_iconst X dX6_readInstruction_153 rfl (v := 1) (by decide) ?_
          refine j_iadd X dX6_readInstruction_154 rfl ?_
          refine jp_model X 11 (by decide) lk_RX6_77 rfl rfl rfl (vp_nar_int _) rfl rfl dX6_readInstruction_155 rfl ?_
          refine j_name (fun S12 eS12 => ?_)
          refine j_iconst X dX6_readInstruction_158 rfl (v := 1) (by decide) ?_
          have hk : rKnown (rHere S) = true := by unfold rKnown; rw [c_14]; decide
          have hB : rInsB S = (true, S9) := by unfold rInsB; rw [if_neg (by rw [c_14]; decide), if_pos c_14, eA]
          have hR : rIns S = (true, S12) := by rw [rIns, if_neg c_47_6, if_pos hk, hB]; show (if (true = true) then (if (rTake S9 59).1 = true then rInsC (rTake S9 59).2 else (false, (rTake S9 59).2)) else (false, S9)) = _; rw [if_pos rfl, if_pos c_143_11, ← eS10, rInsC, ← eS12]
          exact j_ret (by rw [hR]; rfl) (by rw [hR]) rfl (K _ _ dX6_readInstruction_159)
        · refine j_iconst X dX6_readInstruction_146 rfl (v := 0) (by decide) ?_
          have hk : rKnown (rHere S) = true := by unfold rKnown; rw [c_14]; decide
          have hB : rInsB S = (true, S9) := by unfold rInsB; rw [if_neg (by rw [c_14]; decide), if_pos c_14, eA]
          have hR : rIns S = (false, S10) := by rw [rIns, if_neg c_47_6, if_pos hk, hB]; show (if (true = true) then (if (rTake S9 59).1 = true then rInsC (rTake S9 59).2 else (false, (rTake S9 59).2)) else (false, S9)) = _; rw [if_pos rfl, if_neg (by rw [c_143_11]; decide), ← eS10]
          exact j_ret (by rw [hR]; rfl) (by rw [hR]) rfl (K _ _ dX6_readInstruction_147)
    · refine j_iload_n X dX6_readInstruction_17 rfl rfl (q := 0) rfl ?_
      refine j_bipush X dX6_readInstruction_18 rfl (v := 114) (by decide) ?_
      refine j_icmp_eq X dX6_readInstruction_20 rfl (tgt := 35) (by decide) (fun c_20 => ?_) (fun c_20 => ?_)
      · refine j_iconst X dX6_readInstruction_35 rfl (v := 1) (by decide) ?_
        refine j_goto X (tgt := 40) dX6_readInstruction_36 (by decide) ?_
        refine j_istore_n X dX6_readInstruction_40 rfl rfl (by decide) (Ls2 := [(2, .int (1)), (1, .int (rHere S)), (0, .ref (zA Z (7) (0) (0)))]) rfl ?_
        refine j_aload_n X dX6_readInstruction_41 rfl rfl (q := 2) rfl ?_
        refine jg_model X 11 (by decide) lk_RX6_77 rfl rfl dX6_readInstruction_42 rfl ?_
        refine j_topeq (y := (nI (rIs S))) (hi.1) ?_
        refine j_bipush X dX6_readInstruction_45 rfl (v := 30) (by decide) ?_
        refine j_icmpN_eq X (a := rIs S) (b := 30) (by omega) (by omega) dX6_readInstruction_47 rfl (tgt := 54) (by decide) (fun c_47_13 => ?_) (fun c_47_13 => ?_)
        · refine j_iconst X dX6_readInstruction_54 rfl (v := 0) (by decide) ?_
          exact j_ret (by rw [rIns]; first | rw [if_pos c_47_13]; rfl | (rw [if_neg c_47_13, if_neg (by simp [rKnown, c_8, c_14, c_20, c_47_13])]; rfl)) (by rw [rIns]; first | rw [if_pos c_47_13] | rw [if_neg c_47_13, if_neg (by simp [rKnown, c_8, c_14, c_20, c_47_13])]) rfl (K _ _ dX6_readInstruction_55)
        · refine j_iload_n X dX6_readInstruction_50 rfl rfl (q := 0) rfl ?_
          refine j_if_ne_t X (tgt := 56) dX6_readInstruction_51 (by decide) (by decide) ?_
          refine j_aload_n X dX6_readInstruction_56 rfl rfl (q := 2) rfl ?_
          refine j_dup X dX6_readInstruction_57 rfl rfl ?_
          refine jg_model X 10 (by decide) lk_RX6_70 rfl rfl dX6_readInstruction_58 rfl ?_
          refine j_iconst X dX6_readInstruction_61 rfl (v := 1) (by decide) ?_
          refine j_iadd X dX6_readInstruction_62 rfl ?_
          refine jp_model X 10 (by decide) lk_RX6_70 rfl rfl rfl (vp_nar_int _) rfl rfl dX6_readInstruction_63 rfl ?_
          refine j_name (fun S14 eS14 => ?_)
          refine j_aload_n X dX6_readInstruction_66 rfl rfl (q := 2) rfl ?_
          refine jg_model X 12 (by decide) lk_RX6_28 rfl rfl dX6_readInstruction_67 rfl ?_
          refine j_iconst X dX6_readInstruction_70 rfl (v := 2) (by decide) ?_
          refine j_aload_n X dX6_readInstruction_71 rfl rfl (q := 2) rfl ?_
          refine jg_model X 11 (by decide) lk_RX6_77 rfl rfl dX6_readInstruction_72 rfl ?_
          refine j_topeq (y := (nI (rIs S))) (by subst eS14; simp [setF_at] <;> exact hi.1) ?_
          refine j_imul X dX6_readInstruction_75 rfl ?_
          refine j_topeq (y := nI (2 * (rIs S))) (pk_mul 2 (rIs S)) ?_
          refine j_iload_n X dX6_readInstruction_76 rfl rfl (q := 1) rfl ?_
          refine j_iastN X (k := 2 * (rIs S)) (wm_ref (by decide)) (fun r => (fun _ => rfl) r) (by omega) (by decide) dX6_readInstruction_77 rfl ?_
          refine j_name (fun S15 eS15 => ?_)
          refine j_aload_n X dX6_readInstruction_78 rfl rfl (q := 2) rfl ?_
          refine jg_model X 12 (by decide) lk_RX6_28 rfl rfl dX6_readInstruction_79 rfl ?_
          refine j_iconst X dX6_readInstruction_82 rfl (v := 2) (by decide) ?_
          refine j_aload_n X dX6_readInstruction_83 rfl rfl (q := 2) rfl ?_
          refine jg_model X 11 (by decide) lk_RX6_77 rfl rfl dX6_readInstruction_84 rfl ?_
          refine j_topeq (y := (nI (rIs S))) (by subst eS14; subst eS15; simp [setF_at] <;> exact hi.1) ?_
          refine j_imul X dX6_readInstruction_87 rfl ?_
          refine j_topeq (y := nI (2 * (rIs S))) (pk_mul 2 (rIs S)) ?_
          refine j_iconst X dX6_readInstruction_88 rfl (v := 1) (by decide) ?_
          refine j_iadd X dX6_readInstruction_89 rfl ?_
          refine j_topeq (y := nI ((2 * (rIs S)) + 1)) (nI_add (2 * (rIs S)) 1) ?_
          refine j_iconst X dX6_readInstruction_90 rfl (v := 0) (by decide) ?_
          refine j_iastN X (k := (2 * (rIs S)) + 1) (wm_ref (by decide)) (fun r => (fun _ => rfl) r) (by omega) (by decide) dX6_readInstruction_91 rfl ?_
          refine j_name (fun S16 eS16 => ?_)
          have hlt : rRd S < rTL S := rHere_lt (by rw [c_20]; decide)
          have eA : rInsA S = S16 := by rw [eS16, eS15, eS14, rInsA, rAdv]
          have hA : rdOK S16 := by rw [← eA]; exact (rInsA_K hr hlt).1
          have hiA : okI (S16 7 0 0 11) 29 := by rw [← eA, (rInsA_K hr hlt).2.2.1]; exact ⟨hi.1, by show rIs S ≤ 29; omega⟩
          refine j_iload_n X dX6_readInstruction_92 rfl rfl (q := 1) rfl ?_
          refine j_bipush X dX6_readInstruction_93 rfl (v := 98) (by decide) ?_
          refine j_icmp_eq_f X dX6_readInstruction_95 rfl (tgt := 127) (by decide) c_8 ?_
          refine j_iload_n X dX6_readInstruction_98 rfl rfl (q := 1) rfl ?_
          refine j_bipush X dX6_readInstruction_99 rfl (v := 99) (by decide) ?_
          refine j_icmp_eq_f X dX6_readInstruction_101 rfl (tgt := 127) (by decide) c_14 ?_
          refine j_iload_n X dX6_readInstruction_104 rfl rfl (q := 1) rfl ?_
          refine j_bipush X dX6_readInstruction_105 rfl (v := 97) (by decide) ?_
          refine j_icmp_ne_t X (tgt := 120) dX6_readInstruction_107 (by decide) (by rw [c_20]; decide) ?_
          refine j_aload_n X dX6_readInstruction_120 rfl rfl (q := 2) rfl ?_
          refine j_calli X (c_X6_readLine l Z S16 h hA hiA) (wm_ref (by decide)) ((fun _ => rfl) _) rfl lk_RX6_88 mi_X6_readLine ms_X6_readLine ini_RX6 mc_X6_readLine md_X6_readLine ⟨Nat.le_of_ble_eq_true rfl, Nat.le_of_ble_eq_true rfl⟩ ⟨Nat.le_of_ble_eq_true rfl, Nat.le_of_ble_eq_true rfl⟩ rfl (Nat.le_of_ble_eq_true rfl) (as := []) (rest := []) rfl dX6_readInstruction_121 rfl ?_
          refine j_name (fun S17 eS17 => ?_)
          refine j_ifb_eq X dX6_readInstruction_124 rfl (tgt := 131) (by decide) (fun c_124 => ?_) (fun c_124 => ?_)
          · refine j_iconst X dX6_readInstruction_131 rfl (v := 0) (by decide) ?_
            refine j_istore_n X dX6_readInstruction_132 rfl rfl (by decide) (Ls2 := [(3, .int (0)), (2, .int (1)), (1, .int (rHere S)), (0, .ref (zA Z (7) (0) (0)))]) rfl ?_
            refine j_iload_n X dX6_readInstruction_133 rfl rfl (q := 0) rfl ?_
            refine j_if_eq_t X (tgt := 146) dX6_readInstruction_134 (by decide) (by decide) ?_
            refine j_iconst X dX6_readInstruction_146 rfl (v := 0) (by decide) ?_
            have hk : rKnown (rHere S) = true := by unfold rKnown; rw [c_20]; decide
            have hB : rInsB S = rLine S16 := by unfold rInsB; rw [if_neg (by rw [c_20]; decide), if_neg (by rw [c_20]; decide), if_neg (by rw [c_20]; decide), eA]
            have hR : rIns S = (false, S17) := by rw [rIns, if_neg c_47_13, if_pos hk, hB, if_neg (by rw [c_124]; decide), ← eS17]
            exact j_ret (by rw [hR]; rfl) (by rw [hR]) rfl (K _ _ dX6_readInstruction_147)
          · refine j_iconst X dX6_readInstruction_127 rfl (v := 1) (by decide) ?_
            refine j_goto X (tgt := 132) dX6_readInstruction_128 (by decide) ?_
            refine j_istore_n X dX6_readInstruction_132 rfl rfl (by decide) (Ls2 := [(3, .int (1)), (2, .int (1)), (1, .int (rHere S)), (0, .ref (zA Z (7) (0) (0)))]) rfl ?_
            refine j_iload_n X dX6_readInstruction_133 rfl rfl (q := 0) rfl ?_
            refine j_if_eq_f X dX6_readInstruction_134 rfl (tgt := 146) (by decide) (by decide) ?_
            refine j_aload_n X dX6_readInstruction_137 rfl rfl (q := 3) rfl ?_
            refine j_bipush X dX6_readInstruction_138 rfl (v := 59) (by decide) ?_
            refine j_calli X (c_X6_takes l Z S17 h (by rw [eS17]; exact (rLine_K hA).1) (59)) (wm_ref (by decide)) ((fun _ => rfl) _) rfl lk_RX6_80 mi_X6_takes ms_X6_takes ini_RX6 mc_X6_takes md_X6_takes ⟨Nat.le_of_ble_eq_true rfl, Nat.le_of_ble_eq_true rfl⟩ ⟨Nat.le_of_ble_eq_true rfl, Nat.le_of_ble_eq_true rfl⟩ rfl (Nat.le_of_ble_eq_true rfl) (as := [.int (59)]) (rest := []) rfl dX6_readInstruction_140 rfl ?_
            refine j_name (fun S18 eS18 => ?_)
            refine j_ifb_ne X dX6_readInstruction_143 rfl (tgt := 148) (by decide) (fun c_143_19 => ?_) (fun c_143_19 => ?_)
            · refine j_aload_n X dX6_readInstruction_148 rfl rfl (q := 3) rfl ?_
              refine j_dup X dX6_readInstruction_149 rfl rfl ?_
              refine jg_model X 11 (by decide) lk_RX6_77 rfl rfl dX6_readInstruction_150 rfl ?_
              refine j_iconst X dX6_readInstruction_153 rfl (v := 1) (by decide) ?_
              refine j_iadd X dX6_readInstruction_154 rfl ?_
              refine jp_model X 11 (by decide) lk_RX6_77 rfl rfl rfl (vp_nar_int _) rfl rfl dX6_readInstruction_155 rfl ?_
              refine j_name (fun S20 eS20 => ?_)
              refine j_iconst X dX6_readInstruction_158 rfl (v := 1) (by decide) ?_
              have hk : rKnown (rHere S) = true := by unfold rKnown; rw [c_20]; decide
              have hB : rInsB S = rLine S16 := by unfold rInsB; rw [if_neg (by rw [c_20]; decide), if_neg (by rw [c_20]; decide), if_neg (by rw [c_20]; decide), eA]
              have hR : rIns S = (true, S20) := by rw [rIns, if_neg c_47_13, if_pos hk, hB]; rw [if_pos c_124, ← eS17, if_pos c_143_19, ← eS18, rInsC, ← eS20]
              exact j_ret (by rw [hR]; rfl) (by rw [hR]) rfl (K _ _ dX6_readInstruction_159)
            · refine j_iconst X dX6_readInstruction_146 rfl (v := 0) (by decide) ?_
              have hk : rKnown (rHere S) = true := by unfold rKnown; rw [c_20]; decide
              have hB : rInsB S = rLine S16 := by unfold rInsB; rw [if_neg (by rw [c_20]; decide), if_neg (by rw [c_20]; decide), if_neg (by rw [c_20]; decide), eA]
              have hR : rIns S = (false, S18) := by rw [rIns, if_neg c_47_13, if_pos hk, hB]; rw [if_pos c_124, ← eS17, if_neg (by rw [c_143_19]; decide), ← eS18]
              exact j_ret (by rw [hR]; rfl) (by rw [hR]) rfl (K _ _ dX6_readInstruction_147)
      · refine j_iload_n X dX6_readInstruction_23 rfl rfl (q := 0) rfl ?_
        refine j_bipush X dX6_readInstruction_24 rfl (v := 119) (by decide) ?_
        refine j_icmp_eq X dX6_readInstruction_26 rfl (tgt := 35) (by decide) (fun c_26 => ?_) (fun c_26 => ?_)
        · refine j_iconst X dX6_readInstruction_35 rfl (v := 1) (by decide) ?_
          refine j_goto X (tgt := 40) dX6_readInstruction_36 (by decide) ?_
          refine j_istore_n X dX6_readInstruction_40 rfl rfl (by decide) (Ls2 := [(2, .int (1)), (1, .int (rHere S)), (0, .ref (zA Z (7) (0) (0)))]) rfl ?_
          refine j_aload_n X dX6_readInstruction_41 rfl rfl (q := 2) rfl ?_
          refine jg_model X 11 (by decide) lk_RX6_77 rfl rfl dX6_readInstruction_42 rfl ?_
          refine j_topeq (y := (nI (rIs S))) (hi.1) ?_
          refine j_bipush X dX6_readInstruction_45 rfl (v := 30) (by decide) ?_
          refine j_icmpN_eq X (a := rIs S) (b := 30) (by omega) (by omega) dX6_readInstruction_47 rfl (tgt := 54) (by decide) (fun c_47_21 => ?_) (fun c_47_21 => ?_)
          · refine j_iconst X dX6_readInstruction_54 rfl (v := 0) (by decide) ?_
            exact j_ret (by rw [rIns]; first | rw [if_pos c_47_21]; rfl | (rw [if_neg c_47_21, if_neg (by simp [rKnown, c_8, c_14, c_20, c_26, c_47_21])]; rfl)) (by rw [rIns]; first | rw [if_pos c_47_21] | rw [if_neg c_47_21, if_neg (by simp [rKnown, c_8, c_14, c_20, c_26, c_47_21])]) rfl (K _ _ dX6_readInstruction_55)
          · refine j_iload_n X dX6_readInstruction_50 rfl rfl (q := 0) rfl ?_
            refine j_if_ne_t X (tgt := 56) dX6_readInstruction_51 (by decide) (by decide) ?_
            refine j_aload_n X dX6_readInstruction_56 rfl rfl (q := 2) rfl ?_
            refine j_dup X dX6_readInstruction_57 rfl rfl ?_
            refine jg_model X 10 (by decide) lk_RX6_70 rfl rfl dX6_readInstruction_58 rfl ?_
            refine j_iconst X dX6_readInstruction_61 rfl (v := 1) (by decide) ?_
            refine j_iadd X dX6_readInstruction_62 rfl ?_
            refine jp_model X 10 (by decide) lk_RX6_70 rfl rfl rfl (vp_nar_int _) rfl rfl dX6_readInstruction_63 rfl ?_
            refine j_name (fun S22 eS22 => ?_)
            refine j_aload_n X dX6_readInstruction_66 rfl rfl (q := 2) rfl ?_
            refine jg_model X 12 (by decide) lk_RX6_28 rfl rfl dX6_readInstruction_67 rfl ?_
            refine j_iconst X dX6_readInstruction_70 rfl (v := 2) (by decide) ?_
            refine j_aload_n X dX6_readInstruction_71 rfl rfl (q := 2) rfl ?_
            refine jg_model X 11 (by decide) lk_RX6_77 rfl rfl dX6_readInstruction_72 rfl ?_
            refine j_topeq (y := (nI (rIs S))) (by subst eS22; simp [setF_at] <;> exact hi.1) ?_
            refine j_imul X dX6_readInstruction_75 rfl ?_
            refine j_topeq (y := nI (2 * (rIs S))) (pk_mul 2 (rIs S)) ?_
            refine j_iload_n X dX6_readInstruction_76 rfl rfl (q := 1) rfl ?_
            refine j_iastN X (k := 2 * (rIs S)) (wm_ref (by decide)) (fun r => (fun _ => rfl) r) (by omega) (by decide) dX6_readInstruction_77 rfl ?_
            refine j_name (fun S23 eS23 => ?_)
            refine j_aload_n X dX6_readInstruction_78 rfl rfl (q := 2) rfl ?_
            refine jg_model X 12 (by decide) lk_RX6_28 rfl rfl dX6_readInstruction_79 rfl ?_
            refine j_iconst X dX6_readInstruction_82 rfl (v := 2) (by decide) ?_
            refine j_aload_n X dX6_readInstruction_83 rfl rfl (q := 2) rfl ?_
            refine jg_model X 11 (by decide) lk_RX6_77 rfl rfl dX6_readInstruction_84 rfl ?_
            refine j_topeq (y := (nI (rIs S))) (by subst eS22; subst eS23; simp [setF_at] <;> exact hi.1) ?_
            refine j_imul X dX6_readInstruction_87 rfl ?_
            refine j_topeq (y := nI (2 * (rIs S))) (pk_mul 2 (rIs S)) ?_
            refine j_iconst X dX6_readInstruction_88 rfl (v := 1) (by decide) ?_
            refine j_iadd X dX6_readInstruction_89 rfl ?_
            refine j_topeq (y := nI ((2 * (rIs S)) + 1)) (nI_add (2 * (rIs S)) 1) ?_
            refine j_iconst X dX6_readInstruction_90 rfl (v := 0) (by decide) ?_
            refine j_iastN X (k := (2 * (rIs S)) + 1) (wm_ref (by decide)) (fun r => (fun _ => rfl) r) (by omega) (by decide) dX6_readInstruction_91 rfl ?_
            refine j_name (fun S24 eS24 => ?_)
            have hlt : rRd S < rTL S := rHere_lt (by rw [c_26]; decide)
            have eA : rInsA S = S24 := by rw [eS24, eS23, eS22, rInsA, rAdv]
            have hA : rdOK S24 := by rw [← eA]; exact (rInsA_K hr hlt).1
            have hiA : okI (S24 7 0 0 11) 29 := by rw [← eA, (rInsA_K hr hlt).2.2.1]; exact ⟨hi.1, by show rIs S ≤ 29; omega⟩
            refine j_iload_n X dX6_readInstruction_92 rfl rfl (q := 1) rfl ?_
            refine j_bipush X dX6_readInstruction_93 rfl (v := 98) (by decide) ?_
            refine j_icmp_eq_f X dX6_readInstruction_95 rfl (tgt := 127) (by decide) c_8 ?_
            refine j_iload_n X dX6_readInstruction_98 rfl rfl (q := 1) rfl ?_
            refine j_bipush X dX6_readInstruction_99 rfl (v := 99) (by decide) ?_
            refine j_icmp_eq_f X dX6_readInstruction_101 rfl (tgt := 127) (by decide) c_14 ?_
            refine j_iload_n X dX6_readInstruction_104 rfl rfl (q := 1) rfl ?_
            refine j_bipush X dX6_readInstruction_105 rfl (v := 97) (by decide) ?_
            refine j_icmp_ne_t X (tgt := 120) dX6_readInstruction_107 (by decide) (by rw [c_26]; decide) ?_
            refine j_aload_n X dX6_readInstruction_120 rfl rfl (q := 2) rfl ?_
            refine j_calli X (c_X6_readLine l Z S24 h hA hiA) (wm_ref (by decide)) ((fun _ => rfl) _) rfl lk_RX6_88 mi_X6_readLine ms_X6_readLine ini_RX6 mc_X6_readLine md_X6_readLine ⟨Nat.le_of_ble_eq_true rfl, Nat.le_of_ble_eq_true rfl⟩ ⟨Nat.le_of_ble_eq_true rfl, Nat.le_of_ble_eq_true rfl⟩ rfl (Nat.le_of_ble_eq_true rfl) (as := []) (rest := []) rfl dX6_readInstruction_121 rfl ?_
            refine j_name (fun S25 eS25 => ?_)
            refine j_ifb_eq X dX6_readInstruction_124 rfl (tgt := 131) (by decide) (fun c_124_26 => ?_) (fun c_124_26 => ?_)
            · refine j_iconst X dX6_readInstruction_131 rfl (v := 0) (by decide) ?_
              refine j_istore_n X dX6_readInstruction_132 rfl rfl (by decide) (Ls2 := [(3, .int (0)), (2, .int (1)), (1, .int (rHere S)), (0, .ref (zA Z (7) (0) (0)))]) rfl ?_
              refine j_iload_n X dX6_readInstruction_133 rfl rfl (q := 0) rfl ?_
              refine j_if_eq_t X (tgt := 146) dX6_readInstruction_134 (by decide) (by decide) ?_
              refine j_iconst X dX6_readInstruction_146 rfl (v := 0) (by decide) ?_
              have hk : rKnown (rHere S) = true := by unfold rKnown; rw [c_26]; decide
              have hB : rInsB S = rLine S24 := by unfold rInsB; rw [if_neg (by rw [c_26]; decide), if_neg (by rw [c_26]; decide), if_neg (by rw [c_26]; decide), eA]
              have hR : rIns S = (false, S25) := by rw [rIns, if_neg c_47_21, if_pos hk, hB, if_neg (by rw [c_124_26]; decide), ← eS25]
              exact j_ret (by rw [hR]; rfl) (by rw [hR]) rfl (K _ _ dX6_readInstruction_147)
            · refine j_iconst X dX6_readInstruction_127 rfl (v := 1) (by decide) ?_
              refine j_goto X (tgt := 132) dX6_readInstruction_128 (by decide) ?_
              refine j_istore_n X dX6_readInstruction_132 rfl rfl (by decide) (Ls2 := [(3, .int (1)), (2, .int (1)), (1, .int (rHere S)), (0, .ref (zA Z (7) (0) (0)))]) rfl ?_
              refine j_iload_n X dX6_readInstruction_133 rfl rfl (q := 0) rfl ?_
              refine j_if_eq_f X dX6_readInstruction_134 rfl (tgt := 146) (by decide) (by decide) ?_
              refine j_aload_n X dX6_readInstruction_137 rfl rfl (q := 3) rfl ?_
              refine j_bipush X dX6_readInstruction_138 rfl (v := 59) (by decide) ?_
              refine j_calli X (c_X6_takes l Z S25 h (by rw [eS25]; exact (rLine_K hA).1) (59)) (wm_ref (by decide)) ((fun _ => rfl) _) rfl lk_RX6_80 mi_X6_takes ms_X6_takes ini_RX6 mc_X6_takes md_X6_takes ⟨Nat.le_of_ble_eq_true rfl, Nat.le_of_ble_eq_true rfl⟩ ⟨Nat.le_of_ble_eq_true rfl, Nat.le_of_ble_eq_true rfl⟩ rfl (Nat.le_of_ble_eq_true rfl) (as := [.int (59)]) (rest := []) rfl dX6_readInstruction_140 rfl ?_
              refine j_name (fun S27 eS27 => ?_)
              refine j_ifb_ne X dX6_readInstruction_143 rfl (tgt := 148) (by decide) (fun c_143_28 => ?_) (fun c_143_28 => ?_)
              · refine j_aload_n X dX6_readInstruction_148 rfl rfl (q := 3) rfl ?_
                refine j_dup X dX6_readInstruction_149 rfl rfl ?_
                refine jg_model X 11 (by decide) lk_RX6_77 rfl rfl dX6_readInstruction_150 rfl ?_
                refine j_iconst X dX6_readInstruction_153 rfl (v := 1) (by decide) ?_
                refine j_iadd X dX6_readInstruction_154 rfl ?_
                refine jp_model X 11 (by decide) lk_RX6_77 rfl rfl rfl (vp_nar_int _) rfl rfl dX6_readInstruction_155 rfl ?_
                refine j_name (fun S29 eS29 => ?_)
                refine j_iconst X dX6_readInstruction_158 rfl (v := 1) (by decide) ?_
                have hk : rKnown (rHere S) = true := by unfold rKnown; rw [c_26]; decide
                have hB : rInsB S = rLine S24 := by unfold rInsB; rw [if_neg (by rw [c_26]; decide), if_neg (by rw [c_26]; decide), if_neg (by rw [c_26]; decide), eA]
                have hR : rIns S = (true, S29) := by rw [rIns, if_neg c_47_21, if_pos hk, hB]; rw [if_pos c_124_26, ← eS25, if_pos c_143_28, ← eS27, rInsC, ← eS29]
                exact j_ret (by rw [hR]; rfl) (by rw [hR]) rfl (K _ _ dX6_readInstruction_159)
              · refine j_iconst X dX6_readInstruction_146 rfl (v := 0) (by decide) ?_
                have hk : rKnown (rHere S) = true := by unfold rKnown; rw [c_26]; decide
                have hB : rInsB S = rLine S24 := by unfold rInsB; rw [if_neg (by rw [c_26]; decide), if_neg (by rw [c_26]; decide), if_neg (by rw [c_26]; decide), eA]
                have hR : rIns S = (false, S27) := by rw [rIns, if_neg c_47_21, if_pos hk, hB]; rw [if_pos c_124_26, ← eS25, if_neg (by rw [c_143_28]; decide), ← eS27]
                exact j_ret (by rw [hR]; rfl) (by rw [hR]) rfl (K _ _ dX6_readInstruction_147)
        · refine j_iload_n X dX6_readInstruction_29 rfl rfl (q := 0) rfl ?_
          refine j_bipush X dX6_readInstruction_30 rfl (v := 97) (by decide) ?_
          refine j_icmp_ne X dX6_readInstruction_32 rfl (tgt := 39) (by decide) (fun c_32 => ?_) (fun c_32 => ?_)
          · refine j_iconst X dX6_readInstruction_39 rfl (v := 0) (by decide) ?_
            refine j_istore_n X dX6_readInstruction_40 rfl rfl (by decide) (Ls2 := [(2, .int (0)), (1, .int (rHere S)), (0, .ref (zA Z (7) (0) (0)))]) rfl ?_
            refine j_aload_n X dX6_readInstruction_41 rfl rfl (q := 2) rfl ?_
            refine jg_model X 11 (by decide) lk_RX6_77 rfl rfl dX6_readInstruction_42 rfl ?_
            refine j_topeq (y := (nI (rIs S))) (hi.1) ?_
            refine j_bipush X dX6_readInstruction_45 rfl (v := 30) (by decide) ?_
            refine j_icmpN_eq X (a := rIs S) (b := 30) (by omega) (by omega) dX6_readInstruction_47 rfl (tgt := 54) (by decide) (fun c_47_30 => ?_) (fun c_47_30 => ?_)
            · refine j_iconst X dX6_readInstruction_54 rfl (v := 0) (by decide) ?_
              exact j_ret (by rw [rIns]; first | rw [if_pos c_47_30]; rfl | (rw [if_neg c_47_30, if_neg (by simp [rKnown, c_8, c_14, c_20, c_26, c_32, c_47_30])]; rfl)) (by rw [rIns]; first | rw [if_pos c_47_30] | rw [if_neg c_47_30, if_neg (by simp [rKnown, c_8, c_14, c_20, c_26, c_32, c_47_30])]) rfl (K _ _ dX6_readInstruction_55)
            · refine j_iload_n X dX6_readInstruction_50 rfl rfl (q := 0) rfl ?_
              refine j_if_ne_f X dX6_readInstruction_51 rfl (tgt := 56) (by decide) (by decide) ?_
              refine j_iconst X dX6_readInstruction_54 rfl (v := 0) (by decide) ?_
              exact j_ret (by rw [rIns]; first | rw [if_pos c_47_30]; rfl | (rw [if_neg c_47_30, if_neg (by simp [rKnown, c_8, c_14, c_20, c_26, c_32, c_47_30])]; rfl)) (by rw [rIns]; first | rw [if_pos c_47_30] | rw [if_neg c_47_30, if_neg (by simp [rKnown, c_8, c_14, c_20, c_26, c_32, c_47_30])]) rfl (K _ _ dX6_readInstruction_55)
          · refine j_iconst X dX6_readInstruction_35 rfl (v := 1) (by decide) ?_
            refine j_goto X (tgt := 40) dX6_readInstruction_36 (by decide) ?_
            refine j_istore_n X dX6_readInstruction_40 rfl rfl (by decide) (Ls2 := [(2, .int (1)), (1, .int (rHere S)), (0, .ref (zA Z (7) (0) (0)))]) rfl ?_
            refine j_aload_n X dX6_readInstruction_41 rfl rfl (q := 2) rfl ?_
            refine jg_model X 11 (by decide) lk_RX6_77 rfl rfl dX6_readInstruction_42 rfl ?_
            refine j_topeq (y := (nI (rIs S))) (hi.1) ?_
            refine j_bipush X dX6_readInstruction_45 rfl (v := 30) (by decide) ?_
            refine j_icmpN_eq X (a := rIs S) (b := 30) (by omega) (by omega) dX6_readInstruction_47 rfl (tgt := 54) (by decide) (fun c_47_31 => ?_) (fun c_47_31 => ?_)
            · refine j_iconst X dX6_readInstruction_54 rfl (v := 0) (by decide) ?_
              exact j_ret (by rw [rIns]; first | rw [if_pos c_47_31]; rfl | (rw [if_neg c_47_31, if_neg (by simp [rKnown, c_8, c_14, c_20, c_26, c_32, c_47_31])]; rfl)) (by rw [rIns]; first | rw [if_pos c_47_31] | rw [if_neg c_47_31, if_neg (by simp [rKnown, c_8, c_14, c_20, c_26, c_32, c_47_31])]) rfl (K _ _ dX6_readInstruction_55)
            · refine j_iload_n X dX6_readInstruction_50 rfl rfl (q := 0) rfl ?_
              refine j_if_ne_t X (tgt := 56) dX6_readInstruction_51 (by decide) (by decide) ?_
              refine j_aload_n X dX6_readInstruction_56 rfl rfl (q := 2) rfl ?_
              refine j_dup X dX6_readInstruction_57 rfl rfl ?_
              refine jg_model X 10 (by decide) lk_RX6_70 rfl rfl dX6_readInstruction_58 rfl ?_
              refine j_iconst X dX6_readInstruction_61 rfl (v := 1) (by decide) ?_
              refine j_iadd X dX6_readInstruction_62 rfl ?_
              refine jp_model X 10 (by decide) lk_RX6_70 rfl rfl rfl (vp_nar_int _) rfl rfl dX6_readInstruction_63 rfl ?_
              refine j_name (fun S32 eS32 => ?_)
              refine j_aload_n X dX6_readInstruction_66 rfl rfl (q := 2) rfl ?_
              refine jg_model X 12 (by decide) lk_RX6_28 rfl rfl dX6_readInstruction_67 rfl ?_
              refine j_iconst X dX6_readInstruction_70 rfl (v := 2) (by decide) ?_
              refine j_aload_n X dX6_readInstruction_71 rfl rfl (q := 2) rfl ?_
              refine jg_model X 11 (by decide) lk_RX6_77 rfl rfl dX6_readInstruction_72 rfl ?_
              refine j_topeq (y := (nI (rIs S))) (by subst eS32; simp [setF_at] <;> exact hi.1) ?_
              refine j_imul X dX6_readInstruction_75 rfl ?_
              refine j_topeq (y := nI (2 * (rIs S))) (pk_mul 2 (rIs S)) ?_
              refine j_iload_n X dX6_readInstruction_76 rfl rfl (q := 1) rfl ?_
              refine j_iastN X (k := 2 * (rIs S)) (wm_ref (by decide)) (fun r => (fun _ => rfl) r) (by omega) (by decide) dX6_readInstruction_77 rfl ?_
              refine j_name (fun S33 eS33 => ?_)
              refine j_aload_n X dX6_readInstruction_78 rfl rfl (q := 2) rfl ?_
              refine jg_model X 12 (by decide) lk_RX6_28 rfl rfl dX6_readInstruction_79 rfl ?_
              refine j_iconst X dX6_readInstruction_82 rfl (v := 2) (by decide) ?_
              refine j_aload_n X dX6_readInstruction_83 rfl rfl (q := 2) rfl ?_
              refine jg_model X 11 (by decide) lk_RX6_77 rfl rfl dX6_readInstruction_84 rfl ?_
              refine j_topeq (y := (nI (rIs S))) (by subst eS32; subst eS33; simp [setF_at] <;> exact hi.1) ?_
              refine j_imul X dX6_readInstruction_87 rfl ?_
              refine j_topeq (y := nI (2 * (rIs S))) (pk_mul 2 (rIs S)) ?_
              refine j_iconst X dX6_readInstruction_88 rfl (v := 1) (by decide) ?_
              refine j_iadd X dX6_readInstruction_89 rfl ?_
              refine j_topeq (y := nI ((2 * (rIs S)) + 1)) (nI_add (2 * (rIs S)) 1) ?_
              refine j_iconst X dX6_readInstruction_90 rfl (v := 0) (by decide) ?_
              refine j_iastN X (k := (2 * (rIs S)) + 1) (wm_ref (by decide)) (fun r => (fun _ => rfl) r) (by omega) (by decide) dX6_readInstruction_91 rfl ?_
              refine j_name (fun S34 eS34 => ?_)
              have hlt : rRd S < rTL S := rHere_lt (by rw [c_32]; decide)
              have eA : rInsA S = S34 := by rw [eS34, eS33, eS32, rInsA, rAdv]
              have hA : rdOK S34 := by rw [← eA]; exact (rInsA_K hr hlt).1
              have hiA : okI (S34 7 0 0 11) 29 := by rw [← eA, (rInsA_K hr hlt).2.2.1]; exact ⟨hi.1, by show rIs S ≤ 29; omega⟩
              refine j_iload_n X dX6_readInstruction_92 rfl rfl (q := 1) rfl ?_
              refine j_bipush X dX6_readInstruction_93 rfl (v := 98) (by decide) ?_
              refine j_icmp_eq_f X dX6_readInstruction_95 rfl (tgt := 127) (by decide) c_8 ?_
              refine j_iload_n X dX6_readInstruction_98 rfl rfl (q := 1) rfl ?_
              refine j_bipush X dX6_readInstruction_99 rfl (v := 99) (by decide) ?_
              refine j_icmp_eq_f X dX6_readInstruction_101 rfl (tgt := 127) (by decide) c_14 ?_
              refine j_iload_n X dX6_readInstruction_104 rfl rfl (q := 1) rfl ?_
              refine j_bipush X dX6_readInstruction_105 rfl (v := 97) (by decide) ?_
              refine j_icmp_ne_f X dX6_readInstruction_107 rfl (tgt := 120) (by decide) c_32 ?_
              refine j_aload_n X dX6_readInstruction_110 rfl rfl (q := 2) rfl ?_
              refine j_calli X (c_X6_readNumber l Z S34 h hA hiA) (wm_ref (by decide)) ((fun _ => rfl) _) rfl lk_RX6_84 mi_X6_readNumber ms_X6_readNumber ini_RX6 mc_X6_readNumber md_X6_readNumber ⟨Nat.le_of_ble_eq_true rfl, Nat.le_of_ble_eq_true rfl⟩ ⟨Nat.le_of_ble_eq_true rfl, Nat.le_of_ble_eq_true rfl⟩ rfl (Nat.le_of_ble_eq_true rfl) (as := []) (rest := []) rfl dX6_readInstruction_111 rfl ?_
              refine j_name (fun S35 eS35 => ?_)
              refine j_ifb_eq X dX6_readInstruction_114 rfl (tgt := 131) (by decide) (fun c_114 => ?_) (fun c_114 => ?_)
              · refine j_iconst X dX6_readInstruction_131 rfl (v := 0) (by decide) ?_
                refine j_istore_n X dX6_readInstruction_132 rfl rfl (by decide) (Ls2 := [(3, .int (0)), (2, .int (1)), (1, .int (rHere S)), (0, .ref (zA Z (7) (0) (0)))]) rfl ?_
                refine j_iload_n X dX6_readInstruction_133 rfl rfl (q := 0) rfl ?_
                refine j_if_eq_t X (tgt := 146) dX6_readInstruction_134 (by decide) (by decide) ?_
                refine j_iconst X dX6_readInstruction_146 rfl (v := 0) (by decide) ?_
                have hk : rKnown (rHere S) = true := by unfold rKnown; rw [c_32]; decide
                have hB : rInsB S = rNum S34 := by unfold rInsB; rw [if_neg (by rw [c_32]; decide), if_neg (by rw [c_32]; decide), if_pos c_32, eA]
                have hR : rIns S = (false, S35) := by rw [rIns, if_neg c_47_31, if_pos hk, hB, if_neg (by rw [c_114]; decide), ← eS35]
                exact j_ret (by rw [hR]; rfl) (by rw [hR]) rfl (K _ _ dX6_readInstruction_147)
              · refine j_goto X (tgt := 127) dX6_readInstruction_117 (by decide) ?_
                refine j_iconst X dX6_readInstruction_127 rfl (v := 1) (by decide) ?_
                refine j_goto X (tgt := 132) dX6_readInstruction_128 (by decide) ?_
                refine j_istore_n X dX6_readInstruction_132 rfl rfl (by decide) (Ls2 := [(3, .int (1)), (2, .int (1)), (1, .int (rHere S)), (0, .ref (zA Z (7) (0) (0)))]) rfl ?_
                refine j_iload_n X dX6_readInstruction_133 rfl rfl (q := 0) rfl ?_
                refine j_if_eq_f X dX6_readInstruction_134 rfl (tgt := 146) (by decide) (by decide) ?_
                refine j_aload_n X dX6_readInstruction_137 rfl rfl (q := 3) rfl ?_
                refine j_bipush X dX6_readInstruction_138 rfl (v := 59) (by decide) ?_
                refine j_calli X (c_X6_takes l Z S35 h (by rw [eS35]; exact (rNum_K hA).1) (59)) (wm_ref (by decide)) ((fun _ => rfl) _) rfl lk_RX6_80 mi_X6_takes ms_X6_takes ini_RX6 mc_X6_takes md_X6_takes ⟨Nat.le_of_ble_eq_true rfl, Nat.le_of_ble_eq_true rfl⟩ ⟨Nat.le_of_ble_eq_true rfl, Nat.le_of_ble_eq_true rfl⟩ rfl (Nat.le_of_ble_eq_true rfl) (as := [.int (59)]) (rest := []) rfl dX6_readInstruction_140 rfl ?_
                refine j_name (fun S36 eS36 => ?_)
                refine j_ifb_ne X dX6_readInstruction_143 rfl (tgt := 148) (by decide) (fun c_143_37 => ?_) (fun c_143_37 => ?_)
                · refine j_aload_n X dX6_readInstruction_148 rfl rfl (q := 3) rfl ?_
                  refine j_dup X dX6_readInstruction_149 rfl rfl ?_
                  refine jg_model X 11 (by decide) lk_RX6_77 rfl rfl dX6_readInstruction_150 rfl ?_
                  refine j_iconst X dX6_readInstruction_153 rfl (v := 1) (by decide) ?_
                  refine j_iadd X dX6_readInstruction_154 rfl ?_
                  refine jp_model X 11 (by decide) lk_RX6_77 rfl rfl rfl (vp_nar_int _) rfl rfl dX6_readInstruction_155 rfl ?_
                  refine j_name (fun S38 eS38 => ?_)
                  refine j_iconst X dX6_readInstruction_158 rfl (v := 1) (by decide) ?_
                  have hk : rKnown (rHere S) = true := by unfold rKnown; rw [c_32]; decide
                  have hB : rInsB S = rNum S34 := by unfold rInsB; rw [if_neg (by rw [c_32]; decide), if_neg (by rw [c_32]; decide), if_pos c_32, eA]
                  have hR : rIns S = (true, S38) := by rw [rIns, if_neg c_47_31, if_pos hk, hB]; rw [if_pos c_114, ← eS35, if_pos c_143_37, ← eS36, rInsC, ← eS38]
                  exact j_ret (by rw [hR]; rfl) (by rw [hR]) rfl (K _ _ dX6_readInstruction_159)
                · refine j_iconst X dX6_readInstruction_146 rfl (v := 0) (by decide) ?_
                  have hk : rKnown (rHere S) = true := by unfold rKnown; rw [c_32]; decide
                  have hB : rInsB S = rNum S34 := by unfold rInsB; rw [if_neg (by rw [c_32]; decide), if_neg (by rw [c_32]; decide), if_pos c_32, eA]
                  have hR : rIns S = (false, S36) := by rw [rIns, if_neg c_47_31, if_pos hk, hB]; rw [if_pos c_114, ← eS35, if_neg (by rw [c_143_37]; decide), ← eS36]
                  exact j_ret (by rw [hR]; rfl) (by rw [hR]) rfl (K _ _ dX6_readInstruction_147)

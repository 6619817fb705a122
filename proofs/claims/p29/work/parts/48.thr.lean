/-! the class where it throws -/
set_option maxRecDepth 100000 in
set_option maxHeartbeats 4000000 in
theorem t_X5_begin (l : Launch) (hfl : l.stackTraces = false) (Z : wZ) (S : St) (h : Hl) (x y z : Int32) (hb : ¬ x < 2 → ¬ 4 < x → pIsPol y = true → ¬ z < 1 → z ≤ 8 → False) : Ct l yX5_begin cX5_begin 5 .int 6 82 Z [.ref (zA Z (6) (0) (0)), .int (x), .int (y), .int (z)] S h "java/lang/IllegalArgumentException" := by
  refine Ct.of hfl (ik := 53) (ic := 57) (List.mem_of_getElem? (i := 0) rfl) rfl (Nat.le_of_ble_eq_true rfl) (Nat.le_of_ble_eq_true rfl) rfl (Nat.le_of_ble_eq_true rfl) (fun p e s mi args below meth c A0 Q X K => ?_)
  refine j_at rfl rfl (Ls3 := [(0, .ref (zA Z (6) (0) (0))), (1, .int (x)), (2, .int (y)), (3, .int (z))]) rfl rfl ?_
  refine j_iload_n X dX5_begin_0 rfl rfl (q := 1) rfl ?_
  refine j_iconst X dX5_begin_1 rfl (v := 2) (by decide) ?_
  refine j_icmp_lt X dX5_begin_2 rfl (tgt := 28) (by decide) (fun c_2 => ?_) (fun c_2 => ?_)
  · exact K _ 28 55 _ (List.mem_of_getElem? (i := 4) rfl) dX5_begin_28 dX5_begin_31 dX5_begin_32 dX5_begin_34 dX5_begin_37
  · refine j_iload_n X dX5_begin_5 rfl rfl (q := 1) rfl ?_
    refine j_iconst X dX5_begin_6 rfl (v := 4) (by decide) ?_
    refine j_icmp_gt X dX5_begin_7 rfl (tgt := 28) (by decide) (fun c_7 => ?_) (fun c_7 => ?_)
    · exact K _ 28 55 _ (List.mem_of_getElem? (i := 4) rfl) dX5_begin_28 dX5_begin_31 dX5_begin_32 dX5_begin_34 dX5_begin_37
    · refine j_iload_n X dX5_begin_10 rfl rfl (q := 2) rfl ?_
      refine j_callSi X (c_X5_isPolicy l Z S h (y)) lk_RX5_49 mt_X5_isPolicy ini_RX5 mc_X5_isPolicy md_X5_isPolicy ⟨Nat.le_of_ble_eq_true rfl, Nat.le_of_ble_eq_true rfl⟩ ⟨Nat.le_of_ble_eq_true rfl, Nat.le_of_ble_eq_true rfl⟩ rfl (Nat.le_of_ble_eq_true rfl) (as := [.int (y)]) (rest := []) rfl dX5_begin_11 rfl ?_
      refine j_ifb_eq X dX5_begin_14 rfl (tgt := 28) (by decide) (fun c_14 => ?_) (fun c_14 => ?_)
      · exact K _ 28 55 _ (List.mem_of_getElem? (i := 4) rfl) dX5_begin_28 dX5_begin_31 dX5_begin_32 dX5_begin_34 dX5_begin_37
      · refine j_iload_n X dX5_begin_17 rfl rfl (q := 3) rfl ?_
        refine j_iconst X dX5_begin_18 rfl (v := 1) (by decide) ?_
        refine j_icmp_lt X dX5_begin_19 rfl (tgt := 28) (by decide) (fun c_19 => ?_) (fun c_19 => ?_)
        · exact K _ 28 55 _ (List.mem_of_getElem? (i := 4) rfl) dX5_begin_28 dX5_begin_31 dX5_begin_32 dX5_begin_34 dX5_begin_37
        · refine j_iload_n X dX5_begin_22 rfl rfl (q := 3) rfl ?_
          refine j_bipush X dX5_begin_23 rfl (v := 8) (by decide) ?_
          refine j_icmp_le X dX5_begin_25 rfl (tgt := 38) (by decide) (fun c_25 => ?_) (fun c_25 => ?_)
          · exact (hb c_2 c_7 c_14 c_19 c_25).elim
          · exact K _ 28 55 _ (List.mem_of_getElem? (i := 4) rfl) dX5_begin_28 dX5_begin_31 dX5_begin_32 dX5_begin_34 dX5_begin_37
set_option maxRecDepth 100000 in
set_option maxHeartbeats 4000000 in
theorem t_X5_setPolicy (l : Launch) (hfl : l.stackTraces = false) (Z : wZ) (S : St) (h : Hl) (x : Int32) (hx : pIsPol x = false) : Ct l yX5_setPolicy cX5_setPolicy 3 .int 6 82 Z [.ref (zA Z (6) (0) (0)), .int (x)] S h "java/lang/IllegalArgumentException" := by
  refine Ct.of hfl (ik := 53) (ic := 57) (List.mem_of_getElem? (i := 0) rfl) rfl (Nat.le_of_ble_eq_true rfl) (Nat.le_of_ble_eq_true rfl) rfl (Nat.le_of_ble_eq_true rfl) (fun p e s mi args below meth c A0 Q X K => ?_)
  refine j_at rfl rfl (Ls3 := [(0, .ref (zA Z (6) (0) (0))), (1, .int (x))]) rfl rfl ?_
  refine j_iload_n X dX5_setPolicy_0 rfl rfl (q := 1) rfl ?_
  refine j_callSi X (c_X5_isPolicy l Z S h (x)) lk_RX5_49 mt_X5_isPolicy ini_RX5 mc_X5_isPolicy md_X5_isPolicy ⟨Nat.le_of_ble_eq_true rfl, Nat.le_of_ble_eq_true rfl⟩ ⟨Nat.le_of_ble_eq_true rfl, Nat.le_of_ble_eq_true rfl⟩ rfl (Nat.le_of_ble_eq_true rfl) (as := [.int (x)]) (rest := []) rfl dX5_setPolicy_1 rfl ?_
  refine j_if_ne_f X dX5_setPolicy_4 rfl (tgt := 17) (by decide) (by rw [hx]; decide) ?_
  exact K _ 7 76 _ (List.mem_of_getElem? (i := 5) rfl) dX5_setPolicy_7 dX5_setPolicy_10 dX5_setPolicy_11 dX5_setPolicy_13 dX5_setPolicy_16
set_option maxRecDepth 100000 in
set_option maxHeartbeats 4000000 in
theorem t_X5_seed (l : Launch) (hfl : l.stackTraces = false) (Z : wZ) (S : St) (h : Hl) (x : Int32) (hb : ¬ x < 0 → x ≤ 999999 → False) : Ct l yX5_seed cX5_seed 3 .int 6 82 Z [.ref (zA Z (6) (0) (0)), .int (x)] S h "java/lang/IllegalArgumentException" := by
  refine Ct.of hfl (ik := 53) (ic := 57) (List.mem_of_getElem? (i := 0) rfl) rfl (Nat.le_of_ble_eq_true rfl) (Nat.le_of_ble_eq_true rfl) rfl (Nat.le_of_ble_eq_true rfl) (fun p e s mi args below meth c A0 Q X K => ?_)
  refine j_at rfl rfl (Ls3 := [(0, .ref (zA Z (6) (0) (0))), (1, .int (x))]) rfl rfl ?_
  refine j_iload_n X dX5_seed_0 rfl rfl (q := 1) rfl ?_
  refine j_if_lt X dX5_seed_1 rfl (tgt := 10) (by decide) (fun c_1 => ?_) (fun c_1 => ?_)
  · exact K _ 10 82 _ (List.mem_of_getElem? (i := 6) rfl) dX5_seed_10 dX5_seed_13 dX5_seed_14 dX5_seed_16 dX5_seed_19
  · refine j_iload_n X dX5_seed_4 rfl rfl (q := 1) rfl ?_
    refine j_ldc X (v := 999999) dX5_seed_5 rfl (List.mem_of_getElem? (i := 289) (by decide +kernel)) ?_
    refine j_icmp_le X dX5_seed_7 rfl (tgt := 20) (by decide) (fun c_7 => ?_) (fun c_7 => ?_)
    · exact (hb c_1 c_7).elim
    · exact K _ 10 82 _ (List.mem_of_getElem? (i := 6) rfl) dX5_seed_10 dX5_seed_13 dX5_seed_14 dX5_seed_16 dX5_seed_19
set_option maxRecDepth 100000 in
set_option maxHeartbeats 4000000 in
theorem t_X5_append (l : Launch) (hfl : l.stackTraces = false) (Z : wZ) (S : St) (h : Hl) (x : Int32) (hb : ¬ x < 0 → x ≤ 127 → False) : Ct l yX5_append cX5_append 2 .int 6 82 Z [.ref (zA Z (6) (0) (0)), .int (x)] S h "java/lang/IllegalArgumentException" := by
  refine Ct.of hfl (ik := 53) (ic := 57) (List.mem_of_getElem? (i := 0) rfl) rfl (Nat.le_of_ble_eq_true rfl) (Nat.le_of_ble_eq_true rfl) rfl (Nat.le_of_ble_eq_true rfl) (fun p e s mi args below meth c A0 Q X K => ?_)
  refine j_at rfl rfl (Ls3 := [(0, .ref (zA Z (6) (0) (0))), (1, .int (x))]) rfl rfl ?_
  refine j_iload_n X dX5_append_0 rfl rfl (q := 1) rfl ?_
  refine j_if_lt X dX5_append_1 rfl (tgt := 10) (by decide) (fun c_1 => ?_) (fun c_1 => ?_)
  · exact K _ 10 87 _ (List.mem_of_getElem? (i := 7) rfl) dX5_append_10 dX5_append_13 dX5_append_14 dX5_append_16 dX5_append_19
  · refine j_iload_n X dX5_append_4 rfl rfl (q := 1) rfl ?_
    refine j_bipush X dX5_append_5 rfl (v := 127) (by decide) ?_
    refine j_icmp_le X dX5_append_7 rfl (tgt := 20) (by decide) (fun c_7 => ?_) (fun c_7 => ?_)
    · exact (hb c_1 c_7).elim
    · exact K _ 10 87 _ (List.mem_of_getElem? (i := 7) rfl) dX5_append_10 dX5_append_13 dX5_append_14 dX5_append_16 dX5_append_19
set_option maxRecDepth 100000 in
set_option maxHeartbeats 4000000 in
theorem t_X5_append_full (l : Launch) (hfl : l.stackTraces = false) (Z : wZ) (S : St) (h : Hl) (x : Int32) (h1 : ¬ x < 0) (h2 : x ≤ 127) (hfull : S 6 0 0 1 = 120) : Ct l yX5_append cX5_append 2 .int 6 82 Z [.ref (zA Z (6) (0) (0)), .int (x)] S h "java/lang/IllegalStateException" := by
  refine Ct.of hfl (ik := 89) (ic := 93) (List.mem_of_getElem? (i := 1) rfl) rfl (Nat.le_of_ble_eq_true rfl) (Nat.le_of_ble_eq_true rfl) rfl (Nat.le_of_ble_eq_true rfl) (fun p e s mi args below meth c A0 Q X K => ?_)
  refine j_at rfl rfl (Ls3 := [(0, .ref (zA Z (6) (0) (0))), (1, .int (x))]) rfl rfl ?_
  refine j_iload_n X dX5_append_0 rfl rfl (q := 1) rfl ?_
  refine j_if_lt_f X dX5_append_1 rfl (tgt := 10) (by decide) h1 ?_
  refine j_iload_n X dX5_append_4 rfl rfl (q := 1) rfl ?_
  refine j_bipush X dX5_append_5 rfl (v := 127) (by decide) ?_
  refine j_icmp_le_t X (tgt := 20) dX5_append_7 (by decide) h2 ?_
  refine j_aload_n X dX5_append_20 rfl rfl (q := 0) rfl ?_
  refine jg_top X 1 (by decide) lk_RX5_13 rfl rfl dX5_append_21 rfl ?_
  refine j_topeq (y := (120)) (hfull) ?_
  refine j_if_lt_f X dX5_append_24 rfl (tgt := 36) (by decide) (by decide) ?_
  refine j_aload_n X dX5_append_27 rfl rfl (q := 0) rfl ?_
  refine jg_top X 1 (by decide) lk_RX5_13 rfl rfl dX5_append_28 rfl ?_
  refine j_topeq (y := (120)) (hfull) ?_
  refine j_bipush X dX5_append_31 rfl (v := 120) (by decide) ?_
  refine j_icmp_lt_f X dX5_append_33 rfl (tgt := 46) (by decide) (by decide) ?_
  exact K _ 36 91 _ (List.mem_of_getElem? (i := 8) rfl) dX5_append_36 dX5_append_39 dX5_append_40 dX5_append_42 dX5_append_45
set_option maxRecDepth 100000 in
set_option maxHeartbeats 4000000 in
theorem t_X5_load (l : Launch) (hfl : l.stackTraces = false) (Z : wZ) (S : St) (h : Hl) (x : Int32) (hx : pHasC S 0 x = false) : Ct l yX5_load cX5_load 3 .int 6 82 Z [.ref (zA Z (6) (0) (0)), .int (x)] S h "java/lang/IndexOutOfBoundsException" := by
  refine Ct.of hfl (ik := 97) (ic := 101) (List.mem_of_getElem? (i := 2) rfl) rfl (Nat.le_of_ble_eq_true rfl) (Nat.le_of_ble_eq_true rfl) rfl (Nat.le_of_ble_eq_true rfl) (fun p e s mi args below meth c A0 Q X K => ?_)
  refine j_at rfl rfl (Ls3 := [(0, .ref (zA Z (6) (0) (0))), (1, .int (x))]) rfl rfl ?_
  refine j_aload_n X dX5_load_0 rfl rfl (q := 0) rfl ?_
  refine jg_top X 3 (by decide) lk_RX5_29 rfl rfl dX5_load_1 rfl ?_
  refine j_iload_n X dX5_load_4 rfl rfl (q := 1) rfl ?_
  refine j_callNi X (c_X2_hasCore l Z S h 0 (by decide) (x)) (wm_mach (by decide) (by decide)) (wE_mach (by decide) 0 _) rfl nk_RX5_94 mi_X2_hasCore ms_X2_hasCore ini_RX2 mc_X2_hasCore md_X2_hasCore ⟨Nat.le_of_ble_eq_true rfl, Nat.le_of_ble_eq_true rfl⟩ ⟨Nat.le_of_ble_eq_true rfl, Nat.le_of_ble_eq_true rfl⟩ rfl (Nat.le_of_ble_eq_true rfl) (as := [.int (x)]) (rest := []) rfl dX5_load_5 rfl ?_
  refine j_if_ne_f X dX5_load_8 rfl (tgt := 21) (by decide) (by rw [hx]; decide) ?_
  exact K _ 11 99 _ (List.mem_of_getElem? (i := 0) rfl) dX5_load_11 dX5_load_14 dX5_load_15 dX5_load_17 dX5_load_20
set_option maxRecDepth 100000 in
set_option maxHeartbeats 4000000 in
theorem t_X5_load_tr (l : Launch) (hfl : l.stackTraces = false) (Z : wZ) (S : St) (h : Hl) (a : Nat) (ha : a < 4) (hc : pHasC S 0 (nI a) = true) (ht : pInT S 0 a = true) : Ct l yX5_load cX5_load 3 .int 6 82 Z [.ref (zA Z (6) (0) (0)), .int (nI (a))] S h "java/lang/IllegalStateException" := by
  refine Ct.of hfl (ik := 89) (ic := 93) (List.mem_of_getElem? (i := 1) rfl) rfl (Nat.le_of_ble_eq_true rfl) (Nat.le_of_ble_eq_true rfl) rfl (Nat.le_of_ble_eq_true rfl) (fun p e s mi args below meth c A0 Q X K => ?_)
  refine j_at rfl rfl (Ls3 := [(0, .ref (zA Z (6) (0) (0))), (1, .int (nI (a)))]) rfl rfl ?_
  refine j_aload_n X dX5_load_0 rfl rfl (q := 0) rfl ?_
  refine jg_top X 3 (by decide) lk_RX5_29 rfl rfl dX5_load_1 rfl ?_
  refine j_iload_n X dX5_load_4 rfl rfl (q := 1) rfl ?_
  refine j_callNi X (c_X2_hasCore l Z S h 0 (by decide) (nI (a))) (wm_mach (by decide) (by decide)) (wE_mach (by decide) 0 _) rfl nk_RX5_94 mi_X2_hasCore ms_X2_hasCore ini_RX2 mc_X2_hasCore md_X2_hasCore ⟨Nat.le_of_ble_eq_true rfl, Nat.le_of_ble_eq_true rfl⟩ ⟨Nat.le_of_ble_eq_true rfl, Nat.le_of_ble_eq_true rfl⟩ rfl (Nat.le_of_ble_eq_true rfl) (as := [.int (nI (a))]) (rest := []) rfl dX5_load_5 rfl ?_
  refine j_if_ne_t X (tgt := 21) dX5_load_8 (by decide) (by rw [hc]; decide) ?_
  refine j_aload_n X dX5_load_21 rfl rfl (q := 0) rfl ?_
  refine jg_top X 3 (by decide) lk_RX5_29 rfl rfl dX5_load_22 rfl ?_
  refine jgN_mach X (by decide) 0 (by decide) nk_RX5_102 rfl rfl dX5_load_25 rfl ?_
  refine j_iload_n X dX5_load_28 rfl rfl (q := 1) rfl ?_
  refine j_aldCN X (g := a) (by decide) ha dX5_load_29 rfl ?_
  refine j_callNi X (c_X0_inTransaction l Z S h 0 a (by decide) ha ) (wm_core (by decide) ha (by decide)) (wE_core (by decide) ha 0 _) rfl nk_RX5_106 mi_X0_inTransaction ms_X0_inTransaction ini_RX0 mc_X0_inTransaction md_X0_inTransaction ⟨Nat.le_of_ble_eq_true rfl, Nat.le_of_ble_eq_true rfl⟩ ⟨Nat.le_of_ble_eq_true rfl, Nat.le_of_ble_eq_true rfl⟩ rfl (Nat.le_of_ble_eq_true rfl) (as := []) (rest := []) rfl dX5_load_30 rfl ?_
  refine j_if_eq_f X dX5_load_33 rfl (tgt := 46) (by decide) (by rw [ht]; decide) ?_
  exact K _ 36 112 _ (List.mem_of_getElem? (i := 9) rfl) dX5_load_36 dX5_load_39 dX5_load_40 dX5_load_42 dX5_load_45
set_option maxRecDepth 100000 in
set_option maxHeartbeats 4000000 in
theorem t_X5_again (l : Launch) (hfl : l.stackTraces = false) (Z : wZ) (S : St) (h : Hl) (x : Int32) (hx : pHasC S 0 x = false) : Ct l yX5_again cX5_again 2 .int 6 82 Z [.ref (zA Z (6) (0) (0)), .int (x)] S h "java/lang/IndexOutOfBoundsException" := by
  refine Ct.of hfl (ik := 97) (ic := 101) (List.mem_of_getElem? (i := 2) rfl) rfl (Nat.le_of_ble_eq_true rfl) (Nat.le_of_ble_eq_true rfl) rfl (Nat.le_of_ble_eq_true rfl) (fun p e s mi args below meth c A0 Q X K => ?_)
  refine j_at rfl rfl (Ls3 := [(0, .ref (zA Z (6) (0) (0))), (1, .int (x))]) rfl rfl ?_
  refine j_aload_n X dX5_again_0 rfl rfl (q := 0) rfl ?_
  refine jg_top X 3 (by decide) lk_RX5_29 rfl rfl dX5_again_1 rfl ?_
  refine j_iload_n X dX5_again_4 rfl rfl (q := 1) rfl ?_
  refine j_callNi X (c_X2_hasCore l Z S h 0 (by decide) (x)) (wm_mach (by decide) (by decide)) (wE_mach (by decide) 0 _) rfl nk_RX5_94 mi_X2_hasCore ms_X2_hasCore ini_RX2 mc_X2_hasCore md_X2_hasCore ⟨Nat.le_of_ble_eq_true rfl, Nat.le_of_ble_eq_true rfl⟩ ⟨Nat.le_of_ble_eq_true rfl, Nat.le_of_ble_eq_true rfl⟩ rfl (Nat.le_of_ble_eq_true rfl) (as := [.int (x)]) (rest := []) rfl dX5_again_5 rfl ?_
  refine j_if_ne_f X dX5_again_8 rfl (tgt := 21) (by decide) (by rw [hx]; decide) ?_
  exact K _ 11 99 _ (List.mem_of_getElem? (i := 0) rfl) dX5_again_11 dX5_again_14 dX5_again_15 dX5_again_17 dX5_again_20
set_option maxRecDepth 100000 in
set_option maxHeartbeats 4000000 in
theorem t_X5_again_st (l : Launch) (hfl : l.stackTraces = false) (Z : wZ) (S : St) (h : Hl) (a : Nat) (ha : a < 4) (hc : pHasC S 0 (nI a) = true) (hb : pFin S 0 a = true → pInT S 0 a = false → False) : Ct l yX5_again cX5_again 2 .int 6 82 Z [.ref (zA Z (6) (0) (0)), .int (nI (a))] S h "java/lang/IllegalStateException" := by
  refine Ct.of hfl (ik := 89) (ic := 93) (List.mem_of_getElem? (i := 1) rfl) rfl (Nat.le_of_ble_eq_true rfl) (Nat.le_of_ble_eq_true rfl) rfl (Nat.le_of_ble_eq_true rfl) (fun p e s mi args below meth c A0 Q X K => ?_)
  refine j_at rfl rfl (Ls3 := [(0, .ref (zA Z (6) (0) (0))), (1, .int (nI (a)))]) rfl rfl ?_
  refine j_aload_n X dX5_again_0 rfl rfl (q := 0) rfl ?_
  refine jg_top X 3 (by decide) lk_RX5_29 rfl rfl dX5_again_1 rfl ?_
  refine j_iload_n X dX5_again_4 rfl rfl (q := 1) rfl ?_
  refine j_callNi X (c_X2_hasCore l Z S h 0 (by decide) (nI (a))) (wm_mach (by decide) (by decide)) (wE_mach (by decide) 0 _) rfl nk_RX5_94 mi_X2_hasCore ms_X2_hasCore ini_RX2 mc_X2_hasCore md_X2_hasCore ⟨Nat.le_of_ble_eq_true rfl, Nat.le_of_ble_eq_true rfl⟩ ⟨Nat.le_of_ble_eq_true rfl, Nat.le_of_ble_eq_true rfl⟩ rfl (Nat.le_of_ble_eq_true rfl) (as := [.int (nI (a))]) (rest := []) rfl dX5_again_5 rfl ?_
  refine j_if_ne_t X (tgt := 21) dX5_again_8 (by decide) (by rw [hc]; decide) ?_
  refine j_aload_n X dX5_again_21 rfl rfl (q := 0) rfl ?_
  refine jg_top X 3 (by decide) lk_RX5_29 rfl rfl dX5_again_22 rfl ?_
  refine jgN_mach X (by decide) 0 (by decide) nk_RX5_102 rfl rfl dX5_again_25 rfl ?_
  refine j_iload_n X dX5_again_28 rfl rfl (q := 1) rfl ?_
  refine j_aldCN X (g := a) (by decide) ha dX5_again_29 rfl ?_
  refine j_callNi X (c_X0_isFinished l Z S h 0 a (by decide) ha ) (wm_core (by decide) ha (by decide)) (wE_core (by decide) ha 0 _) rfl nk_RX5_132 mi_X0_isFinished ms_X0_isFinished ini_RX0 mc_X0_isFinished md_X0_isFinished ⟨Nat.le_of_ble_eq_true rfl, Nat.le_of_ble_eq_true rfl⟩ ⟨Nat.le_of_ble_eq_true rfl, Nat.le_of_ble_eq_true rfl⟩ rfl (Nat.le_of_ble_eq_true rfl) (as := []) (rest := []) rfl dX5_again_30 rfl ?_
  refine j_ifb_eq X dX5_again_33 rfl (tgt := 51) (by decide) (fun c_33 => ?_) (fun c_33 => ?_)
  · exact K _ 51 135 _ (List.mem_of_getElem? (i := 10) rfl) dX5_again_51 dX5_again_54 dX5_again_55 dX5_again_57 dX5_again_60
  · refine j_aload_n X dX5_again_36 rfl rfl (q := 0) rfl ?_
    refine jg_top X 3 (by decide) lk_RX5_29 rfl rfl dX5_again_37 rfl ?_
    refine jgN_mach X (by decide) 0 (by decide) nk_RX5_102 rfl rfl dX5_again_40 rfl ?_
    refine j_iload_n X dX5_again_43 rfl rfl (q := 1) rfl ?_
    refine j_aldCN X (g := a) (by decide) ha dX5_again_44 rfl ?_
    refine j_callNi X (c_X0_inTransaction l Z S h 0 a (by decide) ha ) (wm_core (by decide) ha (by decide)) (wE_core (by decide) ha 0 _) rfl nk_RX5_106 mi_X0_inTransaction ms_X0_inTransaction ini_RX0 mc_X0_inTransaction md_X0_inTransaction ⟨Nat.le_of_ble_eq_true rfl, Nat.le_of_ble_eq_true rfl⟩ ⟨Nat.le_of_ble_eq_true rfl, Nat.le_of_ble_eq_true rfl⟩ rfl (Nat.le_of_ble_eq_true rfl) (as := []) (rest := []) rfl dX5_again_45 rfl ?_
    refine j_ifb_eq X dX5_again_48 rfl (tgt := 61) (by decide) (fun c_48 => ?_) (fun c_48 => ?_)
    · exact (hb c_33 c_48).elim
    · exact K _ 51 135 _ (List.mem_of_getElem? (i := 10) rfl) dX5_again_51 dX5_again_54 dX5_again_55 dX5_again_57 dX5_again_60
set_option maxRecDepth 100000 in
set_option maxHeartbeats 4000000 in
theorem t_X5_step (l : Launch) (hfl : l.stackTraces = false) (Z : wZ) (S : St) (h : Hl) (x : Int32) (hx : pHasC S 0 x = false) : Ct l yX5_step cX5_step 2 .int 6 82 Z [.ref (zA Z (6) (0) (0)), .int (x)] S h "java/lang/IndexOutOfBoundsException" := by
  refine Ct.of hfl (ik := 97) (ic := 101) (List.mem_of_getElem? (i := 2) rfl) rfl (Nat.le_of_ble_eq_true rfl) (Nat.le_of_ble_eq_true rfl) rfl (Nat.le_of_ble_eq_true rfl) (fun p e s mi args below meth c A0 Q X K => ?_)
  refine j_at rfl rfl (Ls3 := [(0, .ref (zA Z (6) (0) (0))), (1, .int (x))]) rfl rfl ?_
  refine j_aload_n X dX5_step_0 rfl rfl (q := 0) rfl ?_
  refine jg_top X 3 (by decide) lk_RX5_29 rfl rfl dX5_step_1 rfl ?_
  refine j_iload_n X dX5_step_4 rfl rfl (q := 1) rfl ?_
  refine j_callNi X (c_X2_hasCore l Z S h 0 (by decide) (x)) (wm_mach (by decide) (by decide)) (wE_mach (by decide) 0 _) rfl nk_RX5_94 mi_X2_hasCore ms_X2_hasCore ini_RX2 mc_X2_hasCore md_X2_hasCore ⟨Nat.le_of_ble_eq_true rfl, Nat.le_of_ble_eq_true rfl⟩ ⟨Nat.le_of_ble_eq_true rfl, Nat.le_of_ble_eq_true rfl⟩ rfl (Nat.le_of_ble_eq_true rfl) (as := [.int (x)]) (rest := []) rfl dX5_step_5 rfl ?_
  refine j_if_ne_f X dX5_step_8 rfl (tgt := 21) (by decide) (by rw [hx]; decide) ?_
  exact K _ 11 99 _ (List.mem_of_getElem? (i := 0) rfl) dX5_step_11 dX5_step_14 dX5_step_15 dX5_step_17 dX5_step_20
set_option maxRecDepth 100000 in
set_option maxHeartbeats 4000000 in
theorem t_X5_step_fin (l : Launch) (hfl : l.stackTraces = false) (Z : wZ) (S : St) (h : Hl) (a : Nat) (ha : a < 4) (hc : pHasC S 0 (nI a) = true) (hf : pFin S 0 a = true) : Ct l yX5_step cX5_step 2 .int 6 82 Z [.ref (zA Z (6) (0) (0)), .int (nI (a))] S h "java/lang/IllegalStateException" := by
  refine Ct.of hfl (ik := 89) (ic := 93) (List.mem_of_getElem? (i := 1) rfl) rfl (Nat.le_of_ble_eq_true rfl) (Nat.le_of_ble_eq_true rfl) rfl (Nat.le_of_ble_eq_true rfl) (fun p e s mi args below meth c A0 Q X K => ?_)
  refine j_at rfl rfl (Ls3 := [(0, .ref (zA Z (6) (0) (0))), (1, .int (nI (a)))]) rfl rfl ?_
  refine j_aload_n X dX5_step_0 rfl rfl (q := 0) rfl ?_
  refine jg_top X 3 (by decide) lk_RX5_29 rfl rfl dX5_step_1 rfl ?_
  refine j_iload_n X dX5_step_4 rfl rfl (q := 1) rfl ?_
  refine j_callNi X (c_X2_hasCore l Z S h 0 (by decide) (nI (a))) (wm_mach (by decide) (by decide)) (wE_mach (by decide) 0 _) rfl nk_RX5_94 mi_X2_hasCore ms_X2_hasCore ini_RX2 mc_X2_hasCore md_X2_hasCore ⟨Nat.le_of_ble_eq_true rfl, Nat.le_of_ble_eq_true rfl⟩ ⟨Nat.le_of_ble_eq_true rfl, Nat.le_of_ble_eq_true rfl⟩ rfl (Nat.le_of_ble_eq_true rfl) (as := [.int (nI (a))]) (rest := []) rfl dX5_step_5 rfl ?_
  refine j_if_ne_t X (tgt := 21) dX5_step_8 (by decide) (by rw [hc]; decide) ?_
  refine j_aload_n X dX5_step_21 rfl rfl (q := 0) rfl ?_
  refine jg_top X 3 (by decide) lk_RX5_29 rfl rfl dX5_step_22 rfl ?_
  refine jgN_mach X (by decide) 0 (by decide) nk_RX5_102 rfl rfl dX5_step_25 rfl ?_
  refine j_iload_n X dX5_step_28 rfl rfl (q := 1) rfl ?_
  refine j_aldCN X (g := a) (by decide) ha dX5_step_29 rfl ?_
  refine j_callNi X (c_X0_isFinished l Z S h 0 a (by decide) ha ) (wm_core (by decide) ha (by decide)) (wE_core (by decide) ha 0 _) rfl nk_RX5_132 mi_X0_isFinished ms_X0_isFinished ini_RX0 mc_X0_isFinished md_X0_isFinished ⟨Nat.le_of_ble_eq_true rfl, Nat.le_of_ble_eq_true rfl⟩ ⟨Nat.le_of_ble_eq_true rfl, Nat.le_of_ble_eq_true rfl⟩ rfl (Nat.le_of_ble_eq_true rfl) (as := []) (rest := []) rfl dX5_step_30 rfl ?_
  refine j_if_eq_f X dX5_step_33 rfl (tgt := 46) (by decide) (by rw [hf]; decide) ?_
  exact K _ 36 140 _ (List.mem_of_getElem? (i := 11) rfl) dX5_step_36 dX5_step_39 dX5_step_40 dX5_step_42 dX5_step_45
set_option maxRecDepth 100000 in
set_option maxHeartbeats 4000000 in
theorem t_X5_run (l : Launch) (hfl : l.stackTraces = false) (Z : wZ) (S : St) (h : Hl) (x : Int32) (hx : pIsRun x = false) : Ct l yX5_run cX5_run 2 .int 6 82 Z [.ref (zA Z (6) (0) (0)), .int (x)] S h "java/lang/IllegalArgumentException" := by
  refine Ct.of hfl (ik := 53) (ic := 57) (List.mem_of_getElem? (i := 0) rfl) rfl (Nat.le_of_ble_eq_true rfl) (Nat.le_of_ble_eq_true rfl) rfl (Nat.le_of_ble_eq_true rfl) (fun p e s mi args below meth c A0 Q X K => ?_)
  refine j_at rfl rfl (Ls3 := [(0, .ref (zA Z (6) (0) (0))), (1, .int (x))]) rfl rfl ?_
  refine j_iload_n X dX5_run_0 rfl rfl (q := 1) rfl ?_
  refine j_callSi X (c_X5_isRunLength l Z S h (x)) lk_RX5_146 mt_X5_isRunLength ini_RX5 mc_X5_isRunLength md_X5_isRunLength ⟨Nat.le_of_ble_eq_true rfl, Nat.le_of_ble_eq_true rfl⟩ ⟨Nat.le_of_ble_eq_true rfl, Nat.le_of_ble_eq_true rfl⟩ rfl (Nat.le_of_ble_eq_true rfl) (as := [.int (x)]) (rest := []) rfl dX5_run_1 rfl ?_
  refine j_if_ne_f X dX5_run_4 rfl (tgt := 17) (by decide) (by rw [hx]; decide) ?_
  exact K _ 7 149 _ (List.mem_of_getElem? (i := 12) rfl) dX5_run_7 dX5_run_10 dX5_run_11 dX5_run_13 dX5_run_16
set_option maxRecDepth 100000 in
set_option maxHeartbeats 4000000 in
theorem t_X5_poke (l : Launch) (hfl : l.stackTraces = false) (Z : wZ) (S : St) (h : Hl) (x y : Int32) (hx : pIsLine x = false) : Ct l yX5_poke cX5_poke 3 .int 6 82 Z [.ref (zA Z (6) (0) (0)), .int (x), .int (y)] S h "java/lang/IndexOutOfBoundsException" := by
  refine Ct.of hfl (ik := 97) (ic := 101) (List.mem_of_getElem? (i := 2) rfl) rfl (Nat.le_of_ble_eq_true rfl) (Nat.le_of_ble_eq_true rfl) rfl (Nat.le_of_ble_eq_true rfl) (fun p e s mi args below meth c A0 Q X K => ?_)
  refine j_at rfl rfl (Ls3 := [(0, .ref (zA Z (6) (0) (0))), (1, .int (x)), (2, .int (y))]) rfl rfl ?_
  refine j_iload_n X dX5_poke_0 rfl rfl (q := 1) rfl ?_
  refine j_callSi X (c_X5_isLine l Z S h (x)) lk_RX5_158 mt_X5_isLine ini_RX5 mc_X5_isLine md_X5_isLine ⟨Nat.le_of_ble_eq_true rfl, Nat.le_of_ble_eq_true rfl⟩ ⟨Nat.le_of_ble_eq_true rfl, Nat.le_of_ble_eq_true rfl⟩ rfl (Nat.le_of_ble_eq_true rfl) (as := [.int (x)]) (rest := []) rfl dX5_poke_1 rfl ?_
  refine j_if_ne_f X dX5_poke_4 rfl (tgt := 17) (by decide) (by rw [hx]; decide) ?_
  exact K _ 7 161 _ (List.mem_of_getElem? (i := 3) rfl) dX5_poke_7 dX5_poke_10 dX5_poke_11 dX5_poke_13 dX5_poke_16
set_option maxRecDepth 100000 in
set_option maxHeartbeats 4000000 in
theorem t_X5_state (l : Launch) (hfl : l.stackTraces = false) (Z : wZ) (S : St) (h : Hl) (x y : Int32) (hb : pHasC S 0 x = true → pIsLine y = true → False) : Ct l yX5_state cX5_state 3 .int 6 82 Z [.ref (zA Z (6) (0) (0)), .int (x), .int (y)] S h "java/lang/IndexOutOfBoundsException" := by
  refine Ct.of hfl (ik := 97) (ic := 101) (List.mem_of_getElem? (i := 2) rfl) rfl (Nat.le_of_ble_eq_true rfl) (Nat.le_of_ble_eq_true rfl) rfl (Nat.le_of_ble_eq_true rfl) (fun p e s mi args below meth c A0 Q X K => ?_)
  refine j_at rfl rfl (Ls3 := [(0, .ref (zA Z (6) (0) (0))), (1, .int (x)), (2, .int (y))]) rfl rfl ?_
  refine j_aload_n X dX5_state_0 rfl rfl (q := 0) rfl ?_
  refine jg_top X 3 (by decide) lk_RX5_29 rfl rfl dX5_state_1 rfl ?_
  refine j_iload_n X dX5_state_4 rfl rfl (q := 1) rfl ?_
  refine j_callNi X (c_X2_hasCore l Z S h 0 (by decide) (x)) (wm_mach (by decide) (by decide)) (wE_mach (by decide) 0 _) rfl nk_RX5_94 mi_X2_hasCore ms_X2_hasCore ini_RX2 mc_X2_hasCore md_X2_hasCore ⟨Nat.le_of_ble_eq_true rfl, Nat.le_of_ble_eq_true rfl⟩ ⟨Nat.le_of_ble_eq_true rfl, Nat.le_of_ble_eq_true rfl⟩ rfl (Nat.le_of_ble_eq_true rfl) (as := [.int (x)]) (rest := []) rfl dX5_state_5 rfl ?_
  refine j_ifb_eq X dX5_state_8 rfl (tgt := 18) (by decide) (fun c_8 => ?_) (fun c_8 => ?_)
  · exact K _ 18 167 _ (List.mem_of_getElem? (i := 2) rfl) dX5_state_18 dX5_state_21 dX5_state_22 dX5_state_24 dX5_state_27
  · refine j_iload_n X dX5_state_11 rfl rfl (q := 2) rfl ?_
    refine j_callSi X (c_X5_isLine l Z S h (y)) lk_RX5_158 mt_X5_isLine ini_RX5 mc_X5_isLine md_X5_isLine ⟨Nat.le_of_ble_eq_true rfl, Nat.le_of_ble_eq_true rfl⟩ ⟨Nat.le_of_ble_eq_true rfl, Nat.le_of_ble_eq_true rfl⟩ rfl (Nat.le_of_ble_eq_true rfl) (as := [.int (y)]) (rest := []) rfl dX5_state_12 rfl ?_
    refine j_ifb_ne X dX5_state_15 rfl (tgt := 28) (by decide) (fun c_15 => ?_) (fun c_15 => ?_)
    · exact (hb c_8 c_15).elim
    · exact K _ 18 167 _ (List.mem_of_getElem? (i := 2) rfl) dX5_state_18 dX5_state_21 dX5_state_22 dX5_state_24 dX5_state_27
set_option maxRecDepth 100000 in
set_option maxHeartbeats 4000000 in
theorem t_X5_cached (l : Launch) (hfl : l.stackTraces = false) (Z : wZ) (S : St) (h : Hl) (x y : Int32) (hb : pHasC S 0 x = true → pIsLine y = true → False) : Ct l yX5_cached cX5_cached 4 .int 6 82 Z [.ref (zA Z (6) (0) (0)), .int (x), .int (y)] S h "java/lang/IndexOutOfBoundsException" := by
  refine Ct.of hfl (ik := 97) (ic := 101) (List.mem_of_getElem? (i := 2) rfl) rfl (Nat.le_of_ble_eq_true rfl) (Nat.le_of_ble_eq_true rfl) rfl (Nat.le_of_ble_eq_true rfl) (fun p e s mi args below meth c A0 Q X K => ?_)
  refine j_at rfl rfl (Ls3 := [(0, .ref (zA Z (6) (0) (0))), (1, .int (x)), (2, .int (y))]) rfl rfl ?_
  refine j_aload_n X dX5_cached_0 rfl rfl (q := 0) rfl ?_
  refine jg_top X 3 (by decide) lk_RX5_29 rfl rfl dX5_cached_1 rfl ?_
  refine j_iload_n X dX5_cached_4 rfl rfl (q := 1) rfl ?_
  refine j_callNi X (c_X2_hasCore l Z S h 0 (by decide) (x)) (wm_mach (by decide) (by decide)) (wE_mach (by decide) 0 _) rfl nk_RX5_94 mi_X2_hasCore ms_X2_hasCore ini_RX2 mc_X2_hasCore md_X2_hasCore ⟨Nat.le_of_ble_eq_true rfl, Nat.le_of_ble_eq_true rfl⟩ ⟨Nat.le_of_ble_eq_true rfl, Nat.le_of_ble_eq_true rfl⟩ rfl (Nat.le_of_ble_eq_true rfl) (as := [.int (x)]) (rest := []) rfl dX5_cached_5 rfl ?_
  refine j_ifb_eq X dX5_cached_8 rfl (tgt := 18) (by decide) (fun c_8 => ?_) (fun c_8 => ?_)
  · exact K _ 18 167 _ (List.mem_of_getElem? (i := 2) rfl) dX5_cached_18 dX5_cached_21 dX5_cached_22 dX5_cached_24 dX5_cached_27
  · refine j_iload_n X dX5_cached_11 rfl rfl (q := 2) rfl ?_
    refine j_callSi X (c_X5_isLine l Z S h (y)) lk_RX5_158 mt_X5_isLine ini_RX5 mc_X5_isLine md_X5_isLine ⟨Nat.le_of_ble_eq_true rfl, Nat.le_of_ble_eq_true rfl⟩ ⟨Nat.le_of_ble_eq_true rfl, Nat.le_of_ble_eq_true rfl⟩ rfl (Nat.le_of_ble_eq_true rfl) (as := [.int (y)]) (rest := []) rfl dX5_cached_12 rfl ?_
    refine j_ifb_ne X dX5_cached_15 rfl (tgt := 28) (by decide) (fun c_15 => ?_) (fun c_15 => ?_)
    · exact (hb c_8 c_15).elim
    · exact K _ 18 167 _ (List.mem_of_getElem? (i := 2) rfl) dX5_cached_18 dX5_cached_21 dX5_cached_22 dX5_cached_24 dX5_cached_27
set_option maxRecDepth 100000 in
set_option maxHeartbeats 4000000 in
theorem t_X5_memory (l : Launch) (hfl : l.stackTraces = false) (Z : wZ) (S : St) (h : Hl) (x : Int32) (w : Bool) (hx : pIsLine x = false) : Ct l yX5_memory cX5_memory 3 .int 6 82 Z [.ref (zA Z (6) (0) (0)), .int (x), .int (bI (w))] S h "java/lang/IndexOutOfBoundsException" := by
  refine Ct.of hfl (ik := 97) (ic := 101) (List.mem_of_getElem? (i := 2) rfl) rfl (Nat.le_of_ble_eq_true rfl) (Nat.le_of_ble_eq_true rfl) rfl (Nat.le_of_ble_eq_true rfl) (fun p e s mi args below meth c A0 Q X K => ?_)
  refine j_at rfl rfl (Ls3 := [(0, .ref (zA Z (6) (0) (0))), (1, .int (x)), (2, .int (bI (w)))]) rfl rfl ?_
  refine j_iload_n X dX5_memory_0 rfl rfl (q := 1) rfl ?_
  refine j_callSi X (c_X5_isLine l Z S h (x)) lk_RX5_158 mt_X5_isLine ini_RX5 mc_X5_isLine md_X5_isLine ⟨Nat.le_of_ble_eq_true rfl, Nat.le_of_ble_eq_true rfl⟩ ⟨Nat.le_of_ble_eq_true rfl, Nat.le_of_ble_eq_true rfl⟩ rfl (Nat.le_of_ble_eq_true rfl) (as := [.int (x)]) (rest := []) rfl dX5_memory_1 rfl ?_
  refine j_if_ne_f X dX5_memory_4 rfl (tgt := 17) (by decide) (by rw [hx]; decide) ?_
  exact K _ 7 161 _ (List.mem_of_getElem? (i := 3) rfl) dX5_memory_7 dX5_memory_10 dX5_memory_11 dX5_memory_13 dX5_memory_16
set_option maxRecDepth 100000 in
set_option maxHeartbeats 4000000 in
theorem t_X5_set (l : Launch) (hfl : l.stackTraces = false) (Z : wZ) (S : St) (h : Hl) (x : Int32) (w : Bool) (hx : pHasC S 0 x = false) : Ct l yX5_set cX5_set 3 .int 6 82 Z [.ref (zA Z (6) (0) (0)), .int (x), .int (bI (w))] S h "java/lang/IndexOutOfBoundsException" := by
  refine Ct.of hfl (ik := 97) (ic := 101) (List.mem_of_getElem? (i := 2) rfl) rfl (Nat.le_of_ble_eq_true rfl) (Nat.le_of_ble_eq_true rfl) rfl (Nat.le_of_ble_eq_true rfl) (fun p e s mi args below meth c A0 Q X K => ?_)
  refine j_at rfl rfl (Ls3 := [(0, .ref (zA Z (6) (0) (0))), (1, .int (x)), (2, .int (bI (w)))]) rfl rfl ?_
  refine j_aload_n X dX5_set_0 rfl rfl (q := 0) rfl ?_
  refine jg_top X 3 (by decide) lk_RX5_29 rfl rfl dX5_set_1 rfl ?_
  refine j_iload_n X dX5_set_4 rfl rfl (q := 1) rfl ?_
  refine j_callNi X (c_X2_hasCore l Z S h 0 (by decide) (x)) (wm_mach (by decide) (by decide)) (wE_mach (by decide) 0 _) rfl nk_RX5_94 mi_X2_hasCore ms_X2_hasCore ini_RX2 mc_X2_hasCore md_X2_hasCore ⟨Nat.le_of_ble_eq_true rfl, Nat.le_of_ble_eq_true rfl⟩ ⟨Nat.le_of_ble_eq_true rfl, Nat.le_of_ble_eq_true rfl⟩ rfl (Nat.le_of_ble_eq_true rfl) (as := [.int (x)]) (rest := []) rfl dX5_set_5 rfl ?_
  refine j_if_ne_f X dX5_set_8 rfl (tgt := 21) (by decide) (by rw [hx]; decide) ?_
  exact K _ 11 99 _ (List.mem_of_getElem? (i := 0) rfl) dX5_set_11 dX5_set_14 dX5_set_15 dX5_set_17 dX5_set_20
set_option maxRecDepth 100000 in
set_option maxHeartbeats 4000000 in
theorem t_X5_core (l : Launch) (hfl : l.stackTraces = false) (Z : wZ) (S : St) (h : Hl) (x y : Int32) (hx : pHasC S 0 x = false) : Ct l yX5_core cX5_core 3 .int 6 82 Z [.ref (zA Z (6) (0) (0)), .int (x), .int (y)] S h "java/lang/IndexOutOfBoundsException" := by
  refine Ct.of hfl (ik := 97) (ic := 101) (List.mem_of_getElem? (i := 2) rfl) rfl (Nat.le_of_ble_eq_true rfl) (Nat.le_of_ble_eq_true rfl) rfl (Nat.le_of_ble_eq_true rfl) (fun p e s mi args below meth c A0 Q X K => ?_)
  refine j_at rfl rfl (Ls3 := [(0, .ref (zA Z (6) (0) (0))), (1, .int (x)), (2, .int (y))]) rfl rfl ?_
  refine j_aload_n X dX5_core_0 rfl rfl (q := 0) rfl ?_
  refine jg_top X 3 (by decide) lk_RX5_29 rfl rfl dX5_core_1 rfl ?_
  refine j_iload_n X dX5_core_4 rfl rfl (q := 1) rfl ?_
  refine j_callNi X (c_X2_hasCore l Z S h 0 (by decide) (x)) (wm_mach (by decide) (by decide)) (wE_mach (by decide) 0 _) rfl nk_RX5_94 mi_X2_hasCore ms_X2_hasCore ini_RX2 mc_X2_hasCore md_X2_hasCore ⟨Nat.le_of_ble_eq_true rfl, Nat.le_of_ble_eq_true rfl⟩ ⟨Nat.le_of_ble_eq_true rfl, Nat.le_of_ble_eq_true rfl⟩ rfl (Nat.le_of_ble_eq_true rfl) (as := [.int (x)]) (rest := []) rfl dX5_core_5 rfl ?_
  refine j_if_ne_f X dX5_core_8 rfl (tgt := 21) (by decide) (by rw [hx]; decide) ?_
  exact K _ 11 99 _ (List.mem_of_getElem? (i := 0) rfl) dX5_core_11 dX5_core_14 dX5_core_15 dX5_core_17 dX5_core_20
set_option maxRecDepth 100000 in
set_option maxHeartbeats 4000000 in
theorem t_X5_core_what (l : Launch) (hfl : l.stackTraces = false) (Z : wZ) (S : St) (h : Hl) (x y : Int32) (hc : pHasC S 0 x = true) (hb : ¬ y < 0 → y < 6 → False) : Ct l yX5_core cX5_core 3 .int 6 82 Z [.ref (zA Z (6) (0) (0)), .int (x), .int (y)] S h "java/lang/IllegalArgumentException" := by
  refine Ct.of hfl (ik := 53) (ic := 57) (List.mem_of_getElem? (i := 0) rfl) rfl (Nat.le_of_ble_eq_true rfl) (Nat.le_of_ble_eq_true rfl) rfl (Nat.le_of_ble_eq_true rfl) (fun p e s mi args below meth c A0 Q X K => ?_)
  refine j_at rfl rfl (Ls3 := [(0, .ref (zA Z (6) (0) (0))), (1, .int (x)), (2, .int (y))]) rfl rfl ?_
  refine j_aload_n X dX5_core_0 rfl rfl (q := 0) rfl ?_
  refine jg_top X 3 (by decide) lk_RX5_29 rfl rfl dX5_core_1 rfl ?_
  refine j_iload_n X dX5_core_4 rfl rfl (q := 1) rfl ?_
  refine j_callNi X (c_X2_hasCore l Z S h 0 (by decide) (x)) (wm_mach (by decide) (by decide)) (wE_mach (by decide) 0 _) rfl nk_RX5_94 mi_X2_hasCore ms_X2_hasCore ini_RX2 mc_X2_hasCore md_X2_hasCore ⟨Nat.le_of_ble_eq_true rfl, Nat.le_of_ble_eq_true rfl⟩ ⟨Nat.le_of_ble_eq_true rfl, Nat.le_of_ble_eq_true rfl⟩ rfl (Nat.le_of_ble_eq_true rfl) (as := [.int (x)]) (rest := []) rfl dX5_core_5 rfl ?_
  refine j_if_ne_t X (tgt := 21) dX5_core_8 (by decide) (by rw [hc]; decide) ?_
  refine j_iload_n X dX5_core_21 rfl rfl (q := 2) rfl ?_
  refine j_if_lt X dX5_core_22 rfl (tgt := 31) (by decide) (fun c_22 => ?_) (fun c_22 => ?_)
  · exact K _ 31 187 _ (List.mem_of_getElem? (i := 1) rfl) dX5_core_31 dX5_core_34 dX5_core_35 dX5_core_37 dX5_core_40
  · refine j_iload_n X dX5_core_25 rfl rfl (q := 2) rfl ?_
    refine j_bipush X dX5_core_26 rfl (v := 6) (by decide) ?_
    refine j_icmp_lt X dX5_core_28 rfl (tgt := 41) (by decide) (fun c_28 => ?_) (fun c_28 => ?_)
    · exact (hb c_22 c_28).elim
    · exact K _ 31 187 _ (List.mem_of_getElem? (i := 1) rfl) dX5_core_31 dX5_core_34 dX5_core_35 dX5_core_37 dX5_core_40
set_option maxRecDepth 100000 in
set_option maxHeartbeats 4000000 in
theorem t_X5_value (l : Launch) (hfl : l.stackTraces = false) (Z : wZ) (S : St) (h : Hl) (y : Int32) (hb : ¬ y < 0 → y < 5 → False) : Ct l yX5_value cX5_value 2 .int 6 82 Z [.ref (zA Z (6) (0) (0)), .int (y)] S h "java/lang/IllegalArgumentException" := by
  refine Ct.of hfl (ik := 53) (ic := 57) (List.mem_of_getElem? (i := 0) rfl) rfl (Nat.le_of_ble_eq_true rfl) (Nat.le_of_ble_eq_true rfl) rfl (Nat.le_of_ble_eq_true rfl) (fun p e s mi args below meth c A0 Q X K => ?_)
  refine j_at rfl rfl (Ls3 := [(0, .ref (zA Z (6) (0) (0))), (1, .int (y))]) rfl rfl ?_
  refine j_iload_n X dX5_value_0 rfl rfl (q := 1) rfl ?_
  refine j_if_lt X dX5_value_1 rfl (tgt := 9) (by decide) (fun c_1 => ?_) (fun c_1 => ?_)
  · exact K _ 9 187 _ (List.mem_of_getElem? (i := 1) rfl) dX5_value_9 dX5_value_12 dX5_value_13 dX5_value_15 dX5_value_18
  · refine j_iload_n X dX5_value_4 rfl rfl (q := 1) rfl ?_
    refine j_iconst X dX5_value_5 rfl (v := 5) (by decide) ?_
    refine j_icmp_lt X dX5_value_6 rfl (tgt := 19) (by decide) (fun c_6 => ?_) (fun c_6 => ?_)
    · exact (hb c_1 c_6).elim
    · exact K _ 9 187 _ (List.mem_of_getElem? (i := 1) rfl) dX5_value_9 dX5_value_12 dX5_value_13 dX5_value_15 dX5_value_18
set_option maxRecDepth 100000 in
set_option maxHeartbeats 4000000 in
theorem t_X5_counter (l : Launch) (hfl : l.stackTraces = false) (Z : wZ) (S : St) (h : Hl) (y : Int32) (hb : ¬ y < 0 → y < 8 → False) : Ct l yX5_counter cX5_counter 2 .int 6 82 Z [.ref (zA Z (6) (0) (0)), .int (y)] S h "java/lang/IllegalArgumentException" := by
  refine Ct.of hfl (ik := 53) (ic := 57) (List.mem_of_getElem? (i := 0) rfl) rfl (Nat.le_of_ble_eq_true rfl) (Nat.le_of_ble_eq_true rfl) rfl (Nat.le_of_ble_eq_true rfl) (fun p e s mi args below meth c A0 Q X K => ?_)
  refine j_at rfl rfl (Ls3 := [(0, .ref (zA Z (6) (0) (0))), (1, .int (y))]) rfl rfl ?_
  refine j_iload_n X dX5_counter_0 rfl rfl (q := 1) rfl ?_
  refine j_if_lt X dX5_counter_1 rfl (tgt := 10) (by decide) (fun c_1 => ?_) (fun c_1 => ?_)
  · exact K _ 10 187 _ (List.mem_of_getElem? (i := 1) rfl) dX5_counter_10 dX5_counter_13 dX5_counter_14 dX5_counter_16 dX5_counter_19
  · refine j_iload_n X dX5_counter_4 rfl rfl (q := 1) rfl ?_
    refine j_bipush X dX5_counter_5 rfl (v := 8) (by decide) ?_
    refine j_icmp_lt X dX5_counter_7 rfl (tgt := 20) (by decide) (fun c_7 => ?_) (fun c_7 => ?_)
    · exact (hb c_1 c_7).elim
    · exact K _ 10 187 _ (List.mem_of_getElem? (i := 1) rfl) dX5_counter_10 dX5_counter_13 dX5_counter_14 dX5_counter_16 dX5_counter_19
set_option maxRecDepth 100000 in
set_option maxHeartbeats 4000000 in
theorem t_X5_commit (l : Launch) (hfl : l.stackTraces = false) (Z : wZ) (S : St) (h : Hl) (x y : Int32) (hx : pHasE S 0 x = false) : Ct l yX5_commit cX5_commit 3 .int 6 82 Z [.ref (zA Z (6) (0) (0)), .int (x), .int (y)] S h "java/lang/IndexOutOfBoundsException" := by
  refine Ct.of hfl (ik := 97) (ic := 101) (List.mem_of_getElem? (i := 2) rfl) rfl (Nat.le_of_ble_eq_true rfl) (Nat.le_of_ble_eq_true rfl) rfl (Nat.le_of_ble_eq_true rfl) (fun p e s mi args below meth c A0 Q X K => ?_)
  refine j_at rfl rfl (Ls3 := [(0, .ref (zA Z (6) (0) (0))), (1, .int (x)), (2, .int (y))]) rfl rfl ?_
  refine j_aload_n X dX5_commit_0 rfl rfl (q := 0) rfl ?_
  refine jg_top X 3 (by decide) lk_RX5_29 rfl rfl dX5_commit_1 rfl ?_
  refine jgN_mach X (by decide) 3 (by decide) nk_RX5_63 rfl rfl dX5_commit_4 rfl ?_
  refine j_iload_n X dX5_commit_7 rfl rfl (q := 1) rfl ?_
  refine j_callNi X (c_X1_hasEntry l Z S h 0 (by decide) (x)) (wm_mach (by decide) (by decide)) (wE_mach (by decide) 4 _) rfl nk_RX5_196 mi_X1_hasEntry ms_X1_hasEntry ini_RX1 mc_X1_hasEntry md_X1_hasEntry ⟨Nat.le_of_ble_eq_true rfl, Nat.le_of_ble_eq_true rfl⟩ ⟨Nat.le_of_ble_eq_true rfl, Nat.le_of_ble_eq_true rfl⟩ rfl (Nat.le_of_ble_eq_true rfl) (as := [.int (x)]) (rest := []) rfl dX5_commit_8 rfl ?_
  refine j_if_ne_f X dX5_commit_11 rfl (tgt := 24) (by decide) (by rw [hx]; decide) ?_
  exact K _ 14 199 _ (List.mem_of_getElem? (i := 13) rfl) dX5_commit_14 dX5_commit_17 dX5_commit_18 dX5_commit_20 dX5_commit_23
set_option maxRecDepth 100000 in
set_option maxHeartbeats 4000000 in
theorem t_X5_commit_what (l : Launch) (hfl : l.stackTraces = false) (Z : wZ) (S : St) (h : Hl) (x y : Int32) (hc : pHasE S 0 x = true) (hb : ¬ y < 0 → y < 4 → False) : Ct l yX5_commit cX5_commit 3 .int 6 82 Z [.ref (zA Z (6) (0) (0)), .int (x), .int (y)] S h "java/lang/IllegalArgumentException" := by
  refine Ct.of hfl (ik := 53) (ic := 57) (List.mem_of_getElem? (i := 0) rfl) rfl (Nat.le_of_ble_eq_true rfl) (Nat.le_of_ble_eq_true rfl) rfl (Nat.le_of_ble_eq_true rfl) (fun p e s mi args below meth c A0 Q X K => ?_)
  refine j_at rfl rfl (Ls3 := [(0, .ref (zA Z (6) (0) (0))), (1, .int (x)), (2, .int (y))]) rfl rfl ?_
  refine j_aload_n X dX5_commit_0 rfl rfl (q := 0) rfl ?_
  refine jg_top X 3 (by decide) lk_RX5_29 rfl rfl dX5_commit_1 rfl ?_
  refine jgN_mach X (by decide) 3 (by decide) nk_RX5_63 rfl rfl dX5_commit_4 rfl ?_
  refine j_iload_n X dX5_commit_7 rfl rfl (q := 1) rfl ?_
  refine j_callNi X (c_X1_hasEntry l Z S h 0 (by decide) (x)) (wm_mach (by decide) (by decide)) (wE_mach (by decide) 4 _) rfl nk_RX5_196 mi_X1_hasEntry ms_X1_hasEntry ini_RX1 mc_X1_hasEntry md_X1_hasEntry ⟨Nat.le_of_ble_eq_true rfl, Nat.le_of_ble_eq_true rfl⟩ ⟨Nat.le_of_ble_eq_true rfl, Nat.le_of_ble_eq_true rfl⟩ rfl (Nat.le_of_ble_eq_true rfl) (as := [.int (x)]) (rest := []) rfl dX5_commit_8 rfl ?_
  refine j_if_ne_t X (tgt := 24) dX5_commit_11 (by decide) (by rw [hc]; decide) ?_
  refine j_iload_n X dX5_commit_24 rfl rfl (q := 2) rfl ?_
  refine j_if_lt X dX5_commit_25 rfl (tgt := 33) (by decide) (fun c_25 => ?_) (fun c_25 => ?_)
  · exact K _ 33 187 _ (List.mem_of_getElem? (i := 1) rfl) dX5_commit_33 dX5_commit_36 dX5_commit_37 dX5_commit_39 dX5_commit_42
  · refine j_iload_n X dX5_commit_28 rfl rfl (q := 2) rfl ?_
    refine j_iconst X dX5_commit_29 rfl (v := 4) (by decide) ?_
    refine j_icmp_lt X dX5_commit_30 rfl (tgt := 43) (by decide) (fun c_30 => ?_) (fun c_30 => ?_)
    · exact (hb c_25 c_30).elim
    · exact K _ 33 187 _ (List.mem_of_getElem? (i := 1) rfl) dX5_commit_33 dX5_commit_36 dX5_commit_37 dX5_commit_39 dX5_commit_42
set_option maxRecDepth 100000 in
set_option maxHeartbeats 4000000 in
theorem t_X5_commitValue (l : Launch) (hfl : l.stackTraces = false) (Z : wZ) (S : St) (h : Hl) (x y : Int32) (w : Bool) (hb : pHasE S 0 x = true → pIsLine y = true → False) : Ct l yX5_commitValue cX5_commitValue 4 .int 6 82 Z [.ref (zA Z (6) (0) (0)), .int (x), .int (y), .int (bI (w))] S h "java/lang/IndexOutOfBoundsException" := by
  refine Ct.of hfl (ik := 97) (ic := 101) (List.mem_of_getElem? (i := 2) rfl) rfl (Nat.le_of_ble_eq_true rfl) (Nat.le_of_ble_eq_true rfl) rfl (Nat.le_of_ble_eq_true rfl) (fun p e s mi args below meth c A0 Q X K => ?_)
  refine j_at rfl rfl (Ls3 := [(0, .ref (zA Z (6) (0) (0))), (1, .int (x)), (2, .int (y)), (3, .int (bI (w)))]) rfl rfl ?_
  refine j_aload_n X dX5_commitValue_0 rfl rfl (q := 0) rfl ?_
  refine jg_top X 3 (by decide) lk_RX5_29 rfl rfl dX5_commitValue_1 rfl ?_
  refine jgN_mach X (by decide) 3 (by decide) nk_RX5_63 rfl rfl dX5_commitValue_4 rfl ?_
  refine j_iload_n X dX5_commitValue_7 rfl rfl (q := 1) rfl ?_
  refine j_callNi X (c_X1_hasEntry l Z S h 0 (by decide) (x)) (wm_mach (by decide) (by decide)) (wE_mach (by decide) 4 _) rfl nk_RX5_196 mi_X1_hasEntry ms_X1_hasEntry ini_RX1 mc_X1_hasEntry md_X1_hasEntry ⟨Nat.le_of_ble_eq_true rfl, Nat.le_of_ble_eq_true rfl⟩ ⟨Nat.le_of_ble_eq_true rfl, Nat.le_of_ble_eq_true rfl⟩ rfl (Nat.le_of_ble_eq_true rfl) (as := [.int (x)]) (rest := []) rfl dX5_commitValue_8 rfl ?_
  refine j_ifb_eq X dX5_commitValue_11 rfl (tgt := 21) (by decide) (fun c_11 => ?_) (fun c_11 => ?_)
  · exact K _ 21 203 _ (List.mem_of_getElem? (i := 14) rfl) dX5_commitValue_21 dX5_commitValue_24 dX5_commitValue_25 dX5_commitValue_27 dX5_commitValue_30
  · refine j_iload_n X dX5_commitValue_14 rfl rfl (q := 2) rfl ?_
    refine j_callSi X (c_X5_isLine l Z S h (y)) lk_RX5_158 mt_X5_isLine ini_RX5 mc_X5_isLine md_X5_isLine ⟨Nat.le_of_ble_eq_true rfl, Nat.le_of_ble_eq_true rfl⟩ ⟨Nat.le_of_ble_eq_true rfl, Nat.le_of_ble_eq_true rfl⟩ rfl (Nat.le_of_ble_eq_true rfl) (as := [.int (y)]) (rest := []) rfl dX5_commitValue_15 rfl ?_
    refine j_ifb_ne X dX5_commitValue_18 rfl (tgt := 31) (by decide) (fun c_18 => ?_) (fun c_18 => ?_)
    · exact (hb c_11 c_18).elim
    · exact K _ 21 203 _ (List.mem_of_getElem? (i := 14) rfl) dX5_commitValue_21 dX5_commitValue_24 dX5_commitValue_25 dX5_commitValue_27 dX5_commitValue_30
set_option maxRecDepth 100000 in
set_option maxHeartbeats 4000000 in
theorem t_X5_finish (l : Launch) (hfl : l.stackTraces = false) (Z : wZ) (S : St) (h : Hl) (x : Int32) (hx : pIsPol x = false) : Ct l yX5_finish cX5_finish 2 .int 6 82 Z [.ref (zA Z (6) (0) (0)), .int (x)] S h "java/lang/IllegalArgumentException" := by
  refine Ct.of hfl (ik := 53) (ic := 57) (List.mem_of_getElem? (i := 0) rfl) rfl (Nat.le_of_ble_eq_true rfl) (Nat.le_of_ble_eq_true rfl) rfl (Nat.le_of_ble_eq_true rfl) (fun p e s mi args below meth c A0 Q X K => ?_)
  refine j_at rfl rfl (Ls3 := [(0, .ref (zA Z (6) (0) (0))), (1, .int (x))]) rfl rfl ?_
  refine j_iload_n X dX5_finish_0 rfl rfl (q := 1) rfl ?_
  refine j_callSi X (c_X5_isPolicy l Z S h (x)) lk_RX5_49 mt_X5_isPolicy ini_RX5 mc_X5_isPolicy md_X5_isPolicy ⟨Nat.le_of_ble_eq_true rfl, Nat.le_of_ble_eq_true rfl⟩ ⟨Nat.le_of_ble_eq_true rfl, Nat.le_of_ble_eq_true rfl⟩ rfl (Nat.le_of_ble_eq_true rfl) (as := [.int (x)]) (rest := []) rfl dX5_finish_1 rfl ?_
  refine j_if_ne_f X dX5_finish_4 rfl (tgt := 17) (by decide) (by rw [hx]; decide) ?_
  exact K _ 7 76 _ (List.mem_of_getElem? (i := 5) rfl) dX5_finish_7 dX5_finish_10 dX5_finish_11 dX5_finish_13 dX5_finish_16
set_option maxRecDepth 100000 in
set_option maxHeartbeats 4000000 in
theorem t_X5_abortsWith (l : Launch) (hfl : l.stackTraces = false) (Z : wZ) (S : St) (h : Hl) (x y : Int32) (hb : pIsPol x = true → pIsRun y = true → False) : Ct l yX5_abortsWith cX5_abortsWith 4 .int 6 82 Z [.ref (zA Z (6) (0) (0)), .int (x), .int (y)] S h "java/lang/IllegalArgumentException" := by
  refine Ct.of hfl (ik := 53) (ic := 57) (List.mem_of_getElem? (i := 0) rfl) rfl (Nat.le_of_ble_eq_true rfl) (Nat.le_of_ble_eq_true rfl) rfl (Nat.le_of_ble_eq_true rfl) (fun p e s mi args below meth c A0 Q X K => ?_)
  refine j_at rfl rfl (Ls3 := [(0, .ref (zA Z (6) (0) (0))), (1, .int (x)), (2, .int (y))]) rfl rfl ?_
  refine j_iload_n X dX5_abortsWith_0 rfl rfl (q := 1) rfl ?_
  refine j_callSi X (c_X5_isPolicy l Z S h (x)) lk_RX5_49 mt_X5_isPolicy ini_RX5 mc_X5_isPolicy md_X5_isPolicy ⟨Nat.le_of_ble_eq_true rfl, Nat.le_of_ble_eq_true rfl⟩ ⟨Nat.le_of_ble_eq_true rfl, Nat.le_of_ble_eq_true rfl⟩ rfl (Nat.le_of_ble_eq_true rfl) (as := [.int (x)]) (rest := []) rfl dX5_abortsWith_1 rfl ?_
  refine j_ifb_eq X dX5_abortsWith_4 rfl (tgt := 14) (by decide) (fun c_4 => ?_) (fun c_4 => ?_)
  · exact K _ 14 55 _ (List.mem_of_getElem? (i := 4) rfl) dX5_abortsWith_14 dX5_abortsWith_17 dX5_abortsWith_18 dX5_abortsWith_20 dX5_abortsWith_23
  · refine j_iload_n X dX5_abortsWith_7 rfl rfl (q := 2) rfl ?_
    refine j_callSi X (c_X5_isRunLength l Z S h (y)) lk_RX5_146 mt_X5_isRunLength ini_RX5 mc_X5_isRunLength md_X5_isRunLength ⟨Nat.le_of_ble_eq_true rfl, Nat.le_of_ble_eq_true rfl⟩ ⟨Nat.le_of_ble_eq_true rfl, Nat.le_of_ble_eq_true rfl⟩ rfl (Nat.le_of_ble_eq_true rfl) (as := [.int (y)]) (rest := []) rfl dX5_abortsWith_8 rfl ?_
    refine j_ifb_ne X dX5_abortsWith_11 rfl (tgt := 24) (by decide) (fun c_11 => ?_) (fun c_11 => ?_)
    · exact (hb c_4 c_11).elim
    · exact K _ 14 55 _ (List.mem_of_getElem? (i := 4) rfl) dX5_abortsWith_14 dX5_abortsWith_17 dX5_abortsWith_18 dX5_abortsWith_20 dX5_abortsWith_23
set_option maxRecDepth 100000 in
set_option maxHeartbeats 4000000 in
theorem t_X5_undo (l : Launch) (hfl : l.stackTraces = false) (Z : wZ) (S : St) (h : Hl) (hz : S 6 0 0 7 = 0) : Ct l yX5_undo cX5_undo 1 .int 6 82 Z [.ref (zA Z (6) (0) (0))] S h "java/lang/IllegalStateException" := by
  refine Ct.of hfl (ik := 89) (ic := 93) (List.mem_of_getElem? (i := 1) rfl) rfl (Nat.le_of_ble_eq_true rfl) (Nat.le_of_ble_eq_true rfl) rfl (Nat.le_of_ble_eq_true rfl) (fun p e s mi args below meth c A0 Q X K => ?_)
  refine j_at rfl rfl (Ls3 := [(0, .ref (zA Z (6) (0) (0)))]) rfl rfl ?_
  refine j_aload_n X dX5_undo_0 rfl rfl (q := 0) rfl ?_
  refine jg_top X 7 (by decide) lk_RX5_43 rfl rfl dX5_undo_1 rfl ?_
  refine j_topeq (y := (0)) (hz) ?_
  refine j_if_gt_f X dX5_undo_4 rfl (tgt := 17) (by decide) (by decide) ?_
  exact K _ 7 222 _ (List.mem_of_getElem? (i := 15) rfl) dX5_undo_7 dX5_undo_10 dX5_undo_11 dX5_undo_13 dX5_undo_16

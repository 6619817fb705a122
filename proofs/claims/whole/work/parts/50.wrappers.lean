/-! the law's own methods -/
set_option maxRecDepth 100000 in
set_option maxHeartbeats 4000000 in
theorem w_begin (l : Launch) (Z : wZ) (hO : zO Z = true) (S S1 : St) (h : Hl) (x : Int32) (y : Int32) (z : Int32) (v : Int32) (hC : Ci l yX5_begin cX5_begin 5 .int 5 102 Z [.ref (zA Z (6) (0) (0)), .int (x), .int (y), .int (z)] S h v S1 h) : Cw l yL_begin cL_begin 6 [(0, 12, 15, 13)] 6 126 Z [.ref (zA Z (6) (0) (0)), .int (x), .int (y), .int (z), .ref (zA Z 8 0 0)] S h 0 S1 (va_up h 1 v.toInt64) := by
  refine Cw.of rfl rfl (Nat.le_of_ble_eq_true rfl) (fun p e s mi args below meth c A0 Q X hSt hZ htab K => ?_)
  refine j_at rfl rfl (Ls3 := [(0, .ref (zA Z (6) (0) (0))), (1, .int (x)), (2, .int (y)), (3, .int (z)), (4, .ref (zA Z 8 0 0))]) rfl rfl ?_
  refine j_aload X dL_begin_0 rfl (q := 4) rfl ?_
  refine j_iconst X dL_begin_2 rfl (v := 0) (by decide) ?_
  refine j_aload_n X dL_begin_3 rfl rfl (q := 0) rfl ?_
  refine j_iload_n X dL_begin_4 rfl rfl (q := 1) rfl ?_
  refine j_iload_n X dL_begin_5 rfl rfl (q := 2) rfl ?_
  refine j_iload_n X dL_begin_6 rfl rfl (q := 3) rfl ?_
  refine j_calli X hC (wm_top (by decide)) ((fun _ => rfl) _) rfl lk_RL_7 mi_X5_begin ms_X5_begin ini_RX5 mc_X5_begin md_X5_begin ⟨Nat.le_of_ble_eq_true rfl, Nat.le_of_ble_eq_true rfl⟩ ⟨Nat.le_of_ble_eq_true rfl, Nat.le_of_ble_eq_true rfl⟩ rfl (Nat.le_of_ble_eq_true rfl) (as := [.int (x), .int (y), .int (z)]) (rest := [.int (0), .ref (zA Z 8 0 0)]) rfl dL_begin_7 rfl ?_
  refine j_i2l X dL_begin_10 rfl ?_
  refine j_last X hO dL_begin_11 rfl ?_
  refine j_goto X (tgt := 19) dL_begin_12 (by decide) ?_
  refine j_iconst X dL_begin_19 rfl (v := 0) (by decide) ?_
  refine j_widen (Nat.zero_le 1) (Nat.zero_le 6) ?_
  exact K _ _ dL_begin_20
set_option maxRecDepth 100000 in
set_option maxHeartbeats 4000000 in
theorem wt_begin (l : Launch) (Z : wZ) (S : St) (h : Hl) (x : Int32) (y : Int32) (z : Int32) (hC : Ct l yX5_begin cX5_begin 5 .int 6 82 Z [.ref (zA Z (6) (0) (0)), .int (x), .int (y), .int (z)] S h "java/lang/IllegalArgumentException") : Cw l yL_begin cL_begin 6 [(0, 12, 15, 13)] 7 106 Z [.ref (zA Z (6) (0) (0)), .int (x), .int (y), .int (z), .ref (zA Z 8 0 0)] S h 1 S h := by
  refine Cw.of rfl rfl (Nat.le_of_ble_eq_true rfl) (fun p e s mi args below meth c A0 Q X hSt hZ htab K => ?_)
  refine j_at rfl rfl (Ls3 := [(0, .ref (zA Z (6) (0) (0))), (1, .int (x)), (2, .int (y)), (3, .int (z)), (4, .ref (zA Z 8 0 0))]) rfl rfl ?_
  refine j_aload X dL_begin_0 rfl (q := 4) rfl ?_
  refine j_iconst X dL_begin_2 rfl (v := 0) (by decide) ?_
  refine j_aload_n X dL_begin_3 rfl rfl (q := 0) rfl ?_
  refine j_iload_n X dL_begin_4 rfl rfl (q := 1) rfl ?_
  refine j_iload_n X dL_begin_5 rfl rfl (q := 2) rfl ?_
  refine j_iload_n X dL_begin_6 rfl rfl (q := 3) rfl ?_
  refine j_callT X hSt hZ (E := "java/lang/IllegalArgumentException") hC (wm_top (by decide)) ((fun _ => rfl) _) rfl lk_RL_7 mi_X5_begin ms_X5_begin ini_RX5 mc_X5_begin md_X5_begin ⟨Nat.le_of_ble_eq_true rfl, Nat.le_of_ble_eq_true rfl⟩ ⟨Nat.le_of_ble_eq_true rfl, Nat.le_of_ble_eq_true rfl⟩ rfl (Nat.le_of_ble_eq_true rfl) (as := [.int (x), .int (y), .int (z)]) (rest := [.int (0), .ref (zA Z 8 0 0)]) rfl dL_begin_7 htab [] ⟨0, 12, 15, 13⟩ [] rfl (fun z hz => absurd hz List.not_mem_nil) rfl (by decide) (List.mem_of_getElem? (i := 114) (by decide +kernel)) (List.mem_of_getElem? (i := 0) rfl) (fun q9 => ?_)
  refine j_astore X dL_begin_15 rfl (by decide) (Ls2 := [(5, .ref (q9)), (0, .ref (zA Z (6) (0) (0))), (1, .int (x)), (2, .int (y)), (3, .int (z)), (4, .ref (zA Z 8 0 0))]) rfl ?_
  refine j_iconst X dL_begin_17 rfl (v := 1) (by decide) ?_
  exact K _ _ dL_begin_18
set_option maxRecDepth 100000 in
set_option maxHeartbeats 4000000 in
theorem w_setPolicy (l : Launch) (Z : wZ) (hO : zO Z = true) (S S1 : St) (h : Hl) (x : Int32) (v : Int32) (hC : Ci l yX5_setPolicy cX5_setPolicy 3 .int 5 102 Z [.ref (zA Z (6) (0) (0)), .int (x)] S h v S1 h) : Cw l yL_setPolicy cL_setPolicy 4 [(0, 9, 12, 13)] 6 124 Z [.ref (zA Z (6) (0) (0)), .int (x), .ref (zA Z 8 0 0)] S h 0 S1 (va_up h 1 v.toInt64) := by
  refine Cw.of rfl rfl (Nat.le_of_ble_eq_true rfl) (fun p e s mi args below meth c A0 Q X hSt hZ htab K => ?_)
  refine j_at rfl rfl (Ls3 := [(0, .ref (zA Z (6) (0) (0))), (1, .int (x)), (2, .ref (zA Z 8 0 0))]) rfl rfl ?_
  refine j_aload_n X dL_setPolicy_0 rfl rfl (q := 2) rfl ?_
  refine j_iconst X dL_setPolicy_1 rfl (v := 0) (by decide) ?_
  refine j_aload_n X dL_setPolicy_2 rfl rfl (q := 0) rfl ?_
  refine j_iload_n X dL_setPolicy_3 rfl rfl (q := 1) rfl ?_
  refine j_calli X hC (wm_top (by decide)) ((fun _ => rfl) _) rfl lk_RL_15 mi_X5_setPolicy ms_X5_setPolicy ini_RX5 mc_X5_setPolicy md_X5_setPolicy ⟨Nat.le_of_ble_eq_true rfl, Nat.le_of_ble_eq_true rfl⟩ ⟨Nat.le_of_ble_eq_true rfl, Nat.le_of_ble_eq_true rfl⟩ rfl (Nat.le_of_ble_eq_true rfl) (as := [.int (x)]) (rest := [.int (0), .ref (zA Z 8 0 0)]) rfl dL_setPolicy_4 rfl ?_
  refine j_i2l X dL_setPolicy_7 rfl ?_
  refine j_last X hO dL_setPolicy_8 rfl ?_
  refine j_goto X (tgt := 15) dL_setPolicy_9 (by decide) ?_
  refine j_iconst X dL_setPolicy_15 rfl (v := 0) (by decide) ?_
  refine j_widen (Nat.zero_le 1) (Nat.zero_le 6) ?_
  exact K _ _ dL_setPolicy_16
set_option maxRecDepth 100000 in
set_option maxHeartbeats 4000000 in
theorem wt_setPolicy (l : Launch) (Z : wZ) (S : St) (h : Hl) (x : Int32) (hC : Ct l yX5_setPolicy cX5_setPolicy 3 .int 6 82 Z [.ref (zA Z (6) (0) (0)), .int (x)] S h "java/lang/IllegalArgumentException") : Cw l yL_setPolicy cL_setPolicy 4 [(0, 9, 12, 13)] 7 104 Z [.ref (zA Z (6) (0) (0)), .int (x), .ref (zA Z 8 0 0)] S h 1 S h := by
  refine Cw.of rfl rfl (Nat.le_of_ble_eq_true rfl) (fun p e s mi args below meth c A0 Q X hSt hZ htab K => ?_)
  refine j_at rfl rfl (Ls3 := [(0, .ref (zA Z (6) (0) (0))), (1, .int (x)), (2, .ref (zA Z 8 0 0))]) rfl rfl ?_
  refine j_aload_n X dL_setPolicy_0 rfl rfl (q := 2) rfl ?_
  refine j_iconst X dL_setPolicy_1 rfl (v := 0) (by decide) ?_
  refine j_aload_n X dL_setPolicy_2 rfl rfl (q := 0) rfl ?_
  refine j_iload_n X dL_setPolicy_3 rfl rfl (q := 1) rfl ?_
  refine j_callT X hSt hZ (E := "java/lang/IllegalArgumentException") hC (wm_top (by decide)) ((fun _ => rfl) _) rfl lk_RL_15 mi_X5_setPolicy ms_X5_setPolicy ini_RX5 mc_X5_setPolicy md_X5_setPolicy ⟨Nat.le_of_ble_eq_true rfl, Nat.le_of_ble_eq_true rfl⟩ ⟨Nat.le_of_ble_eq_true rfl, Nat.le_of_ble_eq_true rfl⟩ rfl (Nat.le_of_ble_eq_true rfl) (as := [.int (x)]) (rest := [.int (0), .ref (zA Z 8 0 0)]) rfl dL_setPolicy_4 htab [] ⟨0, 9, 12, 13⟩ [] rfl (fun z hz => absurd hz List.not_mem_nil) rfl (by decide) (List.mem_of_getElem? (i := 114) (by decide +kernel)) (List.mem_of_getElem? (i := 0) rfl) (fun q9 => ?_)
  refine j_astore_n X dL_setPolicy_12 rfl rfl (by decide) (Ls2 := [(3, .ref (q9)), (0, .ref (zA Z (6) (0) (0))), (1, .int (x)), (2, .ref (zA Z 8 0 0))]) rfl ?_
  refine j_iconst X dL_setPolicy_13 rfl (v := 1) (by decide) ?_
  exact K _ _ dL_setPolicy_14
set_option maxRecDepth 100000 in
set_option maxHeartbeats 4000000 in
theorem w_seed (l : Launch) (Z : wZ) (hO : zO Z = true) (S S1 : St) (h : Hl) (x : Int32) (v : Int32) (hC : Ci l yX5_seed cX5_seed 3 .int 5 102 Z [.ref (zA Z (6) (0) (0)), .int (x)] S h v S1 h) : Cw l yL_seed cL_seed 4 [(0, 9, 12, 13)] 6 124 Z [.ref (zA Z (6) (0) (0)), .int (x), .ref (zA Z 8 0 0)] S h 0 S1 (va_up h 1 v.toInt64) := by
  refine Cw.of rfl rfl (Nat.le_of_ble_eq_true rfl) (fun p e s mi args below meth c A0 Q X hSt hZ htab K => ?_)
  refine j_at rfl rfl (Ls3 := [(0, .ref (zA Z (6) (0) (0))), (1, .int (x)), (2, .ref (zA Z 8 0 0))]) rfl rfl ?_
  refine j_aload_n X dL_seed_0 rfl rfl (q := 2) rfl ?_
  refine j_iconst X dL_seed_1 rfl (v := 0) (by decide) ?_
  refine j_aload_n X dL_seed_2 rfl rfl (q := 0) rfl ?_
  refine j_iload_n X dL_seed_3 rfl rfl (q := 1) rfl ?_
  refine j_calli X hC (wm_top (by decide)) ((fun _ => rfl) _) rfl lk_RL_19 mi_X5_seed ms_X5_seed ini_RX5 mc_X5_seed md_X5_seed ⟨Nat.le_of_ble_eq_true rfl, Nat.le_of_ble_eq_true rfl⟩ ⟨Nat.le_of_ble_eq_true rfl, Nat.le_of_ble_eq_true rfl⟩ rfl (Nat.le_of_ble_eq_true rfl) (as := [.int (x)]) (rest := [.int (0), .ref (zA Z 8 0 0)]) rfl dL_seed_4 rfl ?_
  refine j_i2l X dL_seed_7 rfl ?_
  refine j_last X hO dL_seed_8 rfl ?_
  refine j_goto X (tgt := 15) dL_seed_9 (by decide) ?_
  refine j_iconst X dL_seed_15 rfl (v := 0) (by decide) ?_
  refine j_widen (Nat.zero_le 1) (Nat.zero_le 6) ?_
  exact K _ _ dL_seed_16
set_option maxRecDepth 100000 in
set_option maxHeartbeats 4000000 in
theorem wt_seed (l : Launch) (Z : wZ) (S : St) (h : Hl) (x : Int32) (hC : Ct l yX5_seed cX5_seed 3 .int 6 82 Z [.ref (zA Z (6) (0) (0)), .int (x)] S h "java/lang/IllegalArgumentException") : Cw l yL_seed cL_seed 4 [(0, 9, 12, 13)] 7 104 Z [.ref (zA Z (6) (0) (0)), .int (x), .ref (zA Z 8 0 0)] S h 1 S h := by
  refine Cw.of rfl rfl (Nat.le_of_ble_eq_true rfl) (fun p e s mi args below meth c A0 Q X hSt hZ htab K => ?_)
  refine j_at rfl rfl (Ls3 := [(0, .ref (zA Z (6) (0) (0))), (1, .int (x)), (2, .ref (zA Z 8 0 0))]) rfl rfl ?_
  refine j_aload_n X dL_seed_0 rfl rfl (q := 2) rfl ?_
  refine j_iconst X dL_seed_1 rfl (v := 0) (by decide) ?_
  refine j_aload_n X dL_seed_2 rfl rfl (q := 0) rfl ?_
  refine j_iload_n X dL_seed_3 rfl rfl (q := 1) rfl ?_
  refine j_callT X hSt hZ (E := "java/lang/IllegalArgumentException") hC (wm_top (by decide)) ((fun _ => rfl) _) rfl lk_RL_19 mi_X5_seed ms_X5_seed ini_RX5 mc_X5_seed md_X5_seed ⟨Nat.le_of_ble_eq_true rfl, Nat.le_of_ble_eq_true rfl⟩ ⟨Nat.le_of_ble_eq_true rfl, Nat.le_of_ble_eq_true rfl⟩ rfl (Nat.le_of_ble_eq_true rfl) (as := [.int (x)]) (rest := [.int (0), .ref (zA Z 8 0 0)]) rfl dL_seed_4 htab [] ⟨0, 9, 12, 13⟩ [] rfl (fun z hz => absurd hz List.not_mem_nil) rfl (by decide) (List.mem_of_getElem? (i := 114) (by decide +kernel)) (List.mem_of_getElem? (i := 0) rfl) (fun q9 => ?_)
  refine j_astore_n X dL_seed_12 rfl rfl (by decide) (Ls2 := [(3, .ref (q9)), (0, .ref (zA Z (6) (0) (0))), (1, .int (x)), (2, .ref (zA Z 8 0 0))]) rfl ?_
  refine j_iconst X dL_seed_13 rfl (v := 1) (by decide) ?_
  exact K _ _ dL_seed_14
set_option maxRecDepth 100000 in
set_option maxHeartbeats 4000000 in
theorem w_append (l : Launch) (Z : wZ) (hO : zO Z = true) (S S1 : St) (h : Hl) (x : Int32) (v : Int32) (hC : Ci l yX5_append cX5_append 2 .int 0 0 Z [.ref (zA Z (6) (0) (0)), .int (x)] S h v S1 h) : Cw l yL_append cL_append 4 [(0, 9, 12, 13), (0, 9, 15, 25)] 1 21 Z [.ref (zA Z (6) (0) (0)), .int (x), .ref (zA Z 8 0 0)] S h 0 S1 (va_up h 1 v.toInt64) := by
  refine Cw.of rfl rfl (Nat.le_of_ble_eq_true rfl) (fun p e s mi args below meth c A0 Q X hSt hZ htab K => ?_)
  refine j_at rfl rfl (Ls3 := [(0, .ref (zA Z (6) (0) (0))), (1, .int (x)), (2, .ref (zA Z 8 0 0))]) rfl rfl ?_
  refine j_aload_n X dL_append_0 rfl rfl (q := 2) rfl ?_
  refine j_iconst X dL_append_1 rfl (v := 0) (by decide) ?_
  refine j_aload_n X dL_append_2 rfl rfl (q := 0) rfl ?_
  refine j_iload_n X dL_append_3 rfl rfl (q := 1) rfl ?_
  refine j_calli X hC (wm_top (by decide)) ((fun _ => rfl) _) rfl lk_RL_22 mi_X5_append ms_X5_append ini_RX5 mc_X5_append md_X5_append ⟨Nat.le_of_ble_eq_true rfl, Nat.le_of_ble_eq_true rfl⟩ ⟨Nat.le_of_ble_eq_true rfl, Nat.le_of_ble_eq_true rfl⟩ rfl (Nat.le_of_ble_eq_true rfl) (as := [.int (x)]) (rest := [.int (0), .ref (zA Z 8 0 0)]) rfl dL_append_4 rfl ?_
  refine j_i2l X dL_append_7 rfl ?_
  refine j_last X hO dL_append_8 rfl ?_
  refine j_goto X (tgt := 18) dL_append_9 (by decide) ?_
  refine j_iconst X dL_append_18 rfl (v := 0) (by decide) ?_
  refine j_widen (Nat.zero_le 1) (Nat.zero_le 6) ?_
  exact K _ _ dL_append_19
set_option maxRecDepth 100000 in
set_option maxHeartbeats 4000000 in
theorem wt_append (l : Launch) (Z : wZ) (S : St) (h : Hl) (x : Int32) (hC : Ct l yX5_append cX5_append 2 .int 6 82 Z [.ref (zA Z (6) (0) (0)), .int (x)] S h "java/lang/IllegalArgumentException") : Cw l yL_append cL_append 4 [(0, 9, 12, 13), (0, 9, 15, 25)] 7 103 Z [.ref (zA Z (6) (0) (0)), .int (x), .ref (zA Z 8 0 0)] S h 1 S h := by
  refine Cw.of rfl rfl (Nat.le_of_ble_eq_true rfl) (fun p e s mi args below meth c A0 Q X hSt hZ htab K => ?_)
  refine j_at rfl rfl (Ls3 := [(0, .ref (zA Z (6) (0) (0))), (1, .int (x)), (2, .ref (zA Z 8 0 0))]) rfl rfl ?_
  refine j_aload_n X dL_append_0 rfl rfl (q := 2) rfl ?_
  refine j_iconst X dL_append_1 rfl (v := 0) (by decide) ?_
  refine j_aload_n X dL_append_2 rfl rfl (q := 0) rfl ?_
  refine j_iload_n X dL_append_3 rfl rfl (q := 1) rfl ?_
  refine j_callT X hSt hZ (E := "java/lang/IllegalArgumentException") hC (wm_top (by decide)) ((fun _ => rfl) _) rfl lk_RL_22 mi_X5_append ms_X5_append ini_RX5 mc_X5_append md_X5_append ⟨Nat.le_of_ble_eq_true rfl, Nat.le_of_ble_eq_true rfl⟩ ⟨Nat.le_of_ble_eq_true rfl, Nat.le_of_ble_eq_true rfl⟩ rfl (Nat.le_of_ble_eq_true rfl) (as := [.int (x)]) (rest := [.int (0), .ref (zA Z 8 0 0)]) rfl dL_append_4 htab [] ⟨0, 9, 12, 13⟩ [⟨0, 9, 15, 25⟩] rfl (fun z hz => absurd hz List.not_mem_nil) rfl (by decide) (List.mem_of_getElem? (i := 114) (by decide +kernel)) (List.mem_of_getElem? (i := 0) rfl) (fun q9 => ?_)
  refine j_astore_n X dL_append_12 rfl rfl (by decide) (Ls2 := [(3, .ref (q9)), (0, .ref (zA Z (6) (0) (0))), (1, .int (x)), (2, .ref (zA Z 8 0 0))]) rfl ?_
  refine j_iconst X dL_append_13 rfl (v := 1) (by decide) ?_
  exact K _ _ dL_append_14
set_option maxRecDepth 100000 in
set_option maxHeartbeats 4000000 in
theorem wt_append_full (l : Launch) (Z : wZ) (S : St) (h : Hl) (x : Int32) (hC : Ct l yX5_append cX5_append 2 .int 6 82 Z [.ref (zA Z (6) (0) (0)), .int (x)] S h "java/lang/IllegalStateException") : Cw l yL_append cL_append 4 [(0, 9, 12, 13), (0, 9, 15, 25)] 7 103 Z [.ref (zA Z (6) (0) (0)), .int (x), .ref (zA Z 8 0 0)] S h 2 S h := by
  refine Cw.of rfl rfl (Nat.le_of_ble_eq_true rfl) (fun p e s mi args below meth c A0 Q X hSt hZ htab K => ?_)
  refine j_at rfl rfl (Ls3 := [(0, .ref (zA Z (6) (0) (0))), (1, .int (x)), (2, .ref (zA Z 8 0 0))]) rfl rfl ?_
  refine j_aload_n X dL_append_0 rfl rfl (q := 2) rfl ?_
  refine j_iconst X dL_append_1 rfl (v := 0) (by decide) ?_
  refine j_aload_n X dL_append_2 rfl rfl (q := 0) rfl ?_
  refine j_iload_n X dL_append_3 rfl rfl (q := 1) rfl ?_
  refine j_callT X hSt hZ (E := "java/lang/IllegalStateException") hC (wm_top (by decide)) ((fun _ => rfl) _) rfl lk_RL_22 mi_X5_append ms_X5_append ini_RX5 mc_X5_append md_X5_append ⟨Nat.le_of_ble_eq_true rfl, Nat.le_of_ble_eq_true rfl⟩ ⟨Nat.le_of_ble_eq_true rfl, Nat.le_of_ble_eq_true rfl⟩ rfl (Nat.le_of_ble_eq_true rfl) (as := [.int (x)]) (rest := [.int (0), .ref (zA Z 8 0 0)]) rfl dL_append_4 htab [⟨0, 9, 12, 13⟩] ⟨0, 9, 15, 25⟩ [] rfl (fun z hz => by rw [List.mem_singleton.mp hz]; exact ⟨by decide, "java/lang/IllegalArgumentException", (List.mem_of_getElem? (i := 114) (by decide +kernel)), hSt.2.2.1⟩) rfl (by decide) (List.mem_of_getElem? (i := 217) (by decide +kernel)) (List.mem_of_getElem? (i := 1) rfl) (fun q9 => ?_)
  refine j_astore_n X dL_append_15 rfl rfl (by decide) (Ls2 := [(3, .ref (q9)), (0, .ref (zA Z (6) (0) (0))), (1, .int (x)), (2, .ref (zA Z 8 0 0))]) rfl ?_
  refine j_iconst X dL_append_16 rfl (v := 2) (by decide) ?_
  exact K _ _ dL_append_17
set_option maxRecDepth 100000 in
set_option maxHeartbeats 4000000 in
theorem w_load (l : Launch) (Z : wZ) (hO : zO Z = true) (S S1 : St) (h : Hl) (x : Int32) (v : Int32) (hC : Ci l yX5_load cX5_load 3 .int 5 107 Z [.ref (zA Z (6) (0) (0)), .int (x)] S h v S1 h) : Cw l yL_load cL_load 4 [(0, 9, 12, 30), (0, 9, 15, 25)] 6 129 Z [.ref (zA Z (6) (0) (0)), .int (x), .ref (zA Z 8 0 0)] S h 0 S1 (va_up h 1 v.toInt64) := by
  refine Cw.of rfl rfl (Nat.le_of_ble_eq_true rfl) (fun p e s mi args below meth c A0 Q X hSt hZ htab K => ?_)
  refine j_at rfl rfl (Ls3 := [(0, .ref (zA Z (6) (0) (0))), (1, .int (x)), (2, .ref (zA Z 8 0 0))]) rfl rfl ?_
  refine j_aload_n X dL_load_0 rfl rfl (q := 2) rfl ?_
  refine j_iconst X dL_load_1 rfl (v := 0) (by decide) ?_
  refine j_aload_n X dL_load_2 rfl rfl (q := 0) rfl ?_
  refine j_iload_n X dL_load_3 rfl rfl (q := 1) rfl ?_
  refine j_calli X hC (wm_top (by decide)) ((fun _ => rfl) _) rfl lk_RL_27 mi_X5_load ms_X5_load ini_RX5 mc_X5_load md_X5_load ⟨Nat.le_of_ble_eq_true rfl, Nat.le_of_ble_eq_true rfl⟩ ⟨Nat.le_of_ble_eq_true rfl, Nat.le_of_ble_eq_true rfl⟩ rfl (Nat.le_of_ble_eq_true rfl) (as := [.int (x)]) (rest := [.int (0), .ref (zA Z 8 0 0)]) rfl dL_load_4 rfl ?_
  refine j_i2l X dL_load_7 rfl ?_
  refine j_last X hO dL_load_8 rfl ?_
  refine j_goto X (tgt := 18) dL_load_9 (by decide) ?_
  refine j_iconst X dL_load_18 rfl (v := 0) (by decide) ?_
  refine j_widen (Nat.zero_le 1) (Nat.zero_le 6) ?_
  exact K _ _ dL_load_19
set_option maxRecDepth 100000 in
set_option maxHeartbeats 4000000 in
theorem wt_load (l : Launch) (Z : wZ) (S : St) (h : Hl) (x : Int32) (hC : Ct l yX5_load cX5_load 3 .int 6 82 Z [.ref (zA Z (6) (0) (0)), .int (x)] S h "java/lang/IndexOutOfBoundsException") : Cw l yL_load cL_load 4 [(0, 9, 12, 30), (0, 9, 15, 25)] 7 104 Z [.ref (zA Z (6) (0) (0)), .int (x), .ref (zA Z 8 0 0)] S h 1 S h := by
  refine Cw.of rfl rfl (Nat.le_of_ble_eq_true rfl) (fun p e s mi args below meth c A0 Q X hSt hZ htab K => ?_)
  refine j_at rfl rfl (Ls3 := [(0, .ref (zA Z (6) (0) (0))), (1, .int (x)), (2, .ref (zA Z 8 0 0))]) rfl rfl ?_
  refine j_aload_n X dL_load_0 rfl rfl (q := 2) rfl ?_
  refine j_iconst X dL_load_1 rfl (v := 0) (by decide) ?_
  refine j_aload_n X dL_load_2 rfl rfl (q := 0) rfl ?_
  refine j_iload_n X dL_load_3 rfl rfl (q := 1) rfl ?_
  refine j_callT X hSt hZ (E := "java/lang/IndexOutOfBoundsException") hC (wm_top (by decide)) ((fun _ => rfl) _) rfl lk_RL_27 mi_X5_load ms_X5_load ini_RX5 mc_X5_load md_X5_load ⟨Nat.le_of_ble_eq_true rfl, Nat.le_of_ble_eq_true rfl⟩ ⟨Nat.le_of_ble_eq_true rfl, Nat.le_of_ble_eq_true rfl⟩ rfl (Nat.le_of_ble_eq_true rfl) (as := [.int (x)]) (rest := [.int (0), .ref (zA Z 8 0 0)]) rfl dL_load_4 htab [] ⟨0, 9, 12, 30⟩ [⟨0, 9, 15, 25⟩] rfl (fun z hz => absurd hz List.not_mem_nil) rfl (by decide) (List.mem_of_getElem? (i := 240) (by decide +kernel)) (List.mem_of_getElem? (i := 2) rfl) (fun q9 => ?_)
  refine j_astore_n X dL_load_12 rfl rfl (by decide) (Ls2 := [(3, .ref (q9)), (0, .ref (zA Z (6) (0) (0))), (1, .int (x)), (2, .ref (zA Z 8 0 0))]) rfl ?_
  refine j_iconst X dL_load_13 rfl (v := 1) (by decide) ?_
  exact K _ _ dL_load_14
set_option maxRecDepth 100000 in
set_option maxHeartbeats 4000000 in
theorem wt_load_tr (l : Launch) (Z : wZ) (S : St) (h : Hl) (x : Int32) (hC : Ct l yX5_load cX5_load 3 .int 6 82 Z [.ref (zA Z (6) (0) (0)), .int (x)] S h "java/lang/IllegalStateException") : Cw l yL_load cL_load 4 [(0, 9, 12, 30), (0, 9, 15, 25)] 7 104 Z [.ref (zA Z (6) (0) (0)), .int (x), .ref (zA Z 8 0 0)] S h 2 S h := by
  refine Cw.of rfl rfl (Nat.le_of_ble_eq_true rfl) (fun p e s mi args below meth c A0 Q X hSt hZ htab K => ?_)
  refine j_at rfl rfl (Ls3 := [(0, .ref (zA Z (6) (0) (0))), (1, .int (x)), (2, .ref (zA Z 8 0 0))]) rfl rfl ?_
  refine j_aload_n X dL_load_0 rfl rfl (q := 2) rfl ?_
  refine j_iconst X dL_load_1 rfl (v := 0) (by decide) ?_
  refine j_aload_n X dL_load_2 rfl rfl (q := 0) rfl ?_
  refine j_iload_n X dL_load_3 rfl rfl (q := 1) rfl ?_
  refine j_callT X hSt hZ (E := "java/lang/IllegalStateException") hC (wm_top (by decide)) ((fun _ => rfl) _) rfl lk_RL_27 mi_X5_load ms_X5_load ini_RX5 mc_X5_load md_X5_load ⟨Nat.le_of_ble_eq_true rfl, Nat.le_of_ble_eq_true rfl⟩ ⟨Nat.le_of_ble_eq_true rfl, Nat.le_of_ble_eq_true rfl⟩ rfl (Nat.le_of_ble_eq_true rfl) (as := [.int (x)]) (rest := [.int (0), .ref (zA Z 8 0 0)]) rfl dL_load_4 htab [⟨0, 9, 12, 30⟩] ⟨0, 9, 15, 25⟩ [] rfl (fun z hz => by rw [List.mem_singleton.mp hz]; exact ⟨by decide, "java/lang/IndexOutOfBoundsException", (List.mem_of_getElem? (i := 240) (by decide +kernel)), hSt.2.2.2.1⟩) rfl (by decide) (List.mem_of_getElem? (i := 217) (by decide +kernel)) (List.mem_of_getElem? (i := 1) rfl) (fun q9 => ?_)
  refine j_astore_n X dL_load_15 rfl rfl (by decide) (Ls2 := [(3, .ref (q9)), (0, .ref (zA Z (6) (0) (0))), (1, .int (x)), (2, .ref (zA Z 8 0 0))]) rfl ?_
  refine j_iconst X dL_load_16 rfl (v := 2) (by decide) ?_
  exact K _ _ dL_load_17
set_option maxRecDepth 100000 in
set_option maxHeartbeats 4000000 in
theorem w_again (l : Launch) (Z : wZ) (hO : zO Z = true) (S S1 : St) (h : Hl) (x : Int32) (v : Int32) (hC : Ci l yX5_again cX5_again 2 .int 5 102 Z [.ref (zA Z (6) (0) (0)), .int (x)] S h v S1 h) : Cw l yL_again cL_again 4 [(0, 9, 12, 30), (0, 9, 15, 25)] 6 123 Z [.ref (zA Z (6) (0) (0)), .int (x), .ref (zA Z 8 0 0)] S h 0 S1 (va_up h 1 v.toInt64) := by
  refine Cw.of rfl rfl (Nat.le_of_ble_eq_true rfl) (fun p e s mi args below meth c A0 Q X hSt hZ htab K => ?_)
  refine j_at rfl rfl (Ls3 := [(0, .ref (zA Z (6) (0) (0))), (1, .int (x)), (2, .ref (zA Z 8 0 0))]) rfl rfl ?_
  refine j_aload_n X dL_again_0 rfl rfl (q := 2) rfl ?_
  refine j_iconst X dL_again_1 rfl (v := 0) (by decide) ?_
  refine j_aload_n X dL_again_2 rfl rfl (q := 0) rfl ?_
  refine j_iload_n X dL_again_3 rfl rfl (q := 1) rfl ?_
  refine j_calli X hC (wm_top (by decide)) ((fun _ => rfl) _) rfl lk_RL_32 mi_X5_again ms_X5_again ini_RX5 mc_X5_again md_X5_again ⟨Nat.le_of_ble_eq_true rfl, Nat.le_of_ble_eq_true rfl⟩ ⟨Nat.le_of_ble_eq_true rfl, Nat.le_of_ble_eq_true rfl⟩ rfl (Nat.le_of_ble_eq_true rfl) (as := [.int (x)]) (rest := [.int (0), .ref (zA Z 8 0 0)]) rfl dL_again_4 rfl ?_
  refine j_i2l X dL_again_7 rfl ?_
  refine j_last X hO dL_again_8 rfl ?_
  refine j_goto X (tgt := 18) dL_again_9 (by decide) ?_
  refine j_iconst X dL_again_18 rfl (v := 0) (by decide) ?_
  refine j_widen (Nat.zero_le 1) (Nat.zero_le 6) ?_
  exact K _ _ dL_again_19
set_option maxRecDepth 100000 in
set_option maxHeartbeats 4000000 in
theorem wt_again (l : Launch) (Z : wZ) (S : St) (h : Hl) (x : Int32) (hC : Ct l yX5_again cX5_again 2 .int 6 82 Z [.ref (zA Z (6) (0) (0)), .int (x)] S h "java/lang/IndexOutOfBoundsException") : Cw l yL_again cL_again 4 [(0, 9, 12, 30), (0, 9, 15, 25)] 7 103 Z [.ref (zA Z (6) (0) (0)), .int (x), .ref (zA Z 8 0 0)] S h 1 S h := by
  refine Cw.of rfl rfl (Nat.le_of_ble_eq_true rfl) (fun p e s mi args below meth c A0 Q X hSt hZ htab K => ?_)
  refine j_at rfl rfl (Ls3 := [(0, .ref (zA Z (6) (0) (0))), (1, .int (x)), (2, .ref (zA Z 8 0 0))]) rfl rfl ?_
  refine j_aload_n X dL_again_0 rfl rfl (q := 2) rfl ?_
  refine j_iconst X dL_again_1 rfl (v := 0) (by decide) ?_
  refine j_aload_n X dL_again_2 rfl rfl (q := 0) rfl ?_
  refine j_iload_n X dL_again_3 rfl rfl (q := 1) rfl ?_
  refine j_callT X hSt hZ (E := "java/lang/IndexOutOfBoundsException") hC (wm_top (by decide)) ((fun _ => rfl) _) rfl lk_RL_32 mi_X5_again ms_X5_again ini_RX5 mc_X5_again md_X5_again ⟨Nat.le_of_ble_eq_true rfl, Nat.le_of_ble_eq_true rfl⟩ ⟨Nat.le_of_ble_eq_true rfl, Nat.le_of_ble_eq_true rfl⟩ rfl (Nat.le_of_ble_eq_true rfl) (as := [.int (x)]) (rest := [.int (0), .ref (zA Z 8 0 0)]) rfl dL_again_4 htab [] ⟨0, 9, 12, 30⟩ [⟨0, 9, 15, 25⟩] rfl (fun z hz => absurd hz List.not_mem_nil) rfl (by decide) (List.mem_of_getElem? (i := 240) (by decide +kernel)) (List.mem_of_getElem? (i := 2) rfl) (fun q9 => ?_)
  refine j_astore_n X dL_again_12 rfl rfl (by decide) (Ls2 := [(3, .ref (q9)), (0, .ref (zA Z (6) (0) (0))), (1, .int (x)), (2, .ref (zA Z 8 0 0))]) rfl ?_
  refine j_iconst X dL_again_13 rfl (v := 1) (by decide) ?_
  exact K _ _ dL_again_14
set_option maxRecDepth 100000 in
set_option maxHeartbeats 4000000 in
theorem wt_again_st (l : Launch) (Z : wZ) (S : St) (h : Hl) (x : Int32) (hC : Ct l yX5_again cX5_again 2 .int 6 82 Z [.ref (zA Z (6) (0) (0)), .int (x)] S h "java/lang/IllegalStateException") : Cw l yL_again cL_again 4 [(0, 9, 12, 30), (0, 9, 15, 25)] 7 103 Z [.ref (zA Z (6) (0) (0)), .int (x), .ref (zA Z 8 0 0)] S h 2 S h := by
  refine Cw.of rfl rfl (Nat.le_of_ble_eq_true rfl) (fun p e s mi args below meth c A0 Q X hSt hZ htab K => ?_)
  refine j_at rfl rfl (Ls3 := [(0, .ref (zA Z (6) (0) (0))), (1, .int (x)), (2, .ref (zA Z 8 0 0))]) rfl rfl ?_
  refine j_aload_n X dL_again_0 rfl rfl (q := 2) rfl ?_
  refine j_iconst X dL_again_1 rfl (v := 0) (by decide) ?_
  refine j_aload_n X dL_again_2 rfl rfl (q := 0) rfl ?_
  refine j_iload_n X dL_again_3 rfl rfl (q := 1) rfl ?_
  refine j_callT X hSt hZ (E := "java/lang/IllegalStateException") hC (wm_top (by decide)) ((fun _ => rfl) _) rfl lk_RL_32 mi_X5_again ms_X5_again ini_RX5 mc_X5_again md_X5_again ⟨Nat.le_of_ble_eq_true rfl, Nat.le_of_ble_eq_true rfl⟩ ⟨Nat.le_of_ble_eq_true rfl, Nat.le_of_ble_eq_true rfl⟩ rfl (Nat.le_of_ble_eq_true rfl) (as := [.int (x)]) (rest := [.int (0), .ref (zA Z 8 0 0)]) rfl dL_again_4 htab [⟨0, 9, 12, 30⟩] ⟨0, 9, 15, 25⟩ [] rfl (fun z hz => by rw [List.mem_singleton.mp hz]; exact ⟨by decide, "java/lang/IndexOutOfBoundsException", (List.mem_of_getElem? (i := 240) (by decide +kernel)), hSt.2.2.2.1⟩) rfl (by decide) (List.mem_of_getElem? (i := 217) (by decide +kernel)) (List.mem_of_getElem? (i := 1) rfl) (fun q9 => ?_)
  refine j_astore_n X dL_again_15 rfl rfl (by decide) (Ls2 := [(3, .ref (q9)), (0, .ref (zA Z (6) (0) (0))), (1, .int (x)), (2, .ref (zA Z 8 0 0))]) rfl ?_
  refine j_iconst X dL_again_16 rfl (v := 2) (by decide) ?_
  exact K _ _ dL_again_17
set_option maxRecDepth 100000 in
set_option maxHeartbeats 4000000 in
theorem w_step (l : Launch) (Z : wZ) (hO : zO Z = true) (S S1 : St) (h : Hl) (x : Int32) (v : Int32) (hC : Ci l yX5_step cX5_step 2 .int 5 120 Z [.ref (zA Z (6) (0) (0)), .int (x)] S h v S1 h) : Cw l yL_step cL_step 4 [(0, 9, 12, 30), (0, 9, 15, 25)] 6 141 Z [.ref (zA Z (6) (0) (0)), .int (x), .ref (zA Z 8 0 0)] S h 0 S1 (va_up h 1 v.toInt64) := by
  refine Cw.of rfl rfl (Nat.le_of_ble_eq_true rfl) (fun p e s mi args below meth c A0 Q X hSt hZ htab K => ?_)
  refine j_at rfl rfl (Ls3 := [(0, .ref (zA Z (6) (0) (0))), (1, .int (x)), (2, .ref (zA Z 8 0 0))]) rfl rfl ?_
  refine j_aload_n X dL_step_0 rfl rfl (q := 2) rfl ?_
  refine j_iconst X dL_step_1 rfl (v := 0) (by decide) ?_
  refine j_aload_n X dL_step_2 rfl rfl (q := 0) rfl ?_
  refine j_iload_n X dL_step_3 rfl rfl (q := 1) rfl ?_
  refine j_calli X hC (wm_top (by decide)) ((fun _ => rfl) _) rfl lk_RL_35 mi_X5_step ms_X5_step ini_RX5 mc_X5_step md_X5_step ⟨Nat.le_of_ble_eq_true rfl, Nat.le_of_ble_eq_true rfl⟩ ⟨Nat.le_of_ble_eq_true rfl, Nat.le_of_ble_eq_true rfl⟩ rfl (Nat.le_of_ble_eq_true rfl) (as := [.int (x)]) (rest := [.int (0), .ref (zA Z 8 0 0)]) rfl dL_step_4 rfl ?_
  refine j_i2l X dL_step_7 rfl ?_
  refine j_last X hO dL_step_8 rfl ?_
  refine j_goto X (tgt := 18) dL_step_9 (by decide) ?_
  refine j_iconst X dL_step_18 rfl (v := 0) (by decide) ?_
  refine j_widen (Nat.zero_le 1) (Nat.zero_le 6) ?_
  exact K _ _ dL_step_19
set_option maxRecDepth 100000 in
set_option maxHeartbeats 4000000 in
theorem wt_step (l : Launch) (Z : wZ) (S : St) (h : Hl) (x : Int32) (hC : Ct l yX5_step cX5_step 2 .int 6 82 Z [.ref (zA Z (6) (0) (0)), .int (x)] S h "java/lang/IndexOutOfBoundsException") : Cw l yL_step cL_step 4 [(0, 9, 12, 30), (0, 9, 15, 25)] 7 103 Z [.ref (zA Z (6) (0) (0)), .int (x), .ref (zA Z 8 0 0)] S h 1 S h := by
  refine Cw.of rfl rfl (Nat.le_of_ble_eq_true rfl) (fun p e s mi args below meth c A0 Q X hSt hZ htab K => ?_)
  refine j_at rfl rfl (Ls3 := [(0, .ref (zA Z (6) (0) (0))), (1, .int (x)), (2, .ref (zA Z 8 0 0))]) rfl rfl ?_
  refine j_aload_n X dL_step_0 rfl rfl (q := 2) rfl ?_
  refine j_iconst X dL_step_1 rfl (v := 0) (by decide) ?_
  refine j_aload_n X dL_step_2 rfl rfl (q := 0) rfl ?_
  refine j_iload_n X dL_step_3 rfl rfl (q := 1) rfl ?_
  refine j_callT X hSt hZ (E := "java/lang/IndexOutOfBoundsException") hC (wm_top (by decide)) ((fun _ => rfl) _) rfl lk_RL_35 mi_X5_step ms_X5_step ini_RX5 mc_X5_step md_X5_step ⟨Nat.le_of_ble_eq_true rfl, Nat.le_of_ble_eq_true rfl⟩ ⟨Nat.le_of_ble_eq_true rfl, Nat.le_of_ble_eq_true rfl⟩ rfl (Nat.le_of_ble_eq_true rfl) (as := [.int (x)]) (rest := [.int (0), .ref (zA Z 8 0 0)]) rfl dL_step_4 htab [] ⟨0, 9, 12, 30⟩ [⟨0, 9, 15, 25⟩] rfl (fun z hz => absurd hz List.not_mem_nil) rfl (by decide) (List.mem_of_getElem? (i := 240) (by decide +kernel)) (List.mem_of_getElem? (i := 2) rfl) (fun q9 => ?_)
  refine j_astore_n X dL_step_12 rfl rfl (by decide) (Ls2 := [(3, .ref (q9)), (0, .ref (zA Z (6) (0) (0))), (1, .int (x)), (2, .ref (zA Z 8 0 0))]) rfl ?_
  refine j_iconst X dL_step_13 rfl (v := 1) (by decide) ?_
  exact K _ _ dL_step_14
set_option maxRecDepth 100000 in
set_option maxHeartbeats 4000000 in
theorem wt_step_fin (l : Launch) (Z : wZ) (S : St) (h : Hl) (x : Int32) (hC : Ct l yX5_step cX5_step 2 .int 6 82 Z [.ref (zA Z (6) (0) (0)), .int (x)] S h "java/lang/IllegalStateException") : Cw l yL_step cL_step 4 [(0, 9, 12, 30), (0, 9, 15, 25)] 7 103 Z [.ref (zA Z (6) (0) (0)), .int (x), .ref (zA Z 8 0 0)] S h 2 S h := by
  refine Cw.of rfl rfl (Nat.le_of_ble_eq_true rfl) (fun p e s mi args below meth c A0 Q X hSt hZ htab K => ?_)
  refine j_at rfl rfl (Ls3 := [(0, .ref (zA Z (6) (0) (0))), (1, .int (x)), (2, .ref (zA Z 8 0 0))]) rfl rfl ?_
  refine j_aload_n X dL_step_0 rfl rfl (q := 2) rfl ?_
  refine j_iconst X dL_step_1 rfl (v := 0) (by decide) ?_
  refine j_aload_n X dL_step_2 rfl rfl (q := 0) rfl ?_
  refine j_iload_n X dL_step_3 rfl rfl (q := 1) rfl ?_
  refine j_callT X hSt hZ (E := "java/lang/IllegalStateException") hC (wm_top (by decide)) ((fun _ => rfl) _) rfl lk_RL_35 mi_X5_step ms_X5_step ini_RX5 mc_X5_step md_X5_step ⟨Nat.le_of_ble_eq_true rfl, Nat.le_of_ble_eq_true rfl⟩ ⟨Nat.le_of_ble_eq_true rfl, Nat.le_of_ble_eq_true rfl⟩ rfl (Nat.le_of_ble_eq_true rfl) (as := [.int (x)]) (rest := [.int (0), .ref (zA Z 8 0 0)]) rfl dL_step_4 htab [⟨0, 9, 12, 30⟩] ⟨0, 9, 15, 25⟩ [] rfl (fun z hz => by rw [List.mem_singleton.mp hz]; exact ⟨by decide, "java/lang/IndexOutOfBoundsException", (List.mem_of_getElem? (i := 240) (by decide +kernel)), hSt.2.2.2.1⟩) rfl (by decide) (List.mem_of_getElem? (i := 217) (by decide +kernel)) (List.mem_of_getElem? (i := 1) rfl) (fun q9 => ?_)
  refine j_astore_n X dL_step_15 rfl rfl (by decide) (Ls2 := [(3, .ref (q9)), (0, .ref (zA Z (6) (0) (0))), (1, .int (x)), (2, .ref (zA Z 8 0 0))]) rfl ?_
  refine j_iconst X dL_step_16 rfl (v := 2) (by decide) ?_
  exact K _ _ dL_step_17
set_option maxRecDepth 100000 in
set_option maxHeartbeats 4000000 in
theorem w_run (l : Launch) (Z : wZ) (hO : zO Z = true) (S S1 : St) (h : Hl) (x : Int32) (v : Int32) (hC : Ci l yX5_run cX5_run 2 .int 6 143 Z [.ref (zA Z (6) (0) (0)), .int (x)] S h v S1 h) : Cw l yL_run cL_run 4 [(0, 9, 12, 13)] 7 164 Z [.ref (zA Z (6) (0) (0)), .int (x), .ref (zA Z 8 0 0)] S h 0 S1 (va_up h 1 v.toInt64) := by
  refine Cw.of rfl rfl (Nat.le_of_ble_eq_true rfl) (fun p e s mi args below meth c A0 Q X hSt hZ htab K => ?_)
  refine j_at rfl rfl (Ls3 := [(0, .ref (zA Z (6) (0) (0))), (1, .int (x)), (2, .ref (zA Z 8 0 0))]) rfl rfl ?_
  refine j_aload_n X dL_run_0 rfl rfl (q := 2) rfl ?_
  refine j_iconst X dL_run_1 rfl (v := 0) (by decide) ?_
  refine j_aload_n X dL_run_2 rfl rfl (q := 0) rfl ?_
  refine j_iload_n X dL_run_3 rfl rfl (q := 1) rfl ?_
  refine j_calli X hC (wm_top (by decide)) ((fun _ => rfl) _) rfl lk_RL_38 mi_X5_run ms_X5_run ini_RX5 mc_X5_run md_X5_run ⟨Nat.le_of_ble_eq_true rfl, Nat.le_of_ble_eq_true rfl⟩ ⟨Nat.le_of_ble_eq_true rfl, Nat.le_of_ble_eq_true rfl⟩ rfl (Nat.le_of_ble_eq_true rfl) (as := [.int (x)]) (rest := [.int (0), .ref (zA Z 8 0 0)]) rfl dL_run_4 rfl ?_
  refine j_i2l X dL_run_7 rfl ?_
  refine j_last X hO dL_run_8 rfl ?_
  refine j_goto X (tgt := 15) dL_run_9 (by decide) ?_
  refine j_iconst X dL_run_15 rfl (v := 0) (by decide) ?_
  refine j_widen (Nat.zero_le 1) (Nat.zero_le 6) ?_
  exact K _ _ dL_run_16
set_option maxRecDepth 100000 in
set_option maxHeartbeats 4000000 in
theorem wt_run (l : Launch) (Z : wZ) (S : St) (h : Hl) (x : Int32) (hC : Ct l yX5_run cX5_run 2 .int 6 82 Z [.ref (zA Z (6) (0) (0)), .int (x)] S h "java/lang/IllegalArgumentException") : Cw l yL_run cL_run 4 [(0, 9, 12, 13)] 7 103 Z [.ref (zA Z (6) (0) (0)), .int (x), .ref (zA Z 8 0 0)] S h 1 S h := by
  refine Cw.of rfl rfl (Nat.le_of_ble_eq_true rfl) (fun p e s mi args below meth c A0 Q X hSt hZ htab K => ?_)
  refine j_at rfl rfl (Ls3 := [(0, .ref (zA Z (6) (0) (0))), (1, .int (x)), (2, .ref (zA Z 8 0 0))]) rfl rfl ?_
  refine j_aload_n X dL_run_0 rfl rfl (q := 2) rfl ?_
  refine j_iconst X dL_run_1 rfl (v := 0) (by decide) ?_
  refine j_aload_n X dL_run_2 rfl rfl (q := 0) rfl ?_
  refine j_iload_n X dL_run_3 rfl rfl (q := 1) rfl ?_
  refine j_callT X hSt hZ (E := "java/lang/IllegalArgumentException") hC (wm_top (by decide)) ((fun _ => rfl) _) rfl lk_RL_38 mi_X5_run ms_X5_run ini_RX5 mc_X5_run md_X5_run ⟨Nat.le_of_ble_eq_true rfl, Nat.le_of_ble_eq_true rfl⟩ ⟨Nat.le_of_ble_eq_true rfl, Nat.le_of_ble_eq_true rfl⟩ rfl (Nat.le_of_ble_eq_true rfl) (as := [.int (x)]) (rest := [.int (0), .ref (zA Z 8 0 0)]) rfl dL_run_4 htab [] ⟨0, 9, 12, 13⟩ [] rfl (fun z hz => absurd hz List.not_mem_nil) rfl (by decide) (List.mem_of_getElem? (i := 114) (by decide +kernel)) (List.mem_of_getElem? (i := 0) rfl) (fun q9 => ?_)
  refine j_astore_n X dL_run_12 rfl rfl (by decide) (Ls2 := [(3, .ref (q9)), (0, .ref (zA Z (6) (0) (0))), (1, .int (x)), (2, .ref (zA Z 8 0 0))]) rfl ?_
  refine j_iconst X dL_run_13 rfl (v := 1) (by decide) ?_
  exact K _ _ dL_run_14
set_option maxRecDepth 100000 in
set_option maxHeartbeats 4000000 in
theorem w_poke (l : Launch) (Z : wZ) (hO : zO Z = true) (S S1 : St) (h : Hl) (x : Int32) (y : Int32) (v : Int32) (hC : Ci l yX5_poke cX5_poke 3 .int 5 102 Z [.ref (zA Z (6) (0) (0)), .int (x), .int (y)] S h v S1 h) : Cw l yL_poke cL_poke 5 [(0, 10, 13, 30)] 6 124 Z [.ref (zA Z (6) (0) (0)), .int (x), .int (y), .ref (zA Z 8 0 0)] S h 0 S1 (va_up h 1 v.toInt64) := by
  refine Cw.of rfl rfl (Nat.le_of_ble_eq_true rfl) (fun p e s mi args below meth c A0 Q X hSt hZ htab K => ?_)
  refine j_at rfl rfl (Ls3 := [(0, .ref (zA Z (6) (0) (0))), (1, .int (x)), (2, .int (y)), (3, .ref (zA Z 8 0 0))]) rfl rfl ?_
  refine j_aload_n X dL_poke_0 rfl rfl (q := 3) rfl ?_
  refine j_iconst X dL_poke_1 rfl (v := 0) (by decide) ?_
  refine j_aload_n X dL_poke_2 rfl rfl (q := 0) rfl ?_
  refine j_iload_n X dL_poke_3 rfl rfl (q := 1) rfl ?_
  refine j_iload_n X dL_poke_4 rfl rfl (q := 2) rfl ?_
  refine j_calli X hC (wm_top (by decide)) ((fun _ => rfl) _) rfl lk_RL_41 mi_X5_poke ms_X5_poke ini_RX5 mc_X5_poke md_X5_poke ⟨Nat.le_of_ble_eq_true rfl, Nat.le_of_ble_eq_true rfl⟩ ⟨Nat.le_of_ble_eq_true rfl, Nat.le_of_ble_eq_true rfl⟩ rfl (Nat.le_of_ble_eq_true rfl) (as := [.int (x), .int (y)]) (rest := [.int (0), .ref (zA Z 8 0 0)]) rfl dL_poke_5 rfl ?_
  refine j_i2l X dL_poke_8 rfl ?_
  refine j_last X hO dL_poke_9 rfl ?_
  refine j_goto X (tgt := 17) dL_poke_10 (by decide) ?_
  refine j_iconst X dL_poke_17 rfl (v := 0) (by decide) ?_
  refine j_widen (Nat.zero_le 1) (Nat.zero_le 6) ?_
  exact K _ _ dL_poke_18
set_option maxRecDepth 100000 in
set_option maxHeartbeats 4000000 in
theorem wt_poke (l : Launch) (Z : wZ) (S : St) (h : Hl) (x : Int32) (y : Int32) (hC : Ct l yX5_poke cX5_poke 3 .int 6 82 Z [.ref (zA Z (6) (0) (0)), .int (x), .int (y)] S h "java/lang/IndexOutOfBoundsException") : Cw l yL_poke cL_poke 5 [(0, 10, 13, 30)] 7 104 Z [.ref (zA Z (6) (0) (0)), .int (x), .int (y), .ref (zA Z 8 0 0)] S h 1 S h := by
  refine Cw.of rfl rfl (Nat.le_of_ble_eq_true rfl) (fun p e s mi args below meth c A0 Q X hSt hZ htab K => ?_)
  refine j_at rfl rfl (Ls3 := [(0, .ref (zA Z (6) (0) (0))), (1, .int (x)), (2, .int (y)), (3, .ref (zA Z 8 0 0))]) rfl rfl ?_
  refine j_aload_n X dL_poke_0 rfl rfl (q := 3) rfl ?_
  refine j_iconst X dL_poke_1 rfl (v := 0) (by decide) ?_
  refine j_aload_n X dL_poke_2 rfl rfl (q := 0) rfl ?_
  refine j_iload_n X dL_poke_3 rfl rfl (q := 1) rfl ?_
  refine j_iload_n X dL_poke_4 rfl rfl (q := 2) rfl ?_
  refine j_callT X hSt hZ (E := "java/lang/IndexOutOfBoundsException") hC (wm_top (by decide)) ((fun _ => rfl) _) rfl lk_RL_41 mi_X5_poke ms_X5_poke ini_RX5 mc_X5_poke md_X5_poke ⟨Nat.le_of_ble_eq_true rfl, Nat.le_of_ble_eq_true rfl⟩ ⟨Nat.le_of_ble_eq_true rfl, Nat.le_of_ble_eq_true rfl⟩ rfl (Nat.le_of_ble_eq_true rfl) (as := [.int (x), .int (y)]) (rest := [.int (0), .ref (zA Z 8 0 0)]) rfl dL_poke_5 htab [] ⟨0, 10, 13, 30⟩ [] rfl (fun z hz => absurd hz List.not_mem_nil) rfl (by decide) (List.mem_of_getElem? (i := 240) (by decide +kernel)) (List.mem_of_getElem? (i := 2) rfl) (fun q9 => ?_)
  refine j_astore X dL_poke_13 rfl (by decide) (Ls2 := [(4, .ref (q9)), (0, .ref (zA Z (6) (0) (0))), (1, .int (x)), (2, .int (y)), (3, .ref (zA Z 8 0 0))]) rfl ?_
  refine j_iconst X dL_poke_15 rfl (v := 1) (by decide) ?_
  exact K _ _ dL_poke_16
set_option maxRecDepth 100000 in
set_option maxHeartbeats 4000000 in
theorem w_state (l : Launch) (Z : wZ) (hO : zO Z = true) (S S1 : St) (h : Hl) (x : Int32) (y : Int32) (v : Int32) (hC : Ci l yX5_state cX5_state 3 .int 1 21 Z [.ref (zA Z (6) (0) (0)), .int (x), .int (y)] S h v S1 h) : Cw l yL_state cL_state 5 [(0, 10, 13, 30)] 2 43 Z [.ref (zA Z (6) (0) (0)), .int (x), .int (y), .ref (zA Z 8 0 0)] S h 0 S1 (va_up h 1 v.toInt64) := by
  refine Cw.of rfl rfl (Nat.le_of_ble_eq_true rfl) (fun p e s mi args below meth c A0 Q X hSt hZ htab K => ?_)
  refine j_at rfl rfl (Ls3 := [(0, .ref (zA Z (6) (0) (0))), (1, .int (x)), (2, .int (y)), (3, .ref (zA Z 8 0 0))]) rfl rfl ?_
  refine j_aload_n X dL_state_0 rfl rfl (q := 3) rfl ?_
  refine j_iconst X dL_state_1 rfl (v := 0) (by decide) ?_
  refine j_aload_n X dL_state_2 rfl rfl (q := 0) rfl ?_
  refine j_iload_n X dL_state_3 rfl rfl (q := 1) rfl ?_
  refine j_iload_n X dL_state_4 rfl rfl (q := 2) rfl ?_
  refine j_calli X hC (wm_top (by decide)) ((fun _ => rfl) _) rfl lk_RL_45 mi_X5_state ms_X5_state ini_RX5 mc_X5_state md_X5_state ⟨Nat.le_of_ble_eq_true rfl, Nat.le_of_ble_eq_true rfl⟩ ⟨Nat.le_of_ble_eq_true rfl, Nat.le_of_ble_eq_true rfl⟩ rfl (Nat.le_of_ble_eq_true rfl) (as := [.int (x), .int (y)]) (rest := [.int (0), .ref (zA Z 8 0 0)]) rfl dL_state_5 rfl ?_
  refine j_i2l X dL_state_8 rfl ?_
  refine j_last X hO dL_state_9 rfl ?_
  refine j_goto X (tgt := 17) dL_state_10 (by decide) ?_
  refine j_iconst X dL_state_17 rfl (v := 0) (by decide) ?_
  refine j_widen (Nat.zero_le 1) (Nat.zero_le 6) ?_
  exact K _ _ dL_state_18
set_option maxRecDepth 100000 in
set_option maxHeartbeats 4000000 in
theorem wt_state (l : Launch) (Z : wZ) (S : St) (h : Hl) (x : Int32) (y : Int32) (hC : Ct l yX5_state cX5_state 3 .int 6 82 Z [.ref (zA Z (6) (0) (0)), .int (x), .int (y)] S h "java/lang/IndexOutOfBoundsException") : Cw l yL_state cL_state 5 [(0, 10, 13, 30)] 7 104 Z [.ref (zA Z (6) (0) (0)), .int (x), .int (y), .ref (zA Z 8 0 0)] S h 1 S h := by
  refine Cw.of rfl rfl (Nat.le_of_ble_eq_true rfl) (fun p e s mi args below meth c A0 Q X hSt hZ htab K => ?_)
  refine j_at rfl rfl (Ls3 := [(0, .ref (zA Z (6) (0) (0))), (1, .int (x)), (2, .int (y)), (3, .ref (zA Z 8 0 0))]) rfl rfl ?_
  refine j_aload_n X dL_state_0 rfl rfl (q := 3) rfl ?_
  refine j_iconst X dL_state_1 rfl (v := 0) (by decide) ?_
  refine j_aload_n X dL_state_2 rfl rfl (q := 0) rfl ?_
  refine j_iload_n X dL_state_3 rfl rfl (q := 1) rfl ?_
  refine j_iload_n X dL_state_4 rfl rfl (q := 2) rfl ?_
  refine j_callT X hSt hZ (E := "java/lang/IndexOutOfBoundsException") hC (wm_top (by decide)) ((fun _ => rfl) _) rfl lk_RL_45 mi_X5_state ms_X5_state ini_RX5 mc_X5_state md_X5_state ⟨Nat.le_of_ble_eq_true rfl, Nat.le_of_ble_eq_true rfl⟩ ⟨Nat.le_of_ble_eq_true rfl, Nat.le_of_ble_eq_true rfl⟩ rfl (Nat.le_of_ble_eq_true rfl) (as := [.int (x), .int (y)]) (rest := [.int (0), .ref (zA Z 8 0 0)]) rfl dL_state_5 htab [] ⟨0, 10, 13, 30⟩ [] rfl (fun z hz => absurd hz List.not_mem_nil) rfl (by decide) (List.mem_of_getElem? (i := 240) (by decide +kernel)) (List.mem_of_getElem? (i := 2) rfl) (fun q9 => ?_)
  refine j_astore X dL_state_13 rfl (by decide) (Ls2 := [(4, .ref (q9)), (0, .ref (zA Z (6) (0) (0))), (1, .int (x)), (2, .int (y)), (3, .ref (zA Z 8 0 0))]) rfl ?_
  refine j_iconst X dL_state_15 rfl (v := 1) (by decide) ?_
  exact K _ _ dL_state_16
set_option maxRecDepth 100000 in
set_option maxHeartbeats 4000000 in
theorem w_cached (l : Launch) (Z : wZ) (hO : zO Z = true) (S S1 : St) (h : Hl) (x : Int32) (y : Int32) (v : Int32) (hC : Ci l yX5_cached cX5_cached 4 .int 1 21 Z [.ref (zA Z (6) (0) (0)), .int (x), .int (y)] S h v S1 h) : Cw l yL_cached cL_cached 5 [(0, 10, 13, 30)] 2 44 Z [.ref (zA Z (6) (0) (0)), .int (x), .int (y), .ref (zA Z 8 0 0)] S h 0 S1 (va_up h 1 v.toInt64) := by
  refine Cw.of rfl rfl (Nat.le_of_ble_eq_true rfl) (fun p e s mi args below meth c A0 Q X hSt hZ htab K => ?_)
  refine j_at rfl rfl (Ls3 := [(0, .ref (zA Z (6) (0) (0))), (1, .int (x)), (2, .int (y)), (3, .ref (zA Z 8 0 0))]) rfl rfl ?_
  refine j_aload_n X dL_cached_0 rfl rfl (q := 3) rfl ?_
  refine j_iconst X dL_cached_1 rfl (v := 0) (by decide) ?_
  refine j_aload_n X dL_cached_2 rfl rfl (q := 0) rfl ?_
  refine j_iload_n X dL_cached_3 rfl rfl (q := 1) rfl ?_
  refine j_iload_n X dL_cached_4 rfl rfl (q := 2) rfl ?_
  refine j_calli X hC (wm_top (by decide)) ((fun _ => rfl) _) rfl lk_RL_48 mi_X5_cached ms_X5_cached ini_RX5 mc_X5_cached md_X5_cached ⟨Nat.le_of_ble_eq_true rfl, Nat.le_of_ble_eq_true rfl⟩ ⟨Nat.le_of_ble_eq_true rfl, Nat.le_of_ble_eq_true rfl⟩ rfl (Nat.le_of_ble_eq_true rfl) (as := [.int (x), .int (y)]) (rest := [.int (0), .ref (zA Z 8 0 0)]) rfl dL_cached_5 rfl ?_
  refine j_i2l X dL_cached_8 rfl ?_
  refine j_last X hO dL_cached_9 rfl ?_
  refine j_goto X (tgt := 17) dL_cached_10 (by decide) ?_
  refine j_iconst X dL_cached_17 rfl (v := 0) (by decide) ?_
  refine j_widen (Nat.zero_le 1) (Nat.zero_le 6) ?_
  exact K _ _ dL_cached_18
set_option maxRecDepth 100000 in
set_option maxHeartbeats 4000000 in
theorem wt_cached (l : Launch) (Z : wZ) (S : St) (h : Hl) (x : Int32) (y : Int32) (hC : Ct l yX5_cached cX5_cached 4 .int 6 82 Z [.ref (zA Z (6) (0) (0)), .int (x), .int (y)] S h "java/lang/IndexOutOfBoundsException") : Cw l yL_cached cL_cached 5 [(0, 10, 13, 30)] 7 105 Z [.ref (zA Z (6) (0) (0)), .int (x), .int (y), .ref (zA Z 8 0 0)] S h 1 S h := by
  refine Cw.of rfl rfl (Nat.le_of_ble_eq_true rfl) (fun p e s mi args below meth c A0 Q X hSt hZ htab K => ?_)
  refine j_at rfl rfl (Ls3 := [(0, .ref (zA Z (6) (0) (0))), (1, .int (x)), (2, .int (y)), (3, .ref (zA Z 8 0 0))]) rfl rfl ?_
  refine j_aload_n X dL_cached_0 rfl rfl (q := 3) rfl ?_
  refine j_iconst X dL_cached_1 rfl (v := 0) (by decide) ?_
  refine j_aload_n X dL_cached_2 rfl rfl (q := 0) rfl ?_
  refine j_iload_n X dL_cached_3 rfl rfl (q := 1) rfl ?_
  refine j_iload_n X dL_cached_4 rfl rfl (q := 2) rfl ?_
  refine j_callT X hSt hZ (E := "java/lang/IndexOutOfBoundsException") hC (wm_top (by decide)) ((fun _ => rfl) _) rfl lk_RL_48 mi_X5_cached ms_X5_cached ini_RX5 mc_X5_cached md_X5_cached ⟨Nat.le_of_ble_eq_true rfl, Nat.le_of_ble_eq_true rfl⟩ ⟨Nat.le_of_ble_eq_true rfl, Nat.le_of_ble_eq_true rfl⟩ rfl (Nat.le_of_ble_eq_true rfl) (as := [.int (x), .int (y)]) (rest := [.int (0), .ref (zA Z 8 0 0)]) rfl dL_cached_5 htab [] ⟨0, 10, 13, 30⟩ [] rfl (fun z hz => absurd hz List.not_mem_nil) rfl (by decide) (List.mem_of_getElem? (i := 240) (by decide +kernel)) (List.mem_of_getElem? (i := 2) rfl) (fun q9 => ?_)
  refine j_astore X dL_cached_13 rfl (by decide) (Ls2 := [(4, .ref (q9)), (0, .ref (zA Z (6) (0) (0))), (1, .int (x)), (2, .int (y)), (3, .ref (zA Z 8 0 0))]) rfl ?_
  refine j_iconst X dL_cached_15 rfl (v := 1) (by decide) ?_
  exact K _ _ dL_cached_16
set_option maxRecDepth 100000 in
set_option maxHeartbeats 4000000 in
theorem w_memory (l : Launch) (Z : wZ) (hO : zO Z = true) (S S1 : St) (h : Hl) (x : Int32) (w : Bool) (v : Int32) (hC : Ci l yX5_memory cX5_memory 3 .int 2 44 Z [.ref (zA Z (6) (0) (0)), .int (x), .int (bI (w))] S h v S1 h) : Cw l yL_memory cL_memory 5 [(0, 10, 13, 30)] 3 66 Z [.ref (zA Z (6) (0) (0)), .int (x), .int (bI (w)), .ref (zA Z 8 0 0)] S h 0 S1 (va_up h 1 v.toInt64) := by
  refine Cw.of rfl rfl (Nat.le_of_ble_eq_true rfl) (fun p e s mi args below meth c A0 Q X hSt hZ htab K => ?_)
  refine j_at rfl rfl (Ls3 := [(0, .ref (zA Z (6) (0) (0))), (1, .int (x)), (2, .int (bI (w))), (3, .ref (zA Z 8 0 0))]) rfl rfl ?_
  refine j_aload_n X dL_memory_0 rfl rfl (q := 3) rfl ?_
  refine j_iconst X dL_memory_1 rfl (v := 0) (by decide) ?_
  refine j_aload_n X dL_memory_2 rfl rfl (q := 0) rfl ?_
  refine j_iload_n X dL_memory_3 rfl rfl (q := 1) rfl ?_
  refine j_iload_n X dL_memory_4 rfl rfl (q := 2) rfl ?_
  refine j_calli X hC (wm_top (by decide)) ((fun _ => rfl) _) rfl lk_RL_51 mi_X5_memory ms_X5_memory ini_RX5 mc_X5_memory md_X5_memory ⟨Nat.le_of_ble_eq_true rfl, Nat.le_of_ble_eq_true rfl⟩ ⟨Nat.le_of_ble_eq_true rfl, Nat.le_of_ble_eq_true rfl⟩ rfl (Nat.le_of_ble_eq_true rfl) (as := [.int (x), .int (bI (w))]) (rest := [.int (0), .ref (zA Z 8 0 0)]) rfl dL_memory_5 rfl ?_
  refine j_i2l X dL_memory_8 rfl ?_
  refine j_last X hO dL_memory_9 rfl ?_
  refine j_goto X (tgt := 17) dL_memory_10 (by decide) ?_
  refine j_iconst X dL_memory_17 rfl (v := 0) (by decide) ?_
  refine j_widen (Nat.zero_le 1) (Nat.zero_le 6) ?_
  exact K _ _ dL_memory_18
set_option maxRecDepth 100000 in
set_option maxHeartbeats 4000000 in
theorem wt_memory (l : Launch) (Z : wZ) (S : St) (h : Hl) (x : Int32) (w : Bool) (hC : Ct l yX5_memory cX5_memory 3 .int 6 82 Z [.ref (zA Z (6) (0) (0)), .int (x), .int (bI (w))] S h "java/lang/IndexOutOfBoundsException") : Cw l yL_memory cL_memory 5 [(0, 10, 13, 30)] 7 104 Z [.ref (zA Z (6) (0) (0)), .int (x), .int (bI (w)), .ref (zA Z 8 0 0)] S h 1 S h := by
  refine Cw.of rfl rfl (Nat.le_of_ble_eq_true rfl) (fun p e s mi args below meth c A0 Q X hSt hZ htab K => ?_)
  refine j_at rfl rfl (Ls3 := [(0, .ref (zA Z (6) (0) (0))), (1, .int (x)), (2, .int (bI (w))), (3, .ref (zA Z 8 0 0))]) rfl rfl ?_
  refine j_aload_n X dL_memory_0 rfl rfl (q := 3) rfl ?_
  refine j_iconst X dL_memory_1 rfl (v := 0) (by decide) ?_
  refine j_aload_n X dL_memory_2 rfl rfl (q := 0) rfl ?_
  refine j_iload_n X dL_memory_3 rfl rfl (q := 1) rfl ?_
  refine j_iload_n X dL_memory_4 rfl rfl (q := 2) rfl ?_
  refine j_callT X hSt hZ (E := "java/lang/IndexOutOfBoundsException") hC (wm_top (by decide)) ((fun _ => rfl) _) rfl lk_RL_51 mi_X5_memory ms_X5_memory ini_RX5 mc_X5_memory md_X5_memory ⟨Nat.le_of_ble_eq_true rfl, Nat.le_of_ble_eq_true rfl⟩ ⟨Nat.le_of_ble_eq_true rfl, Nat.le_of_ble_eq_true rfl⟩ rfl (Nat.le_of_ble_eq_true rfl) (as := [.int (x), .int (bI (w))]) (rest := [.int (0), .ref (zA Z 8 0 0)]) rfl dL_memory_5 htab [] ⟨0, 10, 13, 30⟩ [] rfl (fun z hz => absurd hz List.not_mem_nil) rfl (by decide) (List.mem_of_getElem? (i := 240) (by decide +kernel)) (List.mem_of_getElem? (i := 2) rfl) (fun q9 => ?_)
  refine j_astore X dL_memory_13 rfl (by decide) (Ls2 := [(4, .ref (q9)), (0, .ref (zA Z (6) (0) (0))), (1, .int (x)), (2, .int (bI (w))), (3, .ref (zA Z 8 0 0))]) rfl ?_
  refine j_iconst X dL_memory_15 rfl (v := 1) (by decide) ?_
  exact K _ _ dL_memory_16
set_option maxRecDepth 100000 in
set_option maxHeartbeats 4000000 in
theorem w_set (l : Launch) (Z : wZ) (hO : zO Z = true) (S S1 : St) (h : Hl) (x : Int32) (w : Bool) (v : Int32) (hC : Ci l yX5_set cX5_set 3 .int 1 21 Z [.ref (zA Z (6) (0) (0)), .int (x), .int (bI (w))] S h v S1 h) : Cw l yL_set cL_set 5 [(0, 10, 13, 30)] 2 43 Z [.ref (zA Z (6) (0) (0)), .int (x), .int (bI (w)), .ref (zA Z 8 0 0)] S h 0 S1 (va_up h 1 v.toInt64) := by
  refine Cw.of rfl rfl (Nat.le_of_ble_eq_true rfl) (fun p e s mi args below meth c A0 Q X hSt hZ htab K => ?_)
  refine j_at rfl rfl (Ls3 := [(0, .ref (zA Z (6) (0) (0))), (1, .int (x)), (2, .int (bI (w))), (3, .ref (zA Z 8 0 0))]) rfl rfl ?_
  refine j_aload_n X dL_set_0 rfl rfl (q := 3) rfl ?_
  refine j_iconst X dL_set_1 rfl (v := 0) (by decide) ?_
  refine j_aload_n X dL_set_2 rfl rfl (q := 0) rfl ?_
  refine j_iload_n X dL_set_3 rfl rfl (q := 1) rfl ?_
  refine j_iload_n X dL_set_4 rfl rfl (q := 2) rfl ?_
  refine j_calli X hC (wm_top (by decide)) ((fun _ => rfl) _) rfl lk_RL_55 mi_X5_set ms_X5_set ini_RX5 mc_X5_set md_X5_set ⟨Nat.le_of_ble_eq_true rfl, Nat.le_of_ble_eq_true rfl⟩ ⟨Nat.le_of_ble_eq_true rfl, Nat.le_of_ble_eq_true rfl⟩ rfl (Nat.le_of_ble_eq_true rfl) (as := [.int (x), .int (bI (w))]) (rest := [.int (0), .ref (zA Z 8 0 0)]) rfl dL_set_5 rfl ?_
  refine j_i2l X dL_set_8 rfl ?_
  refine j_last X hO dL_set_9 rfl ?_
  refine j_goto X (tgt := 17) dL_set_10 (by decide) ?_
  refine j_iconst X dL_set_17 rfl (v := 0) (by decide) ?_
  refine j_widen (Nat.zero_le 1) (Nat.zero_le 6) ?_
  exact K _ _ dL_set_18
set_option maxRecDepth 100000 in
set_option maxHeartbeats 4000000 in
theorem wt_set (l : Launch) (Z : wZ) (S : St) (h : Hl) (x : Int32) (w : Bool) (hC : Ct l yX5_set cX5_set 3 .int 6 82 Z [.ref (zA Z (6) (0) (0)), .int (x), .int (bI (w))] S h "java/lang/IndexOutOfBoundsException") : Cw l yL_set cL_set 5 [(0, 10, 13, 30)] 7 104 Z [.ref (zA Z (6) (0) (0)), .int (x), .int (bI (w)), .ref (zA Z 8 0 0)] S h 1 S h := by
  refine Cw.of rfl rfl (Nat.le_of_ble_eq_true rfl) (fun p e s mi args below meth c A0 Q X hSt hZ htab K => ?_)
  refine j_at rfl rfl (Ls3 := [(0, .ref (zA Z (6) (0) (0))), (1, .int (x)), (2, .int (bI (w))), (3, .ref (zA Z 8 0 0))]) rfl rfl ?_
  refine j_aload_n X dL_set_0 rfl rfl (q := 3) rfl ?_
  refine j_iconst X dL_set_1 rfl (v := 0) (by decide) ?_
  refine j_aload_n X dL_set_2 rfl rfl (q := 0) rfl ?_
  refine j_iload_n X dL_set_3 rfl rfl (q := 1) rfl ?_
  refine j_iload_n X dL_set_4 rfl rfl (q := 2) rfl ?_
  refine j_callT X hSt hZ (E := "java/lang/IndexOutOfBoundsException") hC (wm_top (by decide)) ((fun _ => rfl) _) rfl lk_RL_55 mi_X5_set ms_X5_set ini_RX5 mc_X5_set md_X5_set ⟨Nat.le_of_ble_eq_true rfl, Nat.le_of_ble_eq_true rfl⟩ ⟨Nat.le_of_ble_eq_true rfl, Nat.le_of_ble_eq_true rfl⟩ rfl (Nat.le_of_ble_eq_true rfl) (as := [.int (x), .int (bI (w))]) (rest := [.int (0), .ref (zA Z 8 0 0)]) rfl dL_set_5 htab [] ⟨0, 10, 13, 30⟩ [] rfl (fun z hz => absurd hz List.not_mem_nil) rfl (by decide) (List.mem_of_getElem? (i := 240) (by decide +kernel)) (List.mem_of_getElem? (i := 2) rfl) (fun q9 => ?_)
  refine j_astore X dL_set_13 rfl (by decide) (Ls2 := [(4, .ref (q9)), (0, .ref (zA Z (6) (0) (0))), (1, .int (x)), (2, .int (bI (w))), (3, .ref (zA Z 8 0 0))]) rfl ?_
  refine j_iconst X dL_set_15 rfl (v := 1) (by decide) ?_
  exact K _ _ dL_set_16
set_option maxRecDepth 100000 in
set_option maxHeartbeats 4000000 in
theorem w_core (l : Launch) (Z : wZ) (hO : zO Z = true) (S S1 : St) (h : Hl) (x : Int32) (y : Int32) (v : Int32) (hC : Ci l yX5_core cX5_core 3 .int 1 21 Z [.ref (zA Z (6) (0) (0)), .int (x), .int (y)] S h v S1 h) : Cw l yL_core cL_core 5 [(0, 10, 13, 30), (0, 10, 17, 13)] 2 43 Z [.ref (zA Z (6) (0) (0)), .int (x), .int (y), .ref (zA Z 8 0 0)] S h 0 S1 (va_up h 1 v.toInt64) := by
  refine Cw.of rfl rfl (Nat.le_of_ble_eq_true rfl) (fun p e s mi args below meth c A0 Q X hSt hZ htab K => ?_)
  refine j_at rfl rfl (Ls3 := [(0, .ref (zA Z (6) (0) (0))), (1, .int (x)), (2, .int (y)), (3, .ref (zA Z 8 0 0))]) rfl rfl ?_
  refine j_aload_n X dL_core_0 rfl rfl (q := 3) rfl ?_
  refine j_iconst X dL_core_1 rfl (v := 0) (by decide) ?_
  refine j_aload_n X dL_core_2 rfl rfl (q := 0) rfl ?_
  refine j_iload_n X dL_core_3 rfl rfl (q := 1) rfl ?_
  refine j_iload_n X dL_core_4 rfl rfl (q := 2) rfl ?_
  refine j_calli X hC (wm_top (by decide)) ((fun _ => rfl) _) rfl lk_RL_58 mi_X5_core ms_X5_core ini_RX5 mc_X5_core md_X5_core ⟨Nat.le_of_ble_eq_true rfl, Nat.le_of_ble_eq_true rfl⟩ ⟨Nat.le_of_ble_eq_true rfl, Nat.le_of_ble_eq_true rfl⟩ rfl (Nat.le_of_ble_eq_true rfl) (as := [.int (x), .int (y)]) (rest := [.int (0), .ref (zA Z 8 0 0)]) rfl dL_core_5 rfl ?_
  refine j_i2l X dL_core_8 rfl ?_
  refine j_last X hO dL_core_9 rfl ?_
  refine j_goto X (tgt := 21) dL_core_10 (by decide) ?_
  refine j_iconst X dL_core_21 rfl (v := 0) (by decide) ?_
  refine j_widen (Nat.zero_le 1) (Nat.zero_le 6) ?_
  exact K _ _ dL_core_22
set_option maxRecDepth 100000 in
set_option maxHeartbeats 4000000 in
theorem wt_core (l : Launch) (Z : wZ) (S : St) (h : Hl) (x : Int32) (y : Int32) (hC : Ct l yX5_core cX5_core 3 .int 6 82 Z [.ref (zA Z (6) (0) (0)), .int (x), .int (y)] S h "java/lang/IndexOutOfBoundsException") : Cw l yL_core cL_core 5 [(0, 10, 13, 30), (0, 10, 17, 13)] 7 104 Z [.ref (zA Z (6) (0) (0)), .int (x), .int (y), .ref (zA Z 8 0 0)] S h 1 S h := by
  refine Cw.of rfl rfl (Nat.le_of_ble_eq_true rfl) (fun p e s mi args below meth c A0 Q X hSt hZ htab K => ?_)
  refine j_at rfl rfl (Ls3 := [(0, .ref (zA Z (6) (0) (0))), (1, .int (x)), (2, .int (y)), (3, .ref (zA Z 8 0 0))]) rfl rfl ?_
  refine j_aload_n X dL_core_0 rfl rfl (q := 3) rfl ?_
  refine j_iconst X dL_core_1 rfl (v := 0) (by decide) ?_
  refine j_aload_n X dL_core_2 rfl rfl (q := 0) rfl ?_
  refine j_iload_n X dL_core_3 rfl rfl (q := 1) rfl ?_
  refine j_iload_n X dL_core_4 rfl rfl (q := 2) rfl ?_
  refine j_callT X hSt hZ (E := "java/lang/IndexOutOfBoundsException") hC (wm_top (by decide)) ((fun _ => rfl) _) rfl lk_RL_58 mi_X5_core ms_X5_core ini_RX5 mc_X5_core md_X5_core ⟨Nat.le_of_ble_eq_true rfl, Nat.le_of_ble_eq_true rfl⟩ ⟨Nat.le_of_ble_eq_true rfl, Nat.le_of_ble_eq_true rfl⟩ rfl (Nat.le_of_ble_eq_true rfl) (as := [.int (x), .int (y)]) (rest := [.int (0), .ref (zA Z 8 0 0)]) rfl dL_core_5 htab [] ⟨0, 10, 13, 30⟩ [⟨0, 10, 17, 13⟩] rfl (fun z hz => absurd hz List.not_mem_nil) rfl (by decide) (List.mem_of_getElem? (i := 240) (by decide +kernel)) (List.mem_of_getElem? (i := 2) rfl) (fun q9 => ?_)
  refine j_astore X dL_core_13 rfl (by decide) (Ls2 := [(4, .ref (q9)), (0, .ref (zA Z (6) (0) (0))), (1, .int (x)), (2, .int (y)), (3, .ref (zA Z 8 0 0))]) rfl ?_
  refine j_iconst X dL_core_15 rfl (v := 1) (by decide) ?_
  exact K _ _ dL_core_16
set_option maxRecDepth 100000 in
set_option maxHeartbeats 4000000 in
theorem wt_core_what (l : Launch) (Z : wZ) (S : St) (h : Hl) (x : Int32) (y : Int32) (hC : Ct l yX5_core cX5_core 3 .int 6 82 Z [.ref (zA Z (6) (0) (0)), .int (x), .int (y)] S h "java/lang/IllegalArgumentException") : Cw l yL_core cL_core 5 [(0, 10, 13, 30), (0, 10, 17, 13)] 7 104 Z [.ref (zA Z (6) (0) (0)), .int (x), .int (y), .ref (zA Z 8 0 0)] S h 2 S h := by
  refine Cw.of rfl rfl (Nat.le_of_ble_eq_true rfl) (fun p e s mi args below meth c A0 Q X hSt hZ htab K => ?_)
  refine j_at rfl rfl (Ls3 := [(0, .ref (zA Z (6) (0) (0))), (1, .int (x)), (2, .int (y)), (3, .ref (zA Z 8 0 0))]) rfl rfl ?_
  refine j_aload_n X dL_core_0 rfl rfl (q := 3) rfl ?_
  refine j_iconst X dL_core_1 rfl (v := 0) (by decide) ?_
  refine j_aload_n X dL_core_2 rfl rfl (q := 0) rfl ?_
  refine j_iload_n X dL_core_3 rfl rfl (q := 1) rfl ?_
  refine j_iload_n X dL_core_4 rfl rfl (q := 2) rfl ?_
  refine j_callT X hSt hZ (E := "java/lang/IllegalArgumentException") hC (wm_top (by decide)) ((fun _ => rfl) _) rfl lk_RL_58 mi_X5_core ms_X5_core ini_RX5 mc_X5_core md_X5_core ⟨Nat.le_of_ble_eq_true rfl, Nat.le_of_ble_eq_true rfl⟩ ⟨Nat.le_of_ble_eq_true rfl, Nat.le_of_ble_eq_true rfl⟩ rfl (Nat.le_of_ble_eq_true rfl) (as := [.int (x), .int (y)]) (rest := [.int (0), .ref (zA Z 8 0 0)]) rfl dL_core_5 htab [⟨0, 10, 13, 30⟩] ⟨0, 10, 17, 13⟩ [] rfl (fun z hz => by rw [List.mem_singleton.mp hz]; exact ⟨by decide, "java/lang/IndexOutOfBoundsException", (List.mem_of_getElem? (i := 240) (by decide +kernel)), hSt.2.2.2.2⟩) rfl (by decide) (List.mem_of_getElem? (i := 114) (by decide +kernel)) (List.mem_of_getElem? (i := 0) rfl) (fun q9 => ?_)
  refine j_astore X dL_core_17 rfl (by decide) (Ls2 := [(4, .ref (q9)), (0, .ref (zA Z (6) (0) (0))), (1, .int (x)), (2, .int (y)), (3, .ref (zA Z 8 0 0))]) rfl ?_
  refine j_iconst X dL_core_19 rfl (v := 2) (by decide) ?_
  exact K _ _ dL_core_20
set_option maxRecDepth 100000 in
set_option maxHeartbeats 4000000 in
theorem w_value (l : Launch) (Z : wZ) (hO : zO Z = true) (S S1 : St) (h : Hl) (x : Int32) (v : Int32) (hC : Ci l yX5_value cX5_value 2 .int 3 63 Z [.ref (zA Z (6) (0) (0)), .int (x)] S h v S1 h) : Cw l yL_value cL_value 4 [(0, 9, 12, 13)] 4 84 Z [.ref (zA Z (6) (0) (0)), .int (x), .ref (zA Z 8 0 0)] S h 0 S1 (va_up h 1 v.toInt64) := by
  refine Cw.of rfl rfl (Nat.le_of_ble_eq_true rfl) (fun p e s mi args below meth c A0 Q X hSt hZ htab K => ?_)
  refine j_at rfl rfl (Ls3 := [(0, .ref (zA Z (6) (0) (0))), (1, .int (x)), (2, .ref (zA Z 8 0 0))]) rfl rfl ?_
  refine j_aload_n X dL_value_0 rfl rfl (q := 2) rfl ?_
  refine j_iconst X dL_value_1 rfl (v := 0) (by decide) ?_
  refine j_aload_n X dL_value_2 rfl rfl (q := 0) rfl ?_
  refine j_iload_n X dL_value_3 rfl rfl (q := 1) rfl ?_
  refine j_calli X hC (wm_top (by decide)) ((fun _ => rfl) _) rfl lk_RL_61 mi_X5_value ms_X5_value ini_RX5 mc_X5_value md_X5_value ⟨Nat.le_of_ble_eq_true rfl, Nat.le_of_ble_eq_true rfl⟩ ⟨Nat.le_of_ble_eq_true rfl, Nat.le_of_ble_eq_true rfl⟩ rfl (Nat.le_of_ble_eq_true rfl) (as := [.int (x)]) (rest := [.int (0), .ref (zA Z 8 0 0)]) rfl dL_value_4 rfl ?_
  refine j_i2l X dL_value_7 rfl ?_
  refine j_last X hO dL_value_8 rfl ?_
  refine j_goto X (tgt := 15) dL_value_9 (by decide) ?_
  refine j_iconst X dL_value_15 rfl (v := 0) (by decide) ?_
  refine j_widen (Nat.zero_le 1) (Nat.zero_le 6) ?_
  exact K _ _ dL_value_16
set_option maxRecDepth 100000 in
set_option maxHeartbeats 4000000 in
theorem wt_value (l : Launch) (Z : wZ) (S : St) (h : Hl) (x : Int32) (hC : Ct l yX5_value cX5_value 2 .int 6 82 Z [.ref (zA Z (6) (0) (0)), .int (x)] S h "java/lang/IllegalArgumentException") : Cw l yL_value cL_value 4 [(0, 9, 12, 13)] 7 103 Z [.ref (zA Z (6) (0) (0)), .int (x), .ref (zA Z 8 0 0)] S h 1 S h := by
  refine Cw.of rfl rfl (Nat.le_of_ble_eq_true rfl) (fun p e s mi args below meth c A0 Q X hSt hZ htab K => ?_)
  refine j_at rfl rfl (Ls3 := [(0, .ref (zA Z (6) (0) (0))), (1, .int (x)), (2, .ref (zA Z 8 0 0))]) rfl rfl ?_
  refine j_aload_n X dL_value_0 rfl rfl (q := 2) rfl ?_
  refine j_iconst X dL_value_1 rfl (v := 0) (by decide) ?_
  refine j_aload_n X dL_value_2 rfl rfl (q := 0) rfl ?_
  refine j_iload_n X dL_value_3 rfl rfl (q := 1) rfl ?_
  refine j_callT X hSt hZ (E := "java/lang/IllegalArgumentException") hC (wm_top (by decide)) ((fun _ => rfl) _) rfl lk_RL_61 mi_X5_value ms_X5_value ini_RX5 mc_X5_value md_X5_value ⟨Nat.le_of_ble_eq_true rfl, Nat.le_of_ble_eq_true rfl⟩ ⟨Nat.le_of_ble_eq_true rfl, Nat.le_of_ble_eq_true rfl⟩ rfl (Nat.le_of_ble_eq_true rfl) (as := [.int (x)]) (rest := [.int (0), .ref (zA Z 8 0 0)]) rfl dL_value_4 htab [] ⟨0, 9, 12, 13⟩ [] rfl (fun z hz => absurd hz List.not_mem_nil) rfl (by decide) (List.mem_of_getElem? (i := 114) (by decide +kernel)) (List.mem_of_getElem? (i := 0) rfl) (fun q9 => ?_)
  refine j_astore_n X dL_value_12 rfl rfl (by decide) (Ls2 := [(3, .ref (q9)), (0, .ref (zA Z (6) (0) (0))), (1, .int (x)), (2, .ref (zA Z 8 0 0))]) rfl ?_
  refine j_iconst X dL_value_13 rfl (v := 1) (by decide) ?_
  exact K _ _ dL_value_14
set_option maxRecDepth 100000 in
set_option maxHeartbeats 4000000 in
theorem w_counter (l : Launch) (Z : wZ) (hO : zO Z = true) (S S1 : St) (h : Hl) (x : Int32) (v : Int32) (hC : Ci l yX5_counter cX5_counter 2 .int 0 0 Z [.ref (zA Z (6) (0) (0)), .int (x)] S h v S1 h) : Cw l yL_counter cL_counter 4 [(0, 9, 12, 13)] 1 21 Z [.ref (zA Z (6) (0) (0)), .int (x), .ref (zA Z 8 0 0)] S h 0 S1 (va_up h 1 v.toInt64) := by
  refine Cw.of rfl rfl (Nat.le_of_ble_eq_true rfl) (fun p e s mi args below meth c A0 Q X hSt hZ htab K => ?_)
  refine j_at rfl rfl (Ls3 := [(0, .ref (zA Z (6) (0) (0))), (1, .int (x)), (2, .ref (zA Z 8 0 0))]) rfl rfl ?_
  refine j_aload_n X dL_counter_0 rfl rfl (q := 2) rfl ?_
  refine j_iconst X dL_counter_1 rfl (v := 0) (by decide) ?_
  refine j_aload_n X dL_counter_2 rfl rfl (q := 0) rfl ?_
  refine j_iload_n X dL_counter_3 rfl rfl (q := 1) rfl ?_
  refine j_calli X hC (wm_top (by decide)) ((fun _ => rfl) _) rfl lk_RL_64 mi_X5_counter ms_X5_counter ini_RX5 mc_X5_counter md_X5_counter ⟨Nat.le_of_ble_eq_true rfl, Nat.le_of_ble_eq_true rfl⟩ ⟨Nat.le_of_ble_eq_true rfl, Nat.le_of_ble_eq_true rfl⟩ rfl (Nat.le_of_ble_eq_true rfl) (as := [.int (x)]) (rest := [.int (0), .ref (zA Z 8 0 0)]) rfl dL_counter_4 rfl ?_
  refine j_i2l X dL_counter_7 rfl ?_
  refine j_last X hO dL_counter_8 rfl ?_
  refine j_goto X (tgt := 15) dL_counter_9 (by decide) ?_
  refine j_iconst X dL_counter_15 rfl (v := 0) (by decide) ?_
  refine j_widen (Nat.zero_le 1) (Nat.zero_le 6) ?_
  exact K _ _ dL_counter_16
set_option maxRecDepth 100000 in
set_option maxHeartbeats 4000000 in
theorem wt_counter (l : Launch) (Z : wZ) (S : St) (h : Hl) (x : Int32) (hC : Ct l yX5_counter cX5_counter 2 .int 6 82 Z [.ref (zA Z (6) (0) (0)), .int (x)] S h "java/lang/IllegalArgumentException") : Cw l yL_counter cL_counter 4 [(0, 9, 12, 13)] 7 103 Z [.ref (zA Z (6) (0) (0)), .int (x), .ref (zA Z 8 0 0)] S h 1 S h := by
  refine Cw.of rfl rfl (Nat.le_of_ble_eq_true rfl) (fun p e s mi args below meth c A0 Q X hSt hZ htab K => ?_)
  refine j_at rfl rfl (Ls3 := [(0, .ref (zA Z (6) (0) (0))), (1, .int (x)), (2, .ref (zA Z 8 0 0))]) rfl rfl ?_
  refine j_aload_n X dL_counter_0 rfl rfl (q := 2) rfl ?_
  refine j_iconst X dL_counter_1 rfl (v := 0) (by decide) ?_
  refine j_aload_n X dL_counter_2 rfl rfl (q := 0) rfl ?_
  refine j_iload_n X dL_counter_3 rfl rfl (q := 1) rfl ?_
  refine j_callT X hSt hZ (E := "java/lang/IllegalArgumentException") hC (wm_top (by decide)) ((fun _ => rfl) _) rfl lk_RL_64 mi_X5_counter ms_X5_counter ini_RX5 mc_X5_counter md_X5_counter ⟨Nat.le_of_ble_eq_true rfl, Nat.le_of_ble_eq_true rfl⟩ ⟨Nat.le_of_ble_eq_true rfl, Nat.le_of_ble_eq_true rfl⟩ rfl (Nat.le_of_ble_eq_true rfl) (as := [.int (x)]) (rest := [.int (0), .ref (zA Z 8 0 0)]) rfl dL_counter_4 htab [] ⟨0, 9, 12, 13⟩ [] rfl (fun z hz => absurd hz List.not_mem_nil) rfl (by decide) (List.mem_of_getElem? (i := 114) (by decide +kernel)) (List.mem_of_getElem? (i := 0) rfl) (fun q9 => ?_)
  refine j_astore_n X dL_counter_12 rfl rfl (by decide) (Ls2 := [(3, .ref (q9)), (0, .ref (zA Z (6) (0) (0))), (1, .int (x)), (2, .ref (zA Z 8 0 0))]) rfl ?_
  refine j_iconst X dL_counter_13 rfl (v := 1) (by decide) ?_
  exact K _ _ dL_counter_14
set_option maxRecDepth 100000 in
set_option maxHeartbeats 4000000 in
theorem w_commit (l : Launch) (Z : wZ) (hO : zO Z = true) (S S1 : St) (h : Hl) (x : Int32) (y : Int32) (v : Int32) (hC : Ci l yX5_commit cX5_commit 3 .int 1 22 Z [.ref (zA Z (6) (0) (0)), .int (x), .int (y)] S h v S1 h) : Cw l yL_commit cL_commit 5 [(0, 10, 13, 30), (0, 10, 17, 13)] 2 44 Z [.ref (zA Z (6) (0) (0)), .int (x), .int (y), .ref (zA Z 8 0 0)] S h 0 S1 (va_up h 1 v.toInt64) := by
  refine Cw.of rfl rfl (Nat.le_of_ble_eq_true rfl) (fun p e s mi args below meth c A0 Q X hSt hZ htab K => ?_)
  refine j_at rfl rfl (Ls3 := [(0, .ref (zA Z (6) (0) (0))), (1, .int (x)), (2, .int (y)), (3, .ref (zA Z 8 0 0))]) rfl rfl ?_
  refine j_aload_n X dL_commit_0 rfl rfl (q := 3) rfl ?_
  refine j_iconst X dL_commit_1 rfl (v := 0) (by decide) ?_
  refine j_aload_n X dL_commit_2 rfl rfl (q := 0) rfl ?_
  refine j_iload_n X dL_commit_3 rfl rfl (q := 1) rfl ?_
  refine j_iload_n X dL_commit_4 rfl rfl (q := 2) rfl ?_
  refine j_calli X hC (wm_top (by decide)) ((fun _ => rfl) _) rfl lk_RL_67 mi_X5_commit ms_X5_commit ini_RX5 mc_X5_commit md_X5_commit ⟨Nat.le_of_ble_eq_true rfl, Nat.le_of_ble_eq_true rfl⟩ ⟨Nat.le_of_ble_eq_true rfl, Nat.le_of_ble_eq_true rfl⟩ rfl (Nat.le_of_ble_eq_true rfl) (as := [.int (x), .int (y)]) (rest := [.int (0), .ref (zA Z 8 0 0)]) rfl dL_commit_5 rfl ?_
  refine j_i2l X dL_commit_8 rfl ?_
  refine j_last X hO dL_commit_9 rfl ?_
  refine j_goto X (tgt := 21) dL_commit_10 (by decide) ?_
  refine j_iconst X dL_commit_21 rfl (v := 0) (by decide) ?_
  refine j_widen (Nat.zero_le 1) (Nat.zero_le 6) ?_
  exact K _ _ dL_commit_22
set_option maxRecDepth 100000 in
set_option maxHeartbeats 4000000 in
theorem wt_commit (l : Launch) (Z : wZ) (S : St) (h : Hl) (x : Int32) (y : Int32) (hC : Ct l yX5_commit cX5_commit 3 .int 6 82 Z [.ref (zA Z (6) (0) (0)), .int (x), .int (y)] S h "java/lang/IndexOutOfBoundsException") : Cw l yL_commit cL_commit 5 [(0, 10, 13, 30), (0, 10, 17, 13)] 7 104 Z [.ref (zA Z (6) (0) (0)), .int (x), .int (y), .ref (zA Z 8 0 0)] S h 1 S h := by
  refine Cw.of rfl rfl (Nat.le_of_ble_eq_true rfl) (fun p e s mi args below meth c A0 Q X hSt hZ htab K => ?_)
  refine j_at rfl rfl (Ls3 := [(0, .ref (zA Z (6) (0) (0))), (1, .int (x)), (2, .int (y)), (3, .ref (zA Z 8 0 0))]) rfl rfl ?_
  refine j_aload_n X dL_commit_0 rfl rfl (q := 3) rfl ?_
  refine j_iconst X dL_commit_1 rfl (v := 0) (by decide) ?_
  refine j_aload_n X dL_commit_2 rfl rfl (q := 0) rfl ?_
  refine j_iload_n X dL_commit_3 rfl rfl (q := 1) rfl ?_
  refine j_iload_n X dL_commit_4 rfl rfl (q := 2) rfl ?_
  refine j_callT X hSt hZ (E := "java/lang/IndexOutOfBoundsException") hC (wm_top (by decide)) ((fun _ => rfl) _) rfl lk_RL_67 mi_X5_commit ms_X5_commit ini_RX5 mc_X5_commit md_X5_commit ⟨Nat.le_of_ble_eq_true rfl, Nat.le_of_ble_eq_true rfl⟩ ⟨Nat.le_of_ble_eq_true rfl, Nat.le_of_ble_eq_true rfl⟩ rfl (Nat.le_of_ble_eq_true rfl) (as := [.int (x), .int (y)]) (rest := [.int (0), .ref (zA Z 8 0 0)]) rfl dL_commit_5 htab [] ⟨0, 10, 13, 30⟩ [⟨0, 10, 17, 13⟩] rfl (fun z hz => absurd hz List.not_mem_nil) rfl (by decide) (List.mem_of_getElem? (i := 240) (by decide +kernel)) (List.mem_of_getElem? (i := 2) rfl) (fun q9 => ?_)
  refine j_astore X dL_commit_13 rfl (by decide) (Ls2 := [(4, .ref (q9)), (0, .ref (zA Z (6) (0) (0))), (1, .int (x)), (2, .int (y)), (3, .ref (zA Z 8 0 0))]) rfl ?_
  refine j_iconst X dL_commit_15 rfl (v := 1) (by decide) ?_
  exact K _ _ dL_commit_16
set_option maxRecDepth 100000 in
set_option maxHeartbeats 4000000 in
theorem wt_commit_what (l : Launch) (Z : wZ) (S : St) (h : Hl) (x : Int32) (y : Int32) (hC : Ct l yX5_commit cX5_commit 3 .int 6 82 Z [.ref (zA Z (6) (0) (0)), .int (x), .int (y)] S h "java/lang/IllegalArgumentException") : Cw l yL_commit cL_commit 5 [(0, 10, 13, 30), (0, 10, 17, 13)] 7 104 Z [.ref (zA Z (6) (0) (0)), .int (x), .int (y), .ref (zA Z 8 0 0)] S h 2 S h := by
  refine Cw.of rfl rfl (Nat.le_of_ble_eq_true rfl) (fun p e s mi args below meth c A0 Q X hSt hZ htab K => ?_)
  refine j_at rfl rfl (Ls3 := [(0, .ref (zA Z (6) (0) (0))), (1, .int (x)), (2, .int (y)), (3, .ref (zA Z 8 0 0))]) rfl rfl ?_
  refine j_aload_n X dL_commit_0 rfl rfl (q := 3) rfl ?_
  refine j_iconst X dL_commit_1 rfl (v := 0) (by decide) ?_
  refine j_aload_n X dL_commit_2 rfl rfl (q := 0) rfl ?_
  refine j_iload_n X dL_commit_3 rfl rfl (q := 1) rfl ?_
  refine j_iload_n X dL_commit_4 rfl rfl (q := 2) rfl ?_
  refine j_callT X hSt hZ (E := "java/lang/IllegalArgumentException") hC (wm_top (by decide)) ((fun _ => rfl) _) rfl lk_RL_67 mi_X5_commit ms_X5_commit ini_RX5 mc_X5_commit md_X5_commit ⟨Nat.le_of_ble_eq_true rfl, Nat.le_of_ble_eq_true rfl⟩ ⟨Nat.le_of_ble_eq_true rfl, Nat.le_of_ble_eq_true rfl⟩ rfl (Nat.le_of_ble_eq_true rfl) (as := [.int (x), .int (y)]) (rest := [.int (0), .ref (zA Z 8 0 0)]) rfl dL_commit_5 htab [⟨0, 10, 13, 30⟩] ⟨0, 10, 17, 13⟩ [] rfl (fun z hz => by rw [List.mem_singleton.mp hz]; exact ⟨by decide, "java/lang/IndexOutOfBoundsException", (List.mem_of_getElem? (i := 240) (by decide +kernel)), hSt.2.2.2.2⟩) rfl (by decide) (List.mem_of_getElem? (i := 114) (by decide +kernel)) (List.mem_of_getElem? (i := 0) rfl) (fun q9 => ?_)
  refine j_astore X dL_commit_17 rfl (by decide) (Ls2 := [(4, .ref (q9)), (0, .ref (zA Z (6) (0) (0))), (1, .int (x)), (2, .int (y)), (3, .ref (zA Z 8 0 0))]) rfl ?_
  refine j_iconst X dL_commit_19 rfl (v := 2) (by decide) ?_
  exact K _ _ dL_commit_20
set_option maxRecDepth 100000 in
set_option maxHeartbeats 4000000 in
theorem w_commitValue (l : Launch) (Z : wZ) (hO : zO Z = true) (S S1 : St) (h : Hl) (x : Int32) (y : Int32) (w : Bool) (v : Int32) (hC : Ci l yX5_commitValue cX5_commitValue 4 .int 1 23 Z [.ref (zA Z (6) (0) (0)), .int (x), .int (y), .int (bI (w))] S h v S1 h) : Cw l yL_commitValue cL_commitValue 6 [(0, 12, 15, 30)] 2 46 Z [.ref (zA Z (6) (0) (0)), .int (x), .int (y), .int (bI (w)), .ref (zA Z 8 0 0)] S h 0 S1 (va_up h 1 v.toInt64) := by
  refine Cw.of rfl rfl (Nat.le_of_ble_eq_true rfl) (fun p e s mi args below meth c A0 Q X hSt hZ htab K => ?_)
  refine j_at rfl rfl (Ls3 := [(0, .ref (zA Z (6) (0) (0))), (1, .int (x)), (2, .int (y)), (3, .int (bI (w))), (4, .ref (zA Z 8 0 0))]) rfl rfl ?_
  refine j_aload X dL_commitValue_0 rfl (q := 4) rfl ?_
  refine j_iconst X dL_commitValue_2 rfl (v := 0) (by decide) ?_
  refine j_aload_n X dL_commitValue_3 rfl rfl (q := 0) rfl ?_
  refine j_iload_n X dL_commitValue_4 rfl rfl (q := 1) rfl ?_
  refine j_iload_n X dL_commitValue_5 rfl rfl (q := 2) rfl ?_
  refine j_iload_n X dL_commitValue_6 rfl rfl (q := 3) rfl ?_
  refine j_calli X hC (wm_top (by decide)) ((fun _ => rfl) _) rfl lk_RL_70 mi_X5_commitValue ms_X5_commitValue ini_RX5 mc_X5_commitValue md_X5_commitValue ⟨Nat.le_of_ble_eq_true rfl, Nat.le_of_ble_eq_true rfl⟩ ⟨Nat.le_of_ble_eq_true rfl, Nat.le_of_ble_eq_true rfl⟩ rfl (Nat.le_of_ble_eq_true rfl) (as := [.int (x), .int (y), .int (bI (w))]) (rest := [.int (0), .ref (zA Z 8 0 0)]) rfl dL_commitValue_7 rfl ?_
  refine j_i2l X dL_commitValue_10 rfl ?_
  refine j_last X hO dL_commitValue_11 rfl ?_
  refine j_goto X (tgt := 19) dL_commitValue_12 (by decide) ?_
  refine j_iconst X dL_commitValue_19 rfl (v := 0) (by decide) ?_
  refine j_widen (Nat.zero_le 1) (Nat.zero_le 6) ?_
  exact K _ _ dL_commitValue_20
set_option maxRecDepth 100000 in
set_option maxHeartbeats 4000000 in
theorem wt_commitValue (l : Launch) (Z : wZ) (S : St) (h : Hl) (x : Int32) (y : Int32) (w : Bool) (hC : Ct l yX5_commitValue cX5_commitValue 4 .int 6 82 Z [.ref (zA Z (6) (0) (0)), .int (x), .int (y), .int (bI (w))] S h "java/lang/IndexOutOfBoundsException") : Cw l yL_commitValue cL_commitValue 6 [(0, 12, 15, 30)] 7 105 Z [.ref (zA Z (6) (0) (0)), .int (x), .int (y), .int (bI (w)), .ref (zA Z 8 0 0)] S h 1 S h := by
  refine Cw.of rfl rfl (Nat.le_of_ble_eq_true rfl) (fun p e s mi args below meth c A0 Q X hSt hZ htab K => ?_)
  refine j_at rfl rfl (Ls3 := [(0, .ref (zA Z (6) (0) (0))), (1, .int (x)), (2, .int (y)), (3, .int (bI (w))), (4, .ref (zA Z 8 0 0))]) rfl rfl ?_
  refine j_aload X dL_commitValue_0 rfl (q := 4) rfl ?_
  refine j_iconst X dL_commitValue_2 rfl (v := 0) (by decide) ?_
  refine j_aload_n X dL_commitValue_3 rfl rfl (q := 0) rfl ?_
  refine j_iload_n X dL_commitValue_4 rfl rfl (q := 1) rfl ?_
  refine j_iload_n X dL_commitValue_5 rfl rfl (q := 2) rfl ?_
  refine j_iload_n X dL_commitValue_6 rfl rfl (q := 3) rfl ?_
  refine j_callT X hSt hZ (E := "java/lang/IndexOutOfBoundsException") hC (wm_top (by decide)) ((fun _ => rfl) _) rfl lk_RL_70 mi_X5_commitValue ms_X5_commitValue ini_RX5 mc_X5_commitValue md_X5_commitValue ⟨Nat.le_of_ble_eq_true rfl, Nat.le_of_ble_eq_true rfl⟩ ⟨Nat.le_of_ble_eq_true rfl, Nat.le_of_ble_eq_true rfl⟩ rfl (Nat.le_of_ble_eq_true rfl) (as := [.int (x), .int (y), .int (bI (w))]) (rest := [.int (0), .ref (zA Z 8 0 0)]) rfl dL_commitValue_7 htab [] ⟨0, 12, 15, 30⟩ [] rfl (fun z hz => absurd hz List.not_mem_nil) rfl (by decide) (List.mem_of_getElem? (i := 240) (by decide +kernel)) (List.mem_of_getElem? (i := 2) rfl) (fun q9 => ?_)
  refine j_astore X dL_commitValue_15 rfl (by decide) (Ls2 := [(5, .ref (q9)), (0, .ref (zA Z (6) (0) (0))), (1, .int (x)), (2, .int (y)), (3, .int (bI (w))), (4, .ref (zA Z 8 0 0))]) rfl ?_
  refine j_iconst X dL_commitValue_17 rfl (v := 1) (by decide) ?_
  exact K _ _ dL_commitValue_18
set_option maxRecDepth 100000 in
set_option maxHeartbeats 4000000 in
theorem w_finish (l : Launch) (Z : wZ) (hO : zO Z = true) (S S1 : St) (h : Hl) (x : Int32) (v : Int32) (hC : Ci l yX5_finish cX5_finish 2 .int 6 142 Z [.ref (zA Z (6) (0) (0)), .int (x)] S h v S1 h) : Cw l yL_finish cL_finish 4 [(0, 9, 12, 13)] 7 163 Z [.ref (zA Z (6) (0) (0)), .int (x), .ref (zA Z 8 0 0)] S h 0 S1 (va_up h 1 v.toInt64) := by
  refine Cw.of rfl rfl (Nat.le_of_ble_eq_true rfl) (fun p e s mi args below meth c A0 Q X hSt hZ htab K => ?_)
  refine j_at rfl rfl (Ls3 := [(0, .ref (zA Z (6) (0) (0))), (1, .int (x)), (2, .ref (zA Z 8 0 0))]) rfl rfl ?_
  refine j_aload_n X dL_finish_0 rfl rfl (q := 2) rfl ?_
  refine j_iconst X dL_finish_1 rfl (v := 0) (by decide) ?_
  refine j_aload_n X dL_finish_2 rfl rfl (q := 0) rfl ?_
  refine j_iload_n X dL_finish_3 rfl rfl (q := 1) rfl ?_
  refine j_calli X hC (wm_top (by decide)) ((fun _ => rfl) _) rfl lk_RL_74 mi_X5_finish ms_X5_finish ini_RX5 mc_X5_finish md_X5_finish ⟨Nat.le_of_ble_eq_true rfl, Nat.le_of_ble_eq_true rfl⟩ ⟨Nat.le_of_ble_eq_true rfl, Nat.le_of_ble_eq_true rfl⟩ rfl (Nat.le_of_ble_eq_true rfl) (as := [.int (x)]) (rest := [.int (0), .ref (zA Z 8 0 0)]) rfl dL_finish_4 rfl ?_
  refine j_i2l X dL_finish_7 rfl ?_
  refine j_last X hO dL_finish_8 rfl ?_
  refine j_goto X (tgt := 15) dL_finish_9 (by decide) ?_
  refine j_iconst X dL_finish_15 rfl (v := 0) (by decide) ?_
  refine j_widen (Nat.zero_le 1) (Nat.zero_le 6) ?_
  exact K _ _ dL_finish_16
set_option maxRecDepth 100000 in
set_option maxHeartbeats 4000000 in
theorem wt_finish (l : Launch) (Z : wZ) (S : St) (h : Hl) (x : Int32) (hC : Ct l yX5_finish cX5_finish 2 .int 6 82 Z [.ref (zA Z (6) (0) (0)), .int (x)] S h "java/lang/IllegalArgumentException") : Cw l yL_finish cL_finish 4 [(0, 9, 12, 13)] 7 103 Z [.ref (zA Z (6) (0) (0)), .int (x), .ref (zA Z 8 0 0)] S h 1 S h := by
  refine Cw.of rfl rfl (Nat.le_of_ble_eq_true rfl) (fun p e s mi args below meth c A0 Q X hSt hZ htab K => ?_)
  refine j_at rfl rfl (Ls3 := [(0, .ref (zA Z (6) (0) (0))), (1, .int (x)), (2, .ref (zA Z 8 0 0))]) rfl rfl ?_
  refine j_aload_n X dL_finish_0 rfl rfl (q := 2) rfl ?_
  refine j_iconst X dL_finish_1 rfl (v := 0) (by decide) ?_
  refine j_aload_n X dL_finish_2 rfl rfl (q := 0) rfl ?_
  refine j_iload_n X dL_finish_3 rfl rfl (q := 1) rfl ?_
  refine j_callT X hSt hZ (E := "java/lang/IllegalArgumentException") hC (wm_top (by decide)) ((fun _ => rfl) _) rfl lk_RL_74 mi_X5_finish ms_X5_finish ini_RX5 mc_X5_finish md_X5_finish ⟨Nat.le_of_ble_eq_true rfl, Nat.le_of_ble_eq_true rfl⟩ ⟨Nat.le_of_ble_eq_true rfl, Nat.le_of_ble_eq_true rfl⟩ rfl (Nat.le_of_ble_eq_true rfl) (as := [.int (x)]) (rest := [.int (0), .ref (zA Z 8 0 0)]) rfl dL_finish_4 htab [] ⟨0, 9, 12, 13⟩ [] rfl (fun z hz => absurd hz List.not_mem_nil) rfl (by decide) (List.mem_of_getElem? (i := 114) (by decide +kernel)) (List.mem_of_getElem? (i := 0) rfl) (fun q9 => ?_)
  refine j_astore_n X dL_finish_12 rfl rfl (by decide) (Ls2 := [(3, .ref (q9)), (0, .ref (zA Z (6) (0) (0))), (1, .int (x)), (2, .ref (zA Z 8 0 0))]) rfl ?_
  refine j_iconst X dL_finish_13 rfl (v := 1) (by decide) ?_
  exact K _ _ dL_finish_14
set_option maxRecDepth 100000 in
set_option maxHeartbeats 4000000 in
theorem w_abortsWith (l : Launch) (Z : wZ) (hO : zO Z = true) (S S1 : St) (h : Hl) (x : Int32) (y : Int32) (v : Int32) (hC : Ci l yX5_abortsWith cX5_abortsWith 4 .int 6 143 Z [.ref (zA Z (6) (0) (0)), .int (x), .int (y)] S h v S1 h) : Cw l yL_abortsWith cL_abortsWith 5 [(0, 10, 13, 13)] 7 166 Z [.ref (zA Z (6) (0) (0)), .int (x), .int (y), .ref (zA Z 8 0 0)] S h 0 S1 (va_up h 1 v.toInt64) := by
  refine Cw.of rfl rfl (Nat.le_of_ble_eq_true rfl) (fun p e s mi args below meth c A0 Q X hSt hZ htab K => ?_)
  refine j_at rfl rfl (Ls3 := [(0, .ref (zA Z (6) (0) (0))), (1, .int (x)), (2, .int (y)), (3, .ref (zA Z 8 0 0))]) rfl rfl ?_
  refine j_aload_n X dL_abortsWith_0 rfl rfl (q := 3) rfl ?_
  refine j_iconst X dL_abortsWith_1 rfl (v := 0) (by decide) ?_
  refine j_aload_n X dL_abortsWith_2 rfl rfl (q := 0) rfl ?_
  refine j_iload_n X dL_abortsWith_3 rfl rfl (q := 1) rfl ?_
  refine j_iload_n X dL_abortsWith_4 rfl rfl (q := 2) rfl ?_
  refine j_calli X hC (wm_top (by decide)) ((fun _ => rfl) _) rfl lk_RL_77 mi_X5_abortsWith ms_X5_abortsWith ini_RX5 mc_X5_abortsWith md_X5_abortsWith ⟨Nat.le_of_ble_eq_true rfl, Nat.le_of_ble_eq_true rfl⟩ ⟨Nat.le_of_ble_eq_true rfl, Nat.le_of_ble_eq_true rfl⟩ rfl (Nat.le_of_ble_eq_true rfl) (as := [.int (x), .int (y)]) (rest := [.int (0), .ref (zA Z 8 0 0)]) rfl dL_abortsWith_5 rfl ?_
  refine j_i2l X dL_abortsWith_8 rfl ?_
  refine j_last X hO dL_abortsWith_9 rfl ?_
  refine j_goto X (tgt := 17) dL_abortsWith_10 (by decide) ?_
  refine j_iconst X dL_abortsWith_17 rfl (v := 0) (by decide) ?_
  refine j_widen (Nat.zero_le 1) (Nat.zero_le 6) ?_
  exact K _ _ dL_abortsWith_18
set_option maxRecDepth 100000 in
set_option maxHeartbeats 4000000 in
theorem wt_abortsWith (l : Launch) (Z : wZ) (S : St) (h : Hl) (x : Int32) (y : Int32) (hC : Ct l yX5_abortsWith cX5_abortsWith 4 .int 6 82 Z [.ref (zA Z (6) (0) (0)), .int (x), .int (y)] S h "java/lang/IllegalArgumentException") : Cw l yL_abortsWith cL_abortsWith 5 [(0, 10, 13, 13)] 7 105 Z [.ref (zA Z (6) (0) (0)), .int (x), .int (y), .ref (zA Z 8 0 0)] S h 1 S h := by
  refine Cw.of rfl rfl (Nat.le_of_ble_eq_true rfl) (fun p e s mi args below meth c A0 Q X hSt hZ htab K => ?_)
  refine j_at rfl rfl (Ls3 := [(0, .ref (zA Z (6) (0) (0))), (1, .int (x)), (2, .int (y)), (3, .ref (zA Z 8 0 0))]) rfl rfl ?_
  refine j_aload_n X dL_abortsWith_0 rfl rfl (q := 3) rfl ?_
  refine j_iconst X dL_abortsWith_1 rfl (v := 0) (by decide) ?_
  refine j_aload_n X dL_abortsWith_2 rfl rfl (q := 0) rfl ?_
  refine j_iload_n X dL_abortsWith_3 rfl rfl (q := 1) rfl ?_
  refine j_iload_n X dL_abortsWith_4 rfl rfl (q := 2) rfl ?_
  refine j_callT X hSt hZ (E := "java/lang/IllegalArgumentException") hC (wm_top (by decide)) ((fun _ => rfl) _) rfl lk_RL_77 mi_X5_abortsWith ms_X5_abortsWith ini_RX5 mc_X5_abortsWith md_X5_abortsWith ⟨Nat.le_of_ble_eq_true rfl, Nat.le_of_ble_eq_true rfl⟩ ⟨Nat.le_of_ble_eq_true rfl, Nat.le_of_ble_eq_true rfl⟩ rfl (Nat.le_of_ble_eq_true rfl) (as := [.int (x), .int (y)]) (rest := [.int (0), .ref (zA Z 8 0 0)]) rfl dL_abortsWith_5 htab [] ⟨0, 10, 13, 13⟩ [] rfl (fun z hz => absurd hz List.not_mem_nil) rfl (by decide) (List.mem_of_getElem? (i := 114) (by decide +kernel)) (List.mem_of_getElem? (i := 0) rfl) (fun q9 => ?_)
  refine j_astore X dL_abortsWith_13 rfl (by decide) (Ls2 := [(4, .ref (q9)), (0, .ref (zA Z (6) (0) (0))), (1, .int (x)), (2, .int (y)), (3, .ref (zA Z 8 0 0))]) rfl ?_
  refine j_iconst X dL_abortsWith_15 rfl (v := 1) (by decide) ?_
  exact K _ _ dL_abortsWith_16
set_option maxRecDepth 100000 in
set_option maxHeartbeats 4000000 in
theorem w_undo (l : Launch) (Z : wZ) (hO : zO Z = true) (S S1 : St) (h : Hl) (v : Int32) (hC : Ci l yX5_undo cX5_undo 1 .int 4 82 Z [.ref (zA Z (6) (0) (0))] S h v S1 h) : Cw l yL_undo cL_undo 3 [(0, 8, 11, 25)] 5 102 Z [.ref (zA Z (6) (0) (0)), .ref (zA Z 8 0 0)] S h 0 S1 (va_up h 1 v.toInt64) := by
  refine Cw.of rfl rfl (Nat.le_of_ble_eq_true rfl) (fun p e s mi args below meth c A0 Q X hSt hZ htab K => ?_)
  refine j_at rfl rfl (Ls3 := [(0, .ref (zA Z (6) (0) (0))), (1, .ref (zA Z 8 0 0))]) rfl rfl ?_
  refine j_aload_n X dL_undo_0 rfl rfl (q := 1) rfl ?_
  refine j_iconst X dL_undo_1 rfl (v := 0) (by decide) ?_
  refine j_aload_n X dL_undo_2 rfl rfl (q := 0) rfl ?_
  refine j_calli X hC (wm_top (by decide)) ((fun _ => rfl) _) rfl lk_RL_80 mi_X5_undo ms_X5_undo ini_RX5 mc_X5_undo md_X5_undo ⟨Nat.le_of_ble_eq_true rfl, Nat.le_of_ble_eq_true rfl⟩ ⟨Nat.le_of_ble_eq_true rfl, Nat.le_of_ble_eq_true rfl⟩ rfl (Nat.le_of_ble_eq_true rfl) (as := []) (rest := [.int (0), .ref (zA Z 8 0 0)]) rfl dL_undo_3 rfl ?_
  refine j_i2l X dL_undo_6 rfl ?_
  refine j_last X hO dL_undo_7 rfl ?_
  refine j_goto X (tgt := 14) dL_undo_8 (by decide) ?_
  refine j_iconst X dL_undo_14 rfl (v := 0) (by decide) ?_
  refine j_widen (Nat.zero_le 1) (Nat.zero_le 6) ?_
  exact K _ _ dL_undo_15
set_option maxRecDepth 100000 in
set_option maxHeartbeats 4000000 in
theorem wt_undo (l : Launch) (Z : wZ) (S : St) (h : Hl) (hC : Ct l yX5_undo cX5_undo 1 .int 6 82 Z [.ref (zA Z (6) (0) (0))] S h "java/lang/IllegalStateException") : Cw l yL_undo cL_undo 3 [(0, 8, 11, 25)] 7 102 Z [.ref (zA Z (6) (0) (0)), .ref (zA Z 8 0 0)] S h 1 S h := by
  refine Cw.of rfl rfl (Nat.le_of_ble_eq_true rfl) (fun p e s mi args below meth c A0 Q X hSt hZ htab K => ?_)
  refine j_at rfl rfl (Ls3 := [(0, .ref (zA Z (6) (0) (0))), (1, .ref (zA Z 8 0 0))]) rfl rfl ?_
  refine j_aload_n X dL_undo_0 rfl rfl (q := 1) rfl ?_
  refine j_iconst X dL_undo_1 rfl (v := 0) (by decide) ?_
  refine j_aload_n X dL_undo_2 rfl rfl (q := 0) rfl ?_
  refine j_callT X hSt hZ (E := "java/lang/IllegalStateException") hC (wm_top (by decide)) ((fun _ => rfl) _) rfl lk_RL_80 mi_X5_undo ms_X5_undo ini_RX5 mc_X5_undo md_X5_undo ⟨Nat.le_of_ble_eq_true rfl, Nat.le_of_ble_eq_true rfl⟩ ⟨Nat.le_of_ble_eq_true rfl, Nat.le_of_ble_eq_true rfl⟩ rfl (Nat.le_of_ble_eq_true rfl) (as := []) (rest := [.int (0), .ref (zA Z 8 0 0)]) rfl dL_undo_3 htab [] ⟨0, 8, 11, 25⟩ [] rfl (fun z hz => absurd hz List.not_mem_nil) rfl (by decide) (List.mem_of_getElem? (i := 217) (by decide +kernel)) (List.mem_of_getElem? (i := 1) rfl) (fun q9 => ?_)
  refine j_astore_n X dL_undo_11 rfl rfl (by decide) (Ls2 := [(2, .ref (q9)), (0, .ref (zA Z (6) (0) (0))), (1, .ref (zA Z 8 0 0))]) rfl ?_
  refine j_iconst X dL_undo_12 rfl (v := 1) (by decide) ?_
  exact K _ _ dL_undo_13

/-! the law's method refuses: what throws changes nothing -/
theorem lg_cmp_self (x : Int64) : lg_cmp x x = 0 := by unfold lg_cmp; simp
theorem hasC_4 (S : St) : pHasC S 0 4 = false := by unfold pHasC; simp
theorem hasC_m (S : St) : pHasC S 0 (-1) = false := by unfold pHasC; simp
theorem hasE_4 (S : St) : pHasE S 0 400 = false := by
  unfold pHasE
  rw [show nI (rmI 0) = 400 from by decide]
  simp
theorem hasE_m (S : St) : pHasE S 0 (-1) = false := by unfold pHasE; simp
set_option maxRecDepth 100000 in
set_option maxHeartbeats 4000000 in
theorem c_L_refuses (l : Launch) (Z : wZ) (S : St) (h : Hl) (hfl : l.stackTraces = false) (hcc : okI (S 0 4 0 4) 4) : Cq l yL_refuses (.code yL_refuses cL_refuses 4 (some .boolean)) 20 120 8 130 Z [.ref (zA Z (6) (0) (0))] S h (1) (S) h := by
  refine Cq.of rfl rfl (by decide) (Nat.le_of_ble_eq_true rfl) (fun p e s mi args below meth c A0 Q X hSt hZ K => ?_)
  refine j_at rfl rfl (Ls3 := [(0, .ref (zA Z (6) (0) (0)))]) rfl rfl ?_
  refine j_aload_n X dL_refuses_0 rfl rfl (q := 0) rfl ?_
  refine j_calll X (c_X5_digest l Z S h hcc) (wm_top (by decide)) ((fun _ => rfl) _) rfl lk_RL_132 mi_X5_digest ms_X5_digest ini_RX5 mc_X5_digest md_X5_digest ⟨Nat.le_of_ble_eq_true rfl, Nat.le_of_ble_eq_true rfl⟩ ⟨Nat.le_of_ble_eq_true rfl, Nat.le_of_ble_eq_true rfl⟩ rfl (Nat.le_of_ble_eq_true rfl) (as := []) (rest := []) rfl dL_refuses_1 rfl ?_
  refine j_lstore_n X dL_refuses_4 rfl rfl (by decide) (Ls2 := [(1, .long (pDigest S)), (0, .ref (zA Z (6) (0) (0)))]) rfl ?_
  refine j_aload_n X dL_refuses_5 rfl rfl (q := 1) rfl ?_
  refine j_iconst X dL_refuses_6 rfl (v := 1) (by decide) ?_
  refine j_iconst X dL_refuses_7 rfl (v := 0) (by decide) ?_
  refine j_iconst X dL_refuses_8 rfl (v := 4) (by decide) ?_
  refine j_callQW X hSt hZ (wt_begin l Z S h 1 0 4 (t_X5_begin l hfl Z S h 1 0 4 (fun z _ _ _ _ => z (by decide)))) lk_RL_136 mt_L_begin ini_RL mc_L_begin md_L_begin ⟨Nat.le_of_ble_eq_true rfl, Nat.le_of_ble_eq_true rfl⟩ ⟨Nat.le_of_ble_eq_true rfl, Nat.le_of_ble_eq_true rfl⟩ rfl (Nat.le_of_ble_eq_true rfl) (as := [.ref (zA Z (6) (0) (0)), .int (1), .int (0), .int (4)]) (rest := []) rfl dL_refuses_9 rfl ?_
  refine j_ldc X (v := -1000000901) dL_refuses_12 rfl (List.mem_of_getElem? (i := 100) (by decide +kernel)) ?_
  refine j_icmp_ne_f X dL_refuses_14 rfl (tgt := 104) (by decide) (by decide) ?_
  refine j_aload_n X dL_refuses_17 rfl rfl (q := 1) rfl ?_
  refine j_iconst X dL_refuses_18 rfl (v := 2) (by decide) ?_
  refine j_iconst X dL_refuses_19 rfl (v := 3) (by decide) ?_
  refine j_iconst X dL_refuses_20 rfl (v := 4) (by decide) ?_
  refine j_callQW X hSt hZ (wt_begin l Z S h 2 3 4 (t_X5_begin l hfl Z S h 2 3 4 (fun _ _ z _ _ => absurd z (by decide)))) lk_RL_136 mt_L_begin ini_RL mc_L_begin md_L_begin ⟨Nat.le_of_ble_eq_true rfl, Nat.le_of_ble_eq_true rfl⟩ ⟨Nat.le_of_ble_eq_true rfl, Nat.le_of_ble_eq_true rfl⟩ rfl (Nat.le_of_ble_eq_true rfl) (as := [.ref (zA Z (6) (0) (0)), .int (2), .int (3), .int (4)]) (rest := []) rfl dL_refuses_21 rfl ?_
  refine j_ldc X (v := -1000000901) dL_refuses_24 rfl (List.mem_of_getElem? (i := 100) (by decide +kernel)) ?_
  refine j_icmp_ne_f X dL_refuses_26 rfl (tgt := 104) (by decide) (by decide) ?_
  refine j_aload_n X dL_refuses_29 rfl rfl (q := 1) rfl ?_
  refine j_iconst X dL_refuses_30 rfl (v := -1) (by decide) ?_
  refine j_callQW X hSt hZ (wt_setPolicy l Z S h (-1) (t_X5_setPolicy l hfl Z S h (-1) (by decide))) lk_RL_139 mt_L_setPolicy ini_RL mc_L_setPolicy md_L_setPolicy ⟨Nat.le_of_ble_eq_true rfl, Nat.le_of_ble_eq_true rfl⟩ ⟨Nat.le_of_ble_eq_true rfl, Nat.le_of_ble_eq_true rfl⟩ rfl (Nat.le_of_ble_eq_true rfl) (as := [.ref (zA Z (6) (0) (0)), .int (-1)]) (rest := []) rfl dL_refuses_31 rfl ?_
  refine j_ldc X (v := -1000000901) dL_refuses_34 rfl (List.mem_of_getElem? (i := 100) (by decide +kernel)) ?_
  refine j_icmp_ne_f X dL_refuses_36 rfl (tgt := 104) (by decide) (by decide) ?_
  refine j_aload_n X dL_refuses_39 rfl rfl (q := 1) rfl ?_
  refine j_iconst X dL_refuses_40 rfl (v := -1) (by decide) ?_
  refine j_callQW X hSt hZ (wt_seed l Z S h (-1) (t_X5_seed l hfl Z S h (-1) (fun z _ => z (by decide)))) lk_RL_141 mt_L_seed ini_RL mc_L_seed md_L_seed ⟨Nat.le_of_ble_eq_true rfl, Nat.le_of_ble_eq_true rfl⟩ ⟨Nat.le_of_ble_eq_true rfl, Nat.le_of_ble_eq_true rfl⟩ rfl (Nat.le_of_ble_eq_true rfl) (as := [.ref (zA Z (6) (0) (0)), .int (-1)]) (rest := []) rfl dL_refuses_41 rfl ?_
  refine j_ldc X (v := -1000000901) dL_refuses_44 rfl (List.mem_of_getElem? (i := 100) (by decide +kernel)) ?_
  refine j_icmp_ne_f X dL_refuses_46 rfl (tgt := 104) (by decide) (by decide) ?_
  refine j_aload_n X dL_refuses_49 rfl rfl (q := 1) rfl ?_
  refine j_iconst X dL_refuses_50 rfl (v := 4) (by decide) ?_
  refine j_callQW X hSt hZ (wt_load l Z S h 4 (t_X5_load l hfl Z S h 4 (hasC_4 S))) lk_RL_143 mt_L_load ini_RL mc_L_load md_L_load ⟨Nat.le_of_ble_eq_true rfl, Nat.le_of_ble_eq_true rfl⟩ ⟨Nat.le_of_ble_eq_true rfl, Nat.le_of_ble_eq_true rfl⟩ rfl (Nat.le_of_ble_eq_true rfl) (as := [.ref (zA Z (6) (0) (0)), .int (4)]) (rest := []) rfl dL_refuses_51 rfl ?_
  refine j_ldc X (v := -1000000903) dL_refuses_54 rfl (List.mem_of_getElem? (i := 122) (by decide +kernel)) ?_
  refine j_icmp_ne_f X dL_refuses_56 rfl (tgt := 104) (by decide) (by decide) ?_
  refine j_aload_n X dL_refuses_59 rfl rfl (q := 1) rfl ?_
  refine j_iconst X dL_refuses_60 rfl (v := -1) (by decide) ?_
  refine j_callQW X hSt hZ (wt_again l Z S h (-1) (t_X5_again l hfl Z S h (-1) (hasC_m S))) lk_RL_145 mt_L_again ini_RL mc_L_again md_L_again ⟨Nat.le_of_ble_eq_true rfl, Nat.le_of_ble_eq_true rfl⟩ ⟨Nat.le_of_ble_eq_true rfl, Nat.le_of_ble_eq_true rfl⟩ rfl (Nat.le_of_ble_eq_true rfl) (as := [.ref (zA Z (6) (0) (0)), .int (-1)]) (rest := []) rfl dL_refuses_61 rfl ?_
  refine j_ldc X (v := -1000000903) dL_refuses_64 rfl (List.mem_of_getElem? (i := 122) (by decide +kernel)) ?_
  refine j_icmp_ne_f X dL_refuses_66 rfl (tgt := 104) (by decide) (by decide) ?_
  refine j_aload_n X dL_refuses_69 rfl rfl (q := 1) rfl ?_
  refine j_iconst X dL_refuses_70 rfl (v := 4) (by decide) ?_
  refine j_callQW X hSt hZ (wt_step l Z S h 4 (t_X5_step l hfl Z S h 4 (hasC_4 S))) lk_RL_147 mt_L_step ini_RL mc_L_step md_L_step ⟨Nat.le_of_ble_eq_true rfl, Nat.le_of_ble_eq_true rfl⟩ ⟨Nat.le_of_ble_eq_true rfl, Nat.le_of_ble_eq_true rfl⟩ rfl (Nat.le_of_ble_eq_true rfl) (as := [.ref (zA Z (6) (0) (0)), .int (4)]) (rest := []) rfl dL_refuses_71 rfl ?_
  refine j_ldc X (v := -1000000903) dL_refuses_74 rfl (List.mem_of_getElem? (i := 122) (by decide +kernel)) ?_
  refine j_icmp_ne_f X dL_refuses_76 rfl (tgt := 104) (by decide) (by decide) ?_
  refine j_aload_n X dL_refuses_79 rfl rfl (q := 1) rfl ?_
  refine j_iconst X dL_refuses_80 rfl (v := -1) (by decide) ?_
  refine j_callQW X hSt hZ (wt_run l Z S h (-1) (t_X5_run l hfl Z S h (-1) (by decide))) lk_RL_149 mt_L_run ini_RL mc_L_run md_L_run ⟨Nat.le_of_ble_eq_true rfl, Nat.le_of_ble_eq_true rfl⟩ ⟨Nat.le_of_ble_eq_true rfl, Nat.le_of_ble_eq_true rfl⟩ rfl (Nat.le_of_ble_eq_true rfl) (as := [.ref (zA Z (6) (0) (0)), .int (-1)]) (rest := []) rfl dL_refuses_81 rfl ?_
  refine j_ldc X (v := -1000000901) dL_refuses_84 rfl (List.mem_of_getElem? (i := 100) (by decide +kernel)) ?_
  refine j_icmp_ne_f X dL_refuses_86 rfl (tgt := 104) (by decide) (by decide) ?_
  refine j_aload_n X dL_refuses_89 rfl rfl (q := 1) rfl ?_
  refine j_iconst X dL_refuses_90 rfl (v := -1) (by decide) ?_
  refine j_iconst X dL_refuses_91 rfl (v := 5) (by decide) ?_
  refine j_callQW X hSt hZ (wt_poke l Z S h (-1) 5 (t_X5_poke l hfl Z S h (-1) 5 (by decide))) lk_RL_151 mt_L_poke ini_RL mc_L_poke md_L_poke ⟨Nat.le_of_ble_eq_true rfl, Nat.le_of_ble_eq_true rfl⟩ ⟨Nat.le_of_ble_eq_true rfl, Nat.le_of_ble_eq_true rfl⟩ rfl (Nat.le_of_ble_eq_true rfl) (as := [.ref (zA Z (6) (0) (0)), .int (-1), .int (5)]) (rest := []) rfl dL_refuses_92 rfl ?_
  refine j_ldc X (v := -1000000903) dL_refuses_95 rfl (List.mem_of_getElem? (i := 122) (by decide +kernel)) ?_
  refine j_icmp_ne_f X dL_refuses_97 rfl (tgt := 104) (by decide) (by decide) ?_
  refine j_iconst X dL_refuses_100 rfl (v := 1) (by decide) ?_
  refine j_goto X (tgt := 105) dL_refuses_101 (by decide) ?_
  refine j_istore_n X dL_refuses_105 rfl rfl (by decide) (Ls2 := [(3, .int (1)), (1, .long (pDigest S)), (0, .ref (zA Z (6) (0) (0)))]) rfl ?_
  refine j_iload_n X dL_refuses_106 rfl rfl (q := 0) rfl ?_
  refine j_if_eq_f X dL_refuses_107 rfl (tgt := 238) (by decide) (by decide) ?_
  refine j_aload_n X dL_refuses_110 rfl rfl (q := 2) rfl ?_
  refine j_iconst X dL_refuses_111 rfl (v := 4) (by decide) ?_
  refine j_iconst X dL_refuses_112 rfl (v := 0) (by decide) ?_
  refine j_callQW X hSt hZ (wt_state l Z S h 4 0 (t_X5_state l hfl Z S h 4 0 (fun z _ => by rw [hasC_4] at z; cases z))) lk_RL_102 mt_L_state ini_RL mc_L_state md_L_state ⟨Nat.le_of_ble_eq_true rfl, Nat.le_of_ble_eq_true rfl⟩ ⟨Nat.le_of_ble_eq_true rfl, Nat.le_of_ble_eq_true rfl⟩ rfl (Nat.le_of_ble_eq_true rfl) (as := [.ref (zA Z (6) (0) (0)), .int (4), .int (0)]) (rest := []) rfl dL_refuses_113 rfl ?_
  refine j_ldc X (v := -1000000903) dL_refuses_116 rfl (List.mem_of_getElem? (i := 122) (by decide +kernel)) ?_
  refine j_icmp_ne_f X dL_refuses_118 rfl (tgt := 238) (by decide) (by decide) ?_
  refine j_aload_n X dL_refuses_121 rfl rfl (q := 2) rfl ?_
  refine j_iconst X dL_refuses_122 rfl (v := 0) (by decide) ?_
  refine j_bipush X dL_refuses_123 rfl (v := 8) (by decide) ?_
  refine j_callQW X hSt hZ (wt_cached l Z S h 0 8 (t_X5_cached l hfl Z S h 0 8 (fun _ z => absurd z (by decide)))) lk_RL_107 mt_L_cached ini_RL mc_L_cached md_L_cached ⟨Nat.le_of_ble_eq_true rfl, Nat.le_of_ble_eq_true rfl⟩ ⟨Nat.le_of_ble_eq_true rfl, Nat.le_of_ble_eq_true rfl⟩ rfl (Nat.le_of_ble_eq_true rfl) (as := [.ref (zA Z (6) (0) (0)), .int (0), .int (8)]) (rest := []) rfl dL_refuses_125 rfl ?_
  refine j_ldc X (v := -1000000903) dL_refuses_128 rfl (List.mem_of_getElem? (i := 122) (by decide +kernel)) ?_
  refine j_icmp_ne_f X dL_refuses_130 rfl (tgt := 238) (by decide) (by decide) ?_
  refine j_aload_n X dL_refuses_133 rfl rfl (q := 2) rfl ?_
  refine j_iconst X dL_refuses_134 rfl (v := -1) (by decide) ?_
  refine j_iconst X dL_refuses_135 rfl (v := 0) (by decide) ?_
  refine j_callQW X hSt hZ (wt_memory l Z S h (-1) false (t_X5_memory l hfl Z S h (-1) false (by decide))) lk_RL_99 mt_L_memory ini_RL mc_L_memory md_L_memory ⟨Nat.le_of_ble_eq_true rfl, Nat.le_of_ble_eq_true rfl⟩ ⟨Nat.le_of_ble_eq_true rfl, Nat.le_of_ble_eq_true rfl⟩ rfl (Nat.le_of_ble_eq_true rfl) (as := [.ref (zA Z (6) (0) (0)), .int (-1), .int (0)]) (rest := []) rfl dL_refuses_136 rfl ?_
  refine j_ldc X (v := -1000000903) dL_refuses_139 rfl (List.mem_of_getElem? (i := 122) (by decide +kernel)) ?_
  refine j_icmp_ne_f X dL_refuses_141 rfl (tgt := 238) (by decide) (by decide) ?_
  refine j_aload_n X dL_refuses_144 rfl rfl (q := 2) rfl ?_
  refine j_iconst X dL_refuses_145 rfl (v := 4) (by decide) ?_
  refine j_iconst X dL_refuses_146 rfl (v := 1) (by decide) ?_
  refine j_callQW X hSt hZ (wt_set l Z S h 4 true (t_X5_set l hfl Z S h 4 true (hasC_4 S))) lk_RL_105 mt_L_set ini_RL mc_L_set md_L_set ⟨Nat.le_of_ble_eq_true rfl, Nat.le_of_ble_eq_true rfl⟩ ⟨Nat.le_of_ble_eq_true rfl, Nat.le_of_ble_eq_true rfl⟩ rfl (Nat.le_of_ble_eq_true rfl) (as := [.ref (zA Z (6) (0) (0)), .int (4), .int (1)]) (rest := []) rfl dL_refuses_147 rfl ?_
  refine j_ldc X (v := -1000000903) dL_refuses_150 rfl (List.mem_of_getElem? (i := 122) (by decide +kernel)) ?_
  refine j_icmp_ne_f X dL_refuses_152 rfl (tgt := 238) (by decide) (by decide) ?_
  refine j_aload_n X dL_refuses_155 rfl rfl (q := 2) rfl ?_
  refine j_iconst X dL_refuses_156 rfl (v := 4) (by decide) ?_
  refine j_bipush X dL_refuses_157 rfl (v := 6) (by decide) ?_
  refine j_callQW X hSt hZ (wt_core l Z S h 4 6 (t_X5_core l hfl Z S h 4 6 (hasC_4 S))) lk_RL_109 mt_L_core ini_RL mc_L_core md_L_core ⟨Nat.le_of_ble_eq_true rfl, Nat.le_of_ble_eq_true rfl⟩ ⟨Nat.le_of_ble_eq_true rfl, Nat.le_of_ble_eq_true rfl⟩ rfl (Nat.le_of_ble_eq_true rfl) (as := [.ref (zA Z (6) (0) (0)), .int (4), .int (6)]) (rest := []) rfl dL_refuses_159 rfl ?_
  refine j_ldc X (v := -1000000903) dL_refuses_162 rfl (List.mem_of_getElem? (i := 122) (by decide +kernel)) ?_
  refine j_icmp_ne_f X dL_refuses_164 rfl (tgt := 238) (by decide) (by decide) ?_
  refine j_aload_n X dL_refuses_167 rfl rfl (q := 2) rfl ?_
  refine j_iconst X dL_refuses_168 rfl (v := -1) (by decide) ?_
  refine j_callQW X hSt hZ (wt_value l Z S h (-1) (t_X5_value l hfl Z S h (-1) (fun z _ => z (by decide)))) lk_RL_97 mt_L_value ini_RL mc_L_value md_L_value ⟨Nat.le_of_ble_eq_true rfl, Nat.le_of_ble_eq_true rfl⟩ ⟨Nat.le_of_ble_eq_true rfl, Nat.le_of_ble_eq_true rfl⟩ rfl (Nat.le_of_ble_eq_true rfl) (as := [.ref (zA Z (6) (0) (0)), .int (-1)]) (rest := []) rfl dL_refuses_169 rfl ?_
  refine j_ldc X (v := -1000000901) dL_refuses_172 rfl (List.mem_of_getElem? (i := 100) (by decide +kernel)) ?_
  refine j_icmp_ne_f X dL_refuses_174 rfl (tgt := 238) (by decide) (by decide) ?_
  refine j_aload_n X dL_refuses_177 rfl rfl (q := 2) rfl ?_
  refine j_iconst X dL_refuses_178 rfl (v := -1) (by decide) ?_
  refine j_callQW X hSt hZ (wt_counter l Z S h (-1) (t_X5_counter l hfl Z S h (-1) (fun z _ => z (by decide)))) lk_RL_114 mt_L_counter ini_RL mc_L_counter md_L_counter ⟨Nat.le_of_ble_eq_true rfl, Nat.le_of_ble_eq_true rfl⟩ ⟨Nat.le_of_ble_eq_true rfl, Nat.le_of_ble_eq_true rfl⟩ rfl (Nat.le_of_ble_eq_true rfl) (as := [.ref (zA Z (6) (0) (0)), .int (-1)]) (rest := []) rfl dL_refuses_179 rfl ?_
  refine j_ldc X (v := -1000000901) dL_refuses_182 rfl (List.mem_of_getElem? (i := 100) (by decide +kernel)) ?_
  refine j_icmp_ne_f X dL_refuses_184 rfl (tgt := 238) (by decide) (by decide) ?_
  refine j_aload_n X dL_refuses_187 rfl rfl (q := 2) rfl ?_
  refine j_sipush X dL_refuses_188 rfl (v := 400) (by decide) ?_
  refine j_bipush X dL_refuses_191 rfl (v := 9) (by decide) ?_
  refine j_callQW X hSt hZ (wt_commit l Z S h 400 9 (t_X5_commit l hfl Z S h 400 9 (hasE_4 S))) lk_RL_123 mt_L_commit ini_RL mc_L_commit md_L_commit ⟨Nat.le_of_ble_eq_true rfl, Nat.le_of_ble_eq_true rfl⟩ ⟨Nat.le_of_ble_eq_true rfl, Nat.le_of_ble_eq_true rfl⟩ rfl (Nat.le_of_ble_eq_true rfl) (as := [.ref (zA Z (6) (0) (0)), .int (400), .int (9)]) (rest := []) rfl dL_refuses_193 rfl ?_
  refine j_ldc X (v := -1000000903) dL_refuses_196 rfl (List.mem_of_getElem? (i := 122) (by decide +kernel)) ?_
  refine j_icmp_ne_f X dL_refuses_198 rfl (tgt := 238) (by decide) (by decide) ?_
  refine j_aload_n X dL_refuses_201 rfl rfl (q := 2) rfl ?_
  refine j_iconst X dL_refuses_202 rfl (v := -1) (by decide) ?_
  refine j_iconst X dL_refuses_203 rfl (v := 0) (by decide) ?_
  refine j_iconst X dL_refuses_204 rfl (v := 1) (by decide) ?_
  refine j_callQW X hSt hZ (wt_commitValue l Z S h (-1) 0 true (t_X5_commitValue l hfl Z S h (-1) 0 true (fun z _ => by rw [hasE_m] at z; cases z))) lk_RL_125 mt_L_commitValue ini_RL mc_L_commitValue md_L_commitValue ⟨Nat.le_of_ble_eq_true rfl, Nat.le_of_ble_eq_true rfl⟩ ⟨Nat.le_of_ble_eq_true rfl, Nat.le_of_ble_eq_true rfl⟩ rfl (Nat.le_of_ble_eq_true rfl) (as := [.ref (zA Z (6) (0) (0)), .int (-1), .int (0), .int (1)]) (rest := []) rfl dL_refuses_205 rfl ?_
  refine j_ldc X (v := -1000000903) dL_refuses_208 rfl (List.mem_of_getElem? (i := 122) (by decide +kernel)) ?_
  refine j_icmp_ne_f X dL_refuses_210 rfl (tgt := 238) (by decide) (by decide) ?_
  refine j_aload_n X dL_refuses_213 rfl rfl (q := 2) rfl ?_
  refine j_iconst X dL_refuses_214 rfl (v := -1) (by decide) ?_
  refine j_callQW X hSt hZ (wt_finish l Z S h (-1) (t_X5_finish l hfl Z S h (-1) (by decide))) lk_RL_153 mt_L_finish ini_RL mc_L_finish md_L_finish ⟨Nat.le_of_ble_eq_true rfl, Nat.le_of_ble_eq_true rfl⟩ ⟨Nat.le_of_ble_eq_true rfl, Nat.le_of_ble_eq_true rfl⟩ rfl (Nat.le_of_ble_eq_true rfl) (as := [.ref (zA Z (6) (0) (0)), .int (-1)]) (rest := []) rfl dL_refuses_215 rfl ?_
  refine j_ldc X (v := -1000000901) dL_refuses_218 rfl (List.mem_of_getElem? (i := 100) (by decide +kernel)) ?_
  refine j_icmp_ne_f X dL_refuses_220 rfl (tgt := 238) (by decide) (by decide) ?_
  refine j_aload_n X dL_refuses_223 rfl rfl (q := 2) rfl ?_
  refine j_iconst X dL_refuses_224 rfl (v := 3) (by decide) ?_
  refine j_iconst X dL_refuses_225 rfl (v := 0) (by decide) ?_
  refine j_callQW X hSt hZ (wt_abortsWith l Z S h 3 0 (t_X5_abortsWith l hfl Z S h 3 0 (fun z _ => absurd z (by decide)))) lk_RL_155 mt_L_abortsWith ini_RL mc_L_abortsWith md_L_abortsWith ⟨Nat.le_of_ble_eq_true rfl, Nat.le_of_ble_eq_true rfl⟩ ⟨Nat.le_of_ble_eq_true rfl, Nat.le_of_ble_eq_true rfl⟩ rfl (Nat.le_of_ble_eq_true rfl) (as := [.ref (zA Z (6) (0) (0)), .int (3), .int (0)]) (rest := []) rfl dL_refuses_226 rfl ?_
  refine j_ldc X (v := -1000000901) dL_refuses_229 rfl (List.mem_of_getElem? (i := 100) (by decide +kernel)) ?_
  refine j_icmp_ne_f X dL_refuses_231 rfl (tgt := 238) (by decide) (by decide) ?_
  refine j_iconst X dL_refuses_234 rfl (v := 1) (by decide) ?_
  refine j_goto X (tgt := 239) dL_refuses_235 (by decide) ?_
  refine j_istore_n X dL_refuses_239 rfl rfl (by decide) (Ls2 := [(3, .int (1)), (1, .long (pDigest S)), (0, .ref (zA Z (6) (0) (0)))]) rfl ?_
  refine j_iload_n X dL_refuses_240 rfl rfl (q := 0) rfl ?_
  refine j_if_eq_f X dL_refuses_241 rfl (tgt := 257) (by decide) (by decide) ?_
  refine j_aload_n X dL_refuses_244 rfl rfl (q := 2) rfl ?_
  refine j_calll X (c_X5_digest l Z S h hcc) (wm_top (by decide)) ((fun _ => rfl) _) rfl lk_RL_132 mi_X5_digest ms_X5_digest ini_RX5 mc_X5_digest md_X5_digest ⟨Nat.le_of_ble_eq_true rfl, Nat.le_of_ble_eq_true rfl⟩ ⟨Nat.le_of_ble_eq_true rfl, Nat.le_of_ble_eq_true rfl⟩ rfl (Nat.le_of_ble_eq_true rfl) (as := []) (rest := []) rfl dL_refuses_245 rfl ?_
  refine j_lload_n X dL_refuses_248 rfl rfl (q := 1) rfl ?_
  refine j_lcmp X dL_refuses_249 rfl ?_
  refine j_if_ne_f X dL_refuses_250 rfl (tgt := 257) (by decide) (lg_cmp_self _) ?_
  refine j_iconst X dL_refuses_253 rfl (v := 1) (by decide) ?_
  refine j_goto X (tgt := 258) dL_refuses_254 (by decide) ?_
  refine j_widen (k2 := 20) (n2 := 120) (Nat.le_of_ble_eq_true rfl) (Nat.le_of_ble_eq_true rfl) ?_
  exact j_ret (by first | with_reducible rfl | (simp []; done) | (simp_all []; done) | rfl) (by first | with_reducible rfl | (simp []; done) | (simp_all []; done) | rfl) rfl (K _ _ dL_refuses_258)
